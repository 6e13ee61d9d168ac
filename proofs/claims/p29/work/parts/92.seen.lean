/-! What is seen is told by the abstract state alone; a new object; a model beside a class. -/
theorem count_now {x y : ClC} (hq : x.1 = y.1) {k : Nat} (hk : k < 9) : f_X5_count (nI k) x = f_X5_count (nI k) y := by
  obtain ⟨x1, x2⟩ := x
  obtain ⟨y1, y2⟩ := y
  have hq : x1 = y1 := hq
  subst hq
  unfold f_X5_count
  rcases (show k = 0 ∨ k = 1 ∨ k = 2 ∨ k = 3 ∨ k = 4 ∨ k = 5 ∨ k = 6 ∨ k = 7 ∨ k = 8 by omega) with q | q | q | q | q | q | q | q | q <;> subst q
  · rw [if_pos (by decide), if_pos (by decide)]
  · rw [if_neg (by decide), if_pos (by decide), if_neg (by decide), if_pos (by decide)]
  · rw [if_neg (by decide), if_neg (by decide), if_pos (by decide), if_neg (by decide), if_neg (by decide), if_pos (by decide)]
  · rw [if_neg (by decide), if_neg (by decide), if_neg (by decide), if_pos (by decide), if_neg (by decide), if_neg (by decide), if_neg (by decide), if_pos (by decide)]
  · rw [if_neg (by decide), if_neg (by decide), if_neg (by decide), if_neg (by decide), if_pos (by decide), if_neg (by decide), if_neg (by decide), if_neg (by decide), if_neg (by decide), if_pos (by decide)]
  · rw [if_neg (by decide), if_neg (by decide), if_neg (by decide), if_neg (by decide), if_neg (by decide), if_pos (by decide), if_neg (by decide), if_neg (by decide), if_neg (by decide), if_neg (by decide), if_neg (by decide), if_pos (by decide)]
  · rw [if_neg (by decide), if_neg (by decide), if_neg (by decide), if_neg (by decide), if_neg (by decide), if_neg (by decide), if_pos (by decide), if_neg (by decide), if_neg (by decide), if_neg (by decide), if_neg (by decide), if_neg (by decide), if_neg (by decide), if_pos (by decide)]
  · rw [if_neg (by decide), if_neg (by decide), if_neg (by decide), if_neg (by decide), if_neg (by decide), if_neg (by decide), if_neg (by decide), if_pos (by decide), if_neg (by decide), if_neg (by decide), if_neg (by decide), if_neg (by decide), if_neg (by decide), if_neg (by decide), if_neg (by decide), if_pos (by decide)]
  · rw [if_neg (by decide), if_neg (by decide), if_neg (by decide), if_neg (by decide), if_neg (by decide), if_neg (by decide), if_neg (by decide), if_neg (by decide), if_pos (by decide), if_neg (by decide), if_neg (by decide), if_neg (by decide), if_neg (by decide), if_neg (by decide), if_neg (by decide), if_neg (by decide), if_neg (by decide), if_pos (by decide)]
/-- a model with this array, and no more -/
abbrev mO (m : Fn) : MdC := ((0 : Int32), m, m, m, nI 0, m, (0 : Int32), (0 : Int32), m, (0 : Int32), (0 : Int64))
section
variable {a : AbT} {x y : ClC}
theorem count_2 (ho : aOk a) (hc : cV a x.1) (hd : cV a y.1) {k : Nat} (hk : k < 9) : ∃ r, f_X5_count (nI k) x = some (.inr r) ∧ f_X5_count (nI k) y = some (.inr r) := by
  obtain ⟨m, hm⟩ := ex_m ho
  obtain ⟨r, r1, r2⟩ := count_v (x := (x.1, x.2.1, (x.2.2.1.1, nI 0), x.2.2.2)) (o := mO m) (h := 0) (k := k) ho hc hm rfl rfl (by omega)
  obtain ⟨s, s1, s2⟩ := count_v (x := (y.1, y.2.1, (y.2.2.1.1, nI 0), y.2.2.2)) (o := mO m) (h := 0) (k := k) ho hd hm rfl rfl (by omega)
  have hrs := Option.some.inj (r2.symm.trans s2)
  subst hrs
  exact ⟨r, (count_now (x := x) (y := (x.1, x.2.1, (x.2.2.1.1, nI 0), x.2.2.2)) rfl hk).trans r1, (count_now (x := y) (y := (y.1, y.2.1, (y.2.2.1.1, nI 0), y.2.2.2)) rfl hk).trans s1⟩
theorem c_count0 (ho : aOk a) (hc : cV a x.1) : f_X5_count 0 x = some (.inr (nI (aCnt a (aN a)))) := by
  unfold f_X5_count
  rw [if_pos rfl, w_things ho hc.2.1]
  rfl
theorem c_count2 (hc : cV a x.1) : f_X5_count 2 x = some (.inr (nI (aC a))) := by
  unfold f_X5_count
  rw [if_neg (by decide), if_neg (by decide), if_pos rfl]
  unfold f_X2_cellsNow
  rw [hc.1.1]
  rfl
theorem c_count9 {h : Nat} (hh : x.2.2.1.2 = nI h) : f_X5_count 9 x = some (.inr (nI h)) := by
  unfold f_X5_count
  rw [if_neg (by decide), if_neg (by decide), if_neg (by decide), if_neg (by decide), if_neg (by decide), if_neg (by decide), if_neg (by decide), if_neg (by decide), if_neg (by decide), if_pos rfl]
  unfold f_X0_size
  rw [hh]
  rfl
theorem at_2 (ho : aOk a) (hc : cV a x.1) (hd : cV a y.1) {p : Nat} (hp : p < 2 ^ 31) : ∃ r, f_X5_at (nI p) x = some (.inr r) ∧ f_X5_at (nI p) y = some (.inr r) ∧ aAt a p r := by
  obtain ⟨r, r1, r2⟩ := w_at ho hc hp
  obtain ⟨s, s1, s2⟩ := w_at ho hd hp
  have hrs := r2.det s2
  subst hrs
  exact ⟨r, r1, s1, r2⟩
theorem thing_2 (ho : aOk a) (hc : cV a x.1) (hd : cV a y.1) {q k : Nat} (hq : q < aN a) (hw : 0 < aW a q) (hk : k < 6) : ∃ r, f_X5_thing (nI (aHd a q)) (nI k) x = some (.inr r) ∧ f_X5_thing (nI (aHd a q)) (nI k) y = some (.inr r) := by
  obtain ⟨m, hm⟩ := ex_m ho
  have h1 := w_own ho hc.1 hq hw
  have h2 := w_own ho hd.1 hq hw
  obtain ⟨r, r1, r2⟩ := thing_v (o := mO m) ho hc hm hq hw h1.1 h1.2 hk
  obtain ⟨s, s1, s2⟩ := thing_v (o := mO m) ho hd hm hq hw h2.1 h2.2 hk
  have hrs := Option.some.inj (r2.symm.trans s2)
  subst hrs
  exact ⟨r, r1, s1⟩
theorem cell1_2 (ho : aOk a) (hc : cV a x.1) (hd : cV a y.1) {c : Nat} (h1 : c < aC a) : ∃ r, f_X5_cell (nI c) 1 x = some (.inr r) ∧ f_X5_cell (nI c) 1 y = some (.inr r) := by
  obtain ⟨m, hm⟩ := ex_m ho
  obtain ⟨r, r1, r2⟩ := cell1_v (o := mO m) ho hc hm h1
  obtain ⟨s, s1, s2⟩ := cell1_v (o := mO m) ho hd hm h1
  have hrs := Option.some.inj (r2.symm.trans s2)
  subst hrs
  exact ⟨r, r1, s1⟩
theorem cell0_1 (ho : aOk a) (hc : cV a x.1) {c : Nat} (h1 : c < aC a) : f_X5_cell (nI c) 0 x = some (.inr (nI (aS a c))) := by
  obtain ⟨m, hm⟩ := ex_m ho
  exact (cell0_v (o := mO m) ho hc hm h1).1
theorem walker_2 (ho : aOk a) (hc : cV a x.1) (hd : cV a y.1) {i k : Nat} (hi : i < 4) (hk : k < 3) : ∃ r, f_X5_walker (nI i) (nI k) x = some (.inr r) ∧ f_X5_walker (nI i) (nI k) y = some (.inr r) := by
  obtain ⟨m, hm⟩ := ex_m ho
  obtain ⟨r, r1, r2⟩ := walker_v (o := mO m) ho hc hm hi hk
  obtain ⟨s, s1, s2⟩ := walker_v (o := mO m) ho hd hm hi hk
  have hrs := Option.some.inj (r2.symm.trans s2)
  subst hrs
  exact ⟨r, r1, s1⟩
theorem sn_walk (ho : aOk a) (hc : cV a x.1) (hd : cV a y.1) : ∀ (d k : Nat) (H : Int64), 12 - k = d → k ≤ 12 → ∃ H2, (∀ fu, d < fu → f_L_seen_134 fu H (nI k) x = some H2) ∧ ∀ fu, d < fu → f_L_seen_134 fu H (nI k) y = some H2 := by
  intro d
  induction d with
  | zero =>
    intro k H h1 h2
    have key : ∀ z fu, 0 < fu → f_L_seen_134 fu H (nI k) z = some H := fun z fu hf => by
      obtain ⟨f, rfl⟩ : ∃ f, fu = f + 1 := ⟨fu - 1, by omega⟩
      rw [f_L_seen_134.eq_2, show (12 : Int32) = nI 12 from rfl, if_pos (nI_le (by omega) (by omega))]
    exact ⟨H, key x, key y⟩
  | succ d ih =>
    intro k H h1 h2
    obtain ⟨r, r1, r2⟩ := walker_2 ho hc hd (i := k / 3) (k := k % 3) (by omega) (by omega)
    obtain ⟨H2, e1, e2⟩ := ih (k + 1) (31 * H + r.toInt64) (by omega) (by omega)
    have key : ∀ z fu, d + 1 < fu → f_X5_walker (nI (k / 3)) (nI (k % 3)) z = some (.inr r) → (∀ fu, d < fu → f_L_seen_134 fu (31 * H + r.toInt64) (nI (k + 1)) z = some H2) → f_L_seen_134 fu H (nI k) z = some H2 := fun z fu hf g1 g2 => by
      obtain ⟨f, rfl⟩ : ∃ f, fu = f + 1 := ⟨fu - 1, by omega⟩
      rw [f_L_seen_134.eq_2, show (12 : Int32) = nI 12 from rfl, if_neg (nI_ge (by omega) (by omega)), li3, nI_mod (by omega) (by omega), nI_div (by omega) (by omega), g1, rt_r, nI_1]
      exact g2 f (by omega)
    exact ⟨H2, fun fu hf => key x fu hf r1 e1, fun fu hf => key y fu hf r2 e2⟩
theorem sn_cells (ho : aOk a) (hc : cV a x.1) (hd : cV a y.1) : ∀ (d k : Nat) (H : Int64), aC a - k = d → k ≤ aC a → ∃ H2, (∀ fu, d < fu → f_L_seen_91 fu H (nI k) x = some H2) ∧ ∀ fu, d < fu → f_L_seen_91 fu H (nI k) y = some H2 := by
  have hC := aOk.C a ho
  intro d
  induction d with
  | zero =>
    intro k H h1 h2
    obtain ⟨H2, e1, e2⟩ := sn_walk ho hc hd 12 0 H (by omega) (by omega)
    have key : ∀ z : ClC, cV a z.1 → (∀ fu, 12 < fu → f_L_seen_134 fu H (nI 0) z = some H2) → ∀ fu, 0 < fu → f_L_seen_91 fu H (nI k) z = some H2 := fun z g1 g2 fu hf => by
      obtain ⟨f, rfl⟩ : ∃ f, fu = f + 1 := ⟨fu - 1, by omega⟩
      rw [f_L_seen_91.eq_2, c_count2 g1, rt_r, if_pos (nI_le (by omega) (by omega))]
      exact g2 FU (by unfold FU; omega)
    exact ⟨H2, key x hc e1, key y hd e2⟩
  | succ d ih =>
    intro k H h1 h2
    obtain ⟨r, r1, r2⟩ := cell1_2 ho hc hd (c := k) (by omega)
    obtain ⟨H2, e1, e2⟩ := ih (k + 1) (31 * (31 * H + (nI (aS a k)).toInt64) + r.toInt64) (by omega) (by omega)
    have key : ∀ z : ClC, cV a z.1 → ∀ fu, d + 1 < fu → f_X5_cell (nI k) 1 z = some (.inr r) → (∀ fu, d < fu → f_L_seen_91 fu (31 * (31 * H + (nI (aS a k)).toInt64) + r.toInt64) (nI (k + 1)) z = some H2) → f_L_seen_91 fu H (nI k) z = some H2 := fun z g0 fu hf g1 g2 => by
      obtain ⟨f, rfl⟩ : ∃ f, fu = f + 1 := ⟨fu - 1, by omega⟩
      rw [f_L_seen_91.eq_2, c_count2 g0, rt_r, if_neg (nI_ge (by omega) (by omega)), cell0_1 ho g0 (by omega), rt_r, g1, rt_r, nI_1]
      exact g2 f (by omega)
    exact ⟨H2, fun fu hf => key x hc fu hf r1 e1, fun fu hf => key y hd fu hf r2 e2⟩
theorem sn_things (ho : aOk a) (hc : cV a x.1) (hd : cV a y.1) : ∀ (d k : Nat) (H : Int64), 6 * aCnt a (aN a) - k = d → k ≤ 6 * aCnt a (aN a) → ∃ H2, (∀ fu, d < fu → f_L_seen_33 fu H (nI k) x = some H2) ∧ ∀ fu, d < fu → f_L_seen_33 fu H (nI k) y = some H2 := by
  have hC := aOk.C a ho
  have hT := aCnt.cells ho
  intro d
  induction d with
  | zero =>
    intro k H h1 h2
    obtain ⟨H2, e1, e2⟩ := sn_cells ho hc hd (aC a) 0 H (by omega) (by omega)
    have key : ∀ z : ClC, cV a z.1 → (∀ fu, aC a < fu → f_L_seen_91 fu H (nI 0) z = some H2) → ∀ fu, 0 < fu → f_L_seen_33 fu H (nI k) z = some H2 := fun z g1 g2 fu hf => by
      obtain ⟨f, rfl⟩ : ∃ f, fu = f + 1 := ⟨fu - 1, by omega⟩
      rw [f_L_seen_33.eq_2, c_count0 ho g1, rt_r, li6, nI_mul, if_pos (nI_le (by omega) (by omega))]
      exact g2 FU (by unfold FU; omega)
    exact ⟨H2, key x hc e1, key y hd e2⟩
  | succ d ih =>
    intro k H h1 h2
    obtain ⟨r, r1, r2, r3⟩ := at_2 ho hc hd (p := k / 6) (by omega)
    rcases r3 with ⟨j, j1, j2, j3, j4⟩ | ⟨j1, j2⟩
    · obtain ⟨s, s1, s2⟩ := thing_2 ho hc hd j1 (by omega) (k := k % 6) (by omega)
      rw [← j4] at s1 s2
      obtain ⟨H2, e1, e2⟩ := ih (k + 1) (31 * (31 * H + r.toInt64) + s.toInt64) (by omega) (by omega)
      have key : ∀ z : ClC, cV a z.1 → ∀ fu, d + 1 < fu → f_X5_at (nI (k / 6)) z = some (.inr r) → f_X5_thing r (nI (k % 6)) z = some (.inr s) → (∀ fu, d < fu → f_L_seen_33 fu (31 * (31 * H + r.toInt64) + s.toInt64) (nI (k + 1)) z = some H2) → f_L_seen_33 fu H (nI k) z = some H2 := fun z g0 fu hf g1 g2 g3 => by
        obtain ⟨f, rfl⟩ : ∃ f, fu = f + 1 := ⟨fu - 1, by omega⟩
        rw [f_L_seen_33.eq_2, c_count0 ho g0, rt_r, li6, nI_mul, if_neg (nI_ge (by omega) (by omega)), nI_mod (by omega) (by omega), nI_div (by omega) (by omega), g1, rt_r, rt_r, g2, rt_r, nI_1]
        exact g3 f (by omega)
      exact ⟨H2, fun fu hf => key x hc fu hf r1 s1 e1, fun fu hf => key y hd fu hf r2 s2 e2⟩
    · omega
theorem sn_counts (ho : aOk a) (hc : cV a x.1) (hd : cV a y.1) : ∀ (d k : Nat) (H : Int64), 9 - k = d → k ≤ 9 → ∃ H2, (∀ fu, d < fu → f_L_seen_6 fu H (nI k) x = some H2) ∧ ∀ fu, d < fu → f_L_seen_6 fu H (nI k) y = some H2 := by
  have hT := aCnt.cells ho
  intro d
  induction d with
  | zero =>
    intro k H h1 h2
    obtain ⟨H2, e1, e2⟩ := sn_things ho hc hd (6 * aCnt a (aN a)) 0 H (by omega) (by omega)
    have key : ∀ z : ClC, (∀ fu, 6 * aCnt a (aN a) < fu → f_L_seen_33 fu H (nI 0) z = some H2) → ∀ fu, 0 < fu → f_L_seen_6 fu H (nI k) z = some H2 := fun z g2 fu hf => by
      obtain ⟨f, rfl⟩ : ∃ f, fu = f + 1 := ⟨fu - 1, by omega⟩
      rw [f_L_seen_6.eq_2, li9, if_pos (nI_le (by omega) (by omega))]
      exact g2 FU (by unfold FU; omega)
    exact ⟨H2, key x e1, key y e2⟩
  | succ d ih =>
    intro k H h1 h2
    obtain ⟨r, r1, r2⟩ := count_2 ho hc hd (k := k) (by omega)
    obtain ⟨H2, e1, e2⟩ := ih (k + 1) (31 * H + r.toInt64) (by omega) (by omega)
    have key : ∀ z fu, d + 1 < fu → f_X5_count (nI k) z = some (.inr r) → (∀ fu, d < fu → f_L_seen_6 fu (31 * H + r.toInt64) (nI (k + 1)) z = some H2) → f_L_seen_6 fu H (nI k) z = some H2 := fun z fu hf g1 g2 => by
      obtain ⟨f, rfl⟩ : ∃ f, fu = f + 1 := ⟨fu - 1, by omega⟩
      rw [f_L_seen_6.eq_2, li9, if_neg (nI_ge (by omega) (by omega)), g1, rt_r, nI_1]
      exact g2 f (by omega)
    exact ⟨H2, fun fu hf => key x fu hf r1 e1, fun fu hf => key y fu hf r2 e2⟩
/-- two objects with one abstract state look the same -/
theorem seen_2 (ho : aOk a) (hc : cV a x.1) (hd : cV a y.1) : ∃ H, f_L_seen x = some H ∧ f_L_seen y = some H := by
  obtain ⟨H, e1, e2⟩ := sn_counts ho hc hd 9 0 89 (by omega) (by omega)
  exact ⟨H, e1 FU (by unfold FU; omega), e2 FU (by unfold FU; omega)⟩
end
theorem slots_init : ∀ (fu i : Nat) (x : SlC), 64 - i < fu → i ≤ 64 → ∃ own, f_X2_init_60 fu (nI i) x = some (x.1, x.2.1, own, x.2.2.2) ∧ (∀ c, c < i → own c = x.2.2.1 c) ∧ ∀ c, i ≤ c → c < 64 → own c = -1 := by
  intro fu
  induction fu with
  | zero => intro i x h1; omega
  | succ fu ih =>
    intro i x h1 h2
    rw [f_X2_init_60.eq_2, li64]
    by_cases h3 : i = 64
    · rw [if_pos (nI_le (by omega) (by omega))]
      exact ⟨x.2.2.1, rfl, fun c _ => rfl, fun c q1 q2 => by omega⟩
    · rw [if_neg (nI_ge (by omega) (by omega)), gi_in (by omega) (by decide), nI_clamp (by omega), nI_1]
      obtain ⟨own, g1, g2, g3⟩ := ih (i + 1) (x.1, x.2.1, upd x.2.2.1 i (-1), x.2.2.2) (by omega) (by omega)
      refine ⟨own, g1, fun c q1 => ?_, fun c q1 q2 => ?_⟩
      · rw [g2 c (by omega)]
        exact up_ne _ _ (by omega)
      · by_cases q3 : c = i
        · subst q3
          rw [g2 c (by omega)]
          exact up_eq _ _ _
        · exact g3 c (by omega) q2
theorem row_init : ∀ (fu i : Nat) (x : RwC), 4 - i < fu → i ≤ 4 → ∃ st, f_X1_init_26 fu (nI i) x = some (x.1, x.2.1, st) ∧ (∀ c, c < i → st c = x.2.2 c) ∧ ∀ c, i ≤ c → c < 4 → st c = -1 := by
  intro fu
  induction fu with
  | zero => intro i x h1; omega
  | succ fu ih =>
    intro i x h1 h2
    rw [f_X1_init_26.eq_2, li4]
    by_cases h3 : i = 4
    · rw [if_pos (nI_le (by omega) (by omega))]
      exact ⟨x.2.2, rfl, fun c _ => rfl, fun c q1 q2 => by omega⟩
    · rw [if_neg (nI_ge (by omega) (by omega)), gi_in (by omega) (by decide), nI_clamp (by omega), nI_1]
      obtain ⟨st, g1, g2, g3⟩ := ih (i + 1) (x.1, x.2.1, upd x.2.2 i (-1)) (by omega) (by omega)
      refine ⟨st, g1, fun c q1 => ?_, fun c q1 q2 => ?_⟩
      · rw [g2 c (by omega)]
        exact up_ne _ _ (by omega)
      · by_cases q3 : c = i
        · subst q3
          rw [g2 c (by omega)]
          exact up_eq _ _ _
        · exact g3 c (by omega) q2
/-- the state of a new object -/
def aNew : AbT := (16, 0, (fun _ => 0), ((fun _ => 0), (fun _ => 0), (fun _ => 0), (fun _ => 0), fun _ => 0), (fun _ => 0), fun _ => 0)
theorem aNew.ok : aOk aNew := ⟨Or.inl rfl, Nat.zero_le _, fun j hj => absurd hj (Nat.not_lt_zero _), fun i j c hi => absurd hi (Nat.not_lt_zero _), fun j hj => absurd hj (Nat.not_lt_zero _), fun i hi => (by show 0 < 0 + 2; omega), fun c => (by show 0 < 1000; omega)⟩
theorem new_c : ∃ x, f_X5_init = some x ∧ cV aNew x.1 ∧ x.2.2.1.2 = nI 0 ∧ x.2.2.2.2 = nI 0 := by
  obtain ⟨own, a1, a2, a3⟩ := slots_init FU 0 (16, (fun _ => 0), (fun _ => 0), (fun _ => 0), (fun _ => 0), (fun _ => 0), (fun _ => 0)) (by unfold FU; omega) (by omega)
  obtain ⟨st, b1, b2, b3⟩ := row_init FU 0 (0, (fun _ => 0), (fun _ => 0)) (by unfold FU; omega) (by omega)
  have hS : f_X2_init = some (16, (fun _ => 0), own, (fun _ => 0), (fun _ => 0), (fun _ => 0), fun _ => 0) := a1
  have hRw : f_X1_init = some (0, (fun _ => 0), st) := b1
  have hSt : f_X3_init = some ((16, (fun _ => 0), own, (fun _ => 0), (fun _ => 0), (fun _ => 0), fun _ => 0), (0, (fun _ => 0), st), (fun _ => 0), 0, 0, 0, 0) := by
    unfold f_X3_init
    rw [hS, hRw]
    rfl
  unfold f_X5_init f_X0_init f_X4_init
  rw [hSt]
  exact ⟨_, rfl, ⟨⟨rfl, fun c _ => rfl, fun j c hj => absurd hj (Nat.not_lt_zero _), fun c hc _ => a3 c (Nat.zero_le _) hc, fun j hj => absurd hj (Nat.not_lt_zero _), fun c _ _ => rfl⟩, ⟨rfl, fun j hj => absurd hj (Nat.not_lt_zero _), fun k hk => b3 k (Nat.zero_le _) hk⟩, rfl, rfl, rfl, rfl⟩, rfl, rfl⟩
/-- a model beside a class whose buffer is empty -/
theorem ghost {a : AbT} {h n : Nat} {B : Nat → AbT} {x : ClC} (ho : aOk a) (hc : cV a x.1) (hh : HB h n B x.2.2.1) (hb : x.2.2.2.2 = nI 0) : ∃ o, Rel x o := by
  obtain ⟨m, hm⟩ := ex_m ho
  obtain ⟨q1, q2, q3, q4⟩ := hh
  have h1 : ∀ i : Nat, ∃ m : Fn, i < h → mV (B (n - h + i)) m := fun i => by
    by_cases h2 : i < h
    · obtain ⟨m, h3⟩ := ex_m (q4 i h2).1
      exact ⟨m, fun _ => h3⟩
    · exact ⟨m, fun h3 => absurd h3 h2⟩
  obtain ⟨f, hf⟩ := Classical.axiomOfChoice h1
  refine ⟨((0 : Int32), m, m, (fun c => f (c / 414) (c % 414)), nI h, m, nI 0, (0 : Int32), m, (0 : Int32), (0 : Int64)), a, h, 0, (fun _ => 0), ho, hc, hm, ⟨q1, q3, rfl, fun i hi => ⟨_, (q4 i hi).1, (q4 i hi).2, (hf i hi).congr (q4 i hi).1 (fun c hc => ?_)⟩⟩, by omega, hb, rfl, fun i hi => by omega⟩
  show f ((414 * i + c) / 414) ((414 * i + c) % 414) = f i c
  rw [show (414 * i + c) / 414 = i by omega, show (414 * i + c) % 414 = c by omega]
