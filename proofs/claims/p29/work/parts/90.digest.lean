/-! The digest, both sides. -/
abbrev mH (o : MdC) (t : Fn) (H : Int64) : MdC := (o.1, o.2.1, t, o.2.2.2.1, o.2.2.2.2.1, o.2.2.2.2.2.1, o.2.2.2.2.2.2.1, o.2.2.2.2.2.2.2.1, o.2.2.2.2.2.2.2.2.1, o.2.2.2.2.2.2.2.2.2.1, H)
theorem rt_r {α β : Type} {v : α} {k : α → Option β} : rt (some (.inr v)) k = k v := rfl
theorem mix_r {o : MdC} {t : Fn} {H p : Int64} : f_X6_mixes p (mH o t H) = some (mH o t (31 * H + p)) := rfl
theorem dg_count {a : AbT} {x : ClC} {o : MdC} {h : Nat} {t : Fn} (ho : aOk a) (hc : cV a x.1) (hm : mV a o.2.1) (h1 : x.2.2.1.2 = nI h) (h2 : o.2.2.2.2.1 = nI h) : ∀ (d k : Nat) (H : Int64), 10 - k = d → k ≤ 10 → ∃ H2, (∀ fu, d < fu → f_X5_digest_6 fu H (nI k) x = Option.bind (f_X5_hashThings H2 x) fun z1 => Option.bind (f_X5_hashCellsAndWalkers z1 x) fun z2 => Option.bind (f_X5_hashGaps z2 x) fun z3 => Option.bind (f_X5_tryEvents 2 x) fun z4 => Option.bind (f_X1_things z4.2.2.1.2.1) fun z6 => Option.bind (f_X2_cellsNow z4.2.2.1.1) fun z7 => Option.bind (f_X5_hashRoom ((31 * ((31 * ((31 * z3) + z4.1.toInt64)) + z6.toInt64)) + z7.toInt64) z4.2) fun z8 => Option.bind (f_X5_hashBuffer z8 z4.2) fun z9 => some (z9, z4.2)) ∧ ∀ fu, d < fu → f_X6_digest_14 fu (nI k) (mH o t H) = Option.bind (f_X6_mixesRow (mH o t H2)) fun z1 => f_X6_digest_42 FU 1 z1 := by
  intro d
  induction d with
  | zero =>
    intro k H hk hk2
    refine ⟨H, fun fu hf => ?_, fun fu hf => ?_⟩
    · obtain ⟨f, rfl⟩ : ∃ f, fu = f + 1 := ⟨fu - 1, by omega⟩
      rw [f_X5_digest_6.eq_2, li9, if_pos (nI_lt (by omega) (by omega))]
    · obtain ⟨f, rfl⟩ : ∃ f, fu = f + 1 := ⟨fu - 1, by omega⟩
      rw [f_X6_digest_14.eq_2, show (10 : Int32) = nI 10 from rfl, if_pos (nI_le (by omega) (by omega))]
  | succ d ih =>
    intro k H hk hk2
    obtain ⟨r, r1, r2⟩ := count_v (k := k) (o := mH o t H) ho hc hm h1 h2 (by omega)
    obtain ⟨H2, e1, e2⟩ := ih (k + 1) (31 * H + r.toInt64) (by omega) (by omega)
    refine ⟨H2, fun fu hf => ?_, fun fu hf => ?_⟩
    · obtain ⟨f, rfl⟩ : ∃ f, fu = f + 1 := ⟨fu - 1, by omega⟩
      rw [f_X5_digest_6.eq_2, li9, if_neg (nI_nlt (by omega) (by omega)), r1, rt_r, nI_1]
      exact e1 f (by omega)
    · obtain ⟨f, rfl⟩ : ∃ f, fu = f + 1 := ⟨fu - 1, by omega⟩
      rw [f_X6_digest_14.eq_2, show (10 : Int32) = nI 10 from rfl, if_neg (nI_ge (by omega) (by omega)), r2, Option.bind_some, mix_r, Option.bind_some, nI_1]
      exact e2 f (by omega)
theorem dg_thing {a : AbT} {x : ClC} {o : MdC} {t : Fn} {q : Nat} {p0 : Int32} (ho : aOk a) (hc : cV a x.1) (hm : mV a o.2.1) (hq : q < aN a) (hw : 0 < aW a q) (hp : f_X2_whyRefused p0 x.1.1 = some 0) (hp2 : p0 / 1000 = nI (aB a q)) : ∀ (d k : Nat) (H : Int64), 6 - k = d → k ≤ 6 → ∃ H2, (∀ k17 fu v5 v6, d < fu → f_X5_hashThings_45 k17 fu H v5 v6 p0 (nI k) x = k17 H2 v5 (v6 + 1) x) ∧ ∀ k2 fu, d < fu → f_X6_mixesRow_38 k2 fu (nI q) (nI k) (mH o t H) = k2 (nI q + 1) (mH o t H2) := by
  intro d
  induction d with
  | zero =>
    intro k H hk hk2
    refine ⟨H, fun k17 fu v5 v6 hf => ?_, fun k2 fu hf => ?_⟩
    · obtain ⟨f, rfl⟩ : ∃ f, fu = f + 1 := ⟨fu - 1, by omega⟩
      rw [f_X5_hashThings_45.eq_2, li5, if_pos (nI_lt (by omega) (by omega))]
    · obtain ⟨f, rfl⟩ : ∃ f, fu = f + 1 := ⟨fu - 1, by omega⟩
      rw [f_X6_mixesRow_38.eq_2, li6, if_pos (nI_le (by omega) (by omega))]
  | succ d ih =>
    intro k H hk hk2
    obtain ⟨r, r1, r2⟩ := thing_v (k := k) (o := mH o t H) ho hc hm hq hw hp hp2 (by omega)
    obtain ⟨H2, e1, e2⟩ := ih (k + 1) (31 * H + r.toInt64) (by omega) (by omega)
    refine ⟨H2, fun k17 fu v5 v6 hf => ?_, fun k2 fu hf => ?_⟩
    · obtain ⟨f, rfl⟩ : ∃ f, fu = f + 1 := ⟨fu - 1, by omega⟩
      rw [f_X5_hashThings_45.eq_2, li5, if_neg (nI_nlt (by omega) (by omega)), r1, rt_r, nI_1]
      exact e1 k17 f v5 v6 (by omega)
    · obtain ⟨f, rfl⟩ : ∃ f, fu = f + 1 := ⟨fu - 1, by omega⟩
      rw [f_X6_mixesRow_38.eq_2, li6, if_neg (nI_ge (by omega) (by omega)), r2, Option.bind_some, mix_r, Option.bind_some, nI_1]
      exact e2 k2 f (by omega)
theorem w_own {a : AbT} {x : SlC} (ho : aOk a) (hv : sV a x) {q : Nat} (hq : q < aN a) (hw : 0 < aW a q) : f_X2_whyRefused (nI (aHd a q)) x = some 0 ∧ nI (aHd a q) / 1000 = nI (aB a q) := by
  have hC := aOk.C a ho
  have h9 := ho.2.2.1 q hq hw
  have hs := ho.2.2.2.2.2.2 (aB a q)
  have e1 : aHd a q / 1000 = aB a q := by unfold aHd; omega
  have e2 : aHd a q % 1000 = aS a (aB a q) := by unfold aHd; omega
  have e3 : aHd a q < 2 ^ 31 := by unfold aHd; omega
  refine ⟨?_, by rw [li1000, nI_div e3 (by omega), e1]⟩
  obtain ⟨r, r1, r2⟩ := w_whyRefused ho hv e3
  rw [r1, aWhy.det r2 (Or.inl ⟨rfl, by omega, by rw [e1, e2], q, hq, hw, e1.symm⟩)]
theorem dg_things {a : AbT} {x : ClC} {o : MdC} {t : Fn} (ho : aOk a) (hc : cV a x.1) (hm : mV a o.2.1) : ∀ (d j : Nat) (H : Int64), aN a - j = d → j ≤ aN a → ∃ H2, (∀ fu, aCnt a (aN a) - aCnt a j < fu → f_X5_hashThings_17 fu H (nI (aCnt a (aN a))) (nI (aCnt a j)) x = some H2) ∧ ∀ fu, d < fu → f_X6_mixesRow_2 fu (nI j) (mH o t H) = f_X6_mixesRow_69 FU 0 (mH o t H2) := by
  have hN := ho.2.1
  have hcl := aCnt.le (a := a) (aN a)
  have i1 : ∀ (kk : Option MdC), gi 1 414 kk = kk := fun kk => gi_in (c := 1) (by omega) (by decide)
  have c1 : (1 : Int32).toNatClampNeg = 1 := by decide
  intro d
  induction d with
  | zero =>
    intro j H hj hj2
    have e : j = aN a := by omega
    refine ⟨H, fun fu hf => ?_, fun fu hf => ?_⟩
    · obtain ⟨f, rfl⟩ : ∃ f, fu = f + 1 := ⟨fu - 1, by omega⟩
      rw [f_X5_hashThings_17.eq_2, e, if_pos (nI_le (Nat.le_refl _) (by omega))]
    · obtain ⟨f, rfl⟩ : ∃ f, fu = f + 1 := ⟨fu - 1, by omega⟩
      have hm1 : (mH o t H).2.1 1 = nI (aN a) := hm.2.1
      rw [f_X6_mixesRow_2.eq_2, i1, c1, hm1, if_pos (nI_le (by omega) (by omega))]
  | succ d ih =>
    intro j H hj hj2
    have hmo := aCnt.mono (a := a) (i := j) (aN a) hj2
    by_cases h1 : aW a j = 0
    · obtain ⟨H2, e1, e2⟩ := ih (j + 1) H (by omega) (by omega)
      rw [aCnt.t h1] at e1
      refine ⟨H2, e1, fun fu hf => ?_⟩
      obtain ⟨f, rfl⟩ : ∃ f, fu = f + 1 := ⟨fu - 1, by omega⟩
      have hm1 : (mH o t H).2.1 1 = nI (aN a) := hm.2.1
      rw [f_X6_mixesRow_2.eq_2, i1, c1, hm1, if_neg (nI_ge (by omega) (by omega)), m_isThing ho hm (by omega), Option.bind_some, if_pos h1, if_pos rfl, nI_1]
      exact e2 f (by omega)
    · have hmo2 := aCnt.mono (a := a) (i := j + 1) (aN a) (by omega)
      rw [aCnt.f h1] at hmo2
      obtain ⟨o1, o2⟩ := w_own ho hc.1 (q := j) (by omega) (by omega)
      obtain ⟨H1, g1, g2⟩ := dg_thing (t := t) ho hc hm (q := j) (by omega) (by omega) o1 o2 6 0 (31 * H + (nI (aHd a j)).toInt64) (by omega) (by omega)
      obtain ⟨H2, e1, e2⟩ := ih (j + 1) H1 (by omega) (by omega)
      rw [aCnt.f h1] at e1
      refine ⟨H2, fun fu hf => ?_, fun fu hf => ?_⟩
      · obtain ⟨f, rfl⟩ : ∃ f, fu = f + 1 := ⟨fu - 1, by omega⟩
        obtain ⟨r, r1, r2⟩ := w_at ho hc (p := aCnt a j) (by omega)
        have r3 : r = nI (aHd a j) := r2.det (Or.inl ⟨j, by omega, h1, rfl, rfl⟩)
        rw [f_X5_hashThings_17.eq_2, if_neg (nI_ge (by omega) (by omega)), r1, rt_r, r3, li0, g1 _ _ _ _ (by unfold FU; omega), nI_1]
        exact e1 f (by omega)
      · obtain ⟨f, rfl⟩ : ∃ f, fu = f + 1 := ⟨fu - 1, by omega⟩
        have hm1 : (mH o t H).2.1 1 = nI (aN a) := hm.2.1
        rw [f_X6_mixesRow_2.eq_2, i1, c1, hm1, if_neg (nI_ge (by omega) (by omega)), m_isThing ho hm (by omega), Option.bind_some, if_neg h1, if_neg (by decide), m_handleOf ho hm (by omega) (by omega), Option.bind_some, mix_r, Option.bind_some, li0, g2 _ _ (by unfold FU; omega), nI_1]
        exact e2 f (by omega)
theorem dg_cells {a : AbT} {x : ClC} {o : MdC} {t : Fn} (ho : aOk a) (hc : cV a x.1) (hm : mV a o.2.1) : ∀ (d c : Nat) (H : Int64), aC a - c = d → c ≤ aC a → ∃ H2, (∀ fu, d < fu → f_X5_hashCellsAndWalkers_17 fu H (nI (aC a)) (nI c) x = f_X5_hashCellsAndWalkers_63 FU H2 0 x) ∧ ∀ fu, d < fu → f_X6_mixesRow_69 fu (nI c) (mH o t H) = f_X6_mixesRow_111 FU 0 (mH o t H2) := by
  have hC := aOk.C a ho
  have i0 : ∀ (kk : Option MdC), gi 0 414 kk = kk := fun kk => gi_in (c := 0) (by omega) (by decide)
  have c0 : (0 : Int32).toNatClampNeg = 0 := by decide
  intro d
  induction d with
  | zero =>
    intro c H h1 h2
    refine ⟨H, fun fu hf => ?_, fun fu hf => ?_⟩
    · obtain ⟨f, rfl⟩ : ∃ f, fu = f + 1 := ⟨fu - 1, by omega⟩
      rw [f_X5_hashCellsAndWalkers_17.eq_2, if_pos (nI_le (by omega) (by omega))]
    · obtain ⟨f, rfl⟩ : ∃ f, fu = f + 1 := ⟨fu - 1, by omega⟩
      have hm0 : (mH o t H).2.1 0 = nI (aC a) := hm.1
      rw [f_X6_mixesRow_69.eq_2, i0, c0, hm0, if_pos (nI_le (by omega) (by omega))]
  | succ d ih =>
    intro c H h1 h2
    obtain ⟨v1, v2⟩ := cell0_v (c := c) (o := mH o t H) ho hc hm (by omega)
    obtain ⟨r, r1, r2⟩ := cell1_v (c := c) (o := mH o t (31 * H + (nI (aS a c)).toInt64)) ho hc hm (by omega)
    obtain ⟨H2, e1, e2⟩ := ih (c + 1) (31 * (31 * H + (nI (aS a c)).toInt64) + r.toInt64) (by omega) (by omega)
    refine ⟨H2, fun fu hf => ?_, fun fu hf => ?_⟩
    · obtain ⟨f, rfl⟩ : ∃ f, fu = f + 1 := ⟨fu - 1, by omega⟩
      rw [f_X5_hashCellsAndWalkers_17.eq_2, if_neg (nI_ge (by omega) (by omega)), v1, rt_r, r1, rt_r, nI_1]
      exact e1 f (by omega)
    · obtain ⟨f, rfl⟩ : ∃ f, fu = f + 1 := ⟨fu - 1, by omega⟩
      have hm0 : (mH o t H).2.1 0 = nI (aC a) := hm.1
      rw [f_X6_mixesRow_69.eq_2, i0, c0, hm0, if_neg (nI_ge (by omega) (by omega)), v2 (fun z => Option.bind (f_X6_mixes z.toInt64 (mH o t H)) fun z6 => Option.bind (f_X6_ofCell (nI c) z6) fun z7 => Option.bind (f_X6_mixes z7.toInt64 z6) fun z8 => f_X6_mixesRow_69 f (nI c + 1) z8)]
      show (Option.bind (f_X6_mixes (nI (aS a c)).toInt64 (mH o t H)) fun z6 => Option.bind (f_X6_ofCell (nI c) z6) fun z7 => Option.bind (f_X6_mixes z7.toInt64 z6) fun z8 => f_X6_mixesRow_69 f (nI c + 1) z8) = _
      rw [mix_r, Option.bind_some, r2, Option.bind_some, mix_r, Option.bind_some, nI_1]
      exact e2 f (by omega)
theorem dg_walk1 {a : AbT} {x : ClC} {o : MdC} {t : Fn} {i : Nat} (ho : aOk a) (hc : cV a x.1) (hm : mV a o.2.1) (hi : i < 4) : ∀ (d k : Nat) (H : Int64), 3 - k = d → k ≤ 3 → ∃ H2, (∀ k63 fu, d < fu → f_X5_hashCellsAndWalkers_72 k63 fu H (nI i) (nI k) x = k63 H2 (nI (i + 1)) x) ∧ ∀ fu, f_X6_mixesRow_111 (fu + d) (nI (3 * i + k)) (mH o t H) = f_X6_mixesRow_111 fu (nI (3 * (i + 1))) (mH o t H2) := by
  intro d
  induction d with
  | zero =>
    intro k H h1 h2
    refine ⟨H, fun k63 fu hf => ?_, fun fu => ?_⟩
    · obtain ⟨f, rfl⟩ : ∃ f, fu = f + 1 := ⟨fu - 1, by omega⟩
      rw [f_X5_hashCellsAndWalkers_72.eq_2, li2, if_pos (nI_lt (by omega) (by omega)), nI_1]
    · rw [show 3 * i + k = 3 * (i + 1) by omega]
      rfl
  | succ d ih =>
    intro k H h1 h2
    obtain ⟨r, r1, r2⟩ := walker_v (i := i) (k := k) (o := mH o t H) ho hc hm hi (by omega)
    obtain ⟨H2, e1, e2⟩ := ih (k + 1) (31 * H + r.toInt64) (by omega) (by omega)
    refine ⟨H2, fun k63 fu hf => ?_, fun fu => ?_⟩
    · obtain ⟨f, rfl⟩ : ∃ f, fu = f + 1 := ⟨fu - 1, by omega⟩
      rw [f_X5_hashCellsAndWalkers_72.eq_2, li2, if_neg (nI_nlt (by omega) (by omega)), r1, rt_r, nI_1]
      exact e1 k63 f (by omega)
    · rw [show fu + (d + 1) = fu + d + 1 by omega, f_X6_mixesRow_111.eq_2, show (12 : Int32) = nI 12 from rfl, if_neg (nI_ge (by omega) (by omega)), li3, nI_mod (by omega) (by omega), nI_div (by omega) (by omega), show (3 * i + k) / 3 = i by omega, show (3 * i + k) % 3 = k by omega, r2, Option.bind_some, mix_r, Option.bind_some, nI_1]
      exact e2 fu
theorem dg_walk {a : AbT} {x : ClC} {o : MdC} {t : Fn} (ho : aOk a) (hc : cV a x.1) (hm : mV a o.2.1) : ∀ (d i : Nat) (H : Int64), 4 - i = d → i ≤ 4 → ∃ H2, (∀ fu, d < fu → f_X5_hashCellsAndWalkers_63 fu H (nI i) x = some H2) ∧ ∀ fu, f_X6_mixesRow_111 (fu + 1 + 3 * d) (nI (3 * i)) (mH o t H) = some (mH o t H2) := by
  intro d
  induction d with
  | zero =>
    intro i H h1 h2
    refine ⟨H, fun fu hf => ?_, fun fu => ?_⟩
    · obtain ⟨f, rfl⟩ : ∃ f, fu = f + 1 := ⟨fu - 1, by omega⟩
      rw [f_X5_hashCellsAndWalkers_63.eq_2, li4, if_pos (nI_le (by omega) (by omega))]
    · show f_X6_mixesRow_111 (fu + 1) (nI (3 * i)) (mH o t H) = _
      rw [f_X6_mixesRow_111.eq_2, show (12 : Int32) = nI 12 from rfl, if_pos (nI_le (by omega) (by omega))]
  | succ d ih =>
    intro i H h1 h2
    obtain ⟨H1, g1, g2⟩ := dg_walk1 (t := t) ho hc hm (i := i) (by omega) 3 0 H (by omega) (by omega)
    obtain ⟨H2, e1, e2⟩ := ih (i + 1) H1 (by omega) (by omega)
    refine ⟨H2, fun fu hf => ?_, fun fu => ?_⟩
    · obtain ⟨f, rfl⟩ : ∃ f, fu = f + 1 := ⟨fu - 1, by omega⟩
      rw [f_X5_hashCellsAndWalkers_63.eq_2, li4, if_neg (nI_ge (by omega) (by omega)), li0, g1 _ _ (by unfold FU; omega)]
      exact e1 f (by omega)
    · rw [show fu + 1 + 3 * (d + 1) = fu + 1 + 3 * d + 3 by omega]
      exact (g2 (fu + 1 + 3 * d)).trans (e2 fu)
theorem dg_begins {a : AbT} {x : ClC} {o : MdC} {t : Fn} (ho : aOk a) (hc : cV a x.1) (hm : mV a o.2.1) : ∀ (d w : Nat) (H : Int64), 5 - w = d → 1 ≤ w → w ≤ 5 → ∃ H2, (∀ fu, d < fu → f_X5_hashGaps_5 fu H (nI w) x = f_X5_hashGaps_5 1 H2 (nI 5) x) ∧ ∀ fu, d < fu → f_X6_digest_42 fu (nI w) (mH o t H) = f_X6_digest_42 1 (nI 5) (mH o t H2) := by
  intro d
  induction d with
  | zero =>
    intro w H h1 h2 h3
    have hw : w = 5 := by omega
    subst hw
    refine ⟨H, fun fu hf => ?_, fun fu hf => ?_⟩
    · obtain ⟨f, rfl⟩ : ∃ f, fu = f + 1 := ⟨fu - 1, by omega⟩
      show _ = f_X5_hashGaps_5 (0 + 1) H (nI 5) x
      rw [f_X5_hashGaps_5.eq_2, f_X5_hashGaps_5.eq_2, if_pos (by decide), if_pos (by decide)]
    · obtain ⟨f, rfl⟩ : ∃ f, fu = f + 1 := ⟨fu - 1, by omega⟩
      show _ = f_X6_digest_42 (0 + 1) (nI 5) (mH o t H)
      rw [f_X6_digest_42.eq_2, f_X6_digest_42.eq_2, if_pos (by decide), if_pos (by decide)]
  | succ d ih =>
    intro w H h1 h2 h3
    obtain ⟨r, r1, r2⟩ := begins_v (o := mH o t H) ho hc hm h2 (by omega)
    obtain ⟨H2, e1, e2⟩ := ih (w + 1) (31 * H + r.toInt64) (by omega) (by omega) (by omega)
    refine ⟨H2, fun fu hf => ?_, fun fu hf => ?_⟩
    · obtain ⟨f, rfl⟩ : ∃ f, fu = f + 1 := ⟨fu - 1, by omega⟩
      rw [f_X5_hashGaps_5.eq_2, if_neg (show ¬ 4 < nI w by rw [li4]; exact nI_nlt (by omega) (by omega)), r1, rt_r, nI_1]
      exact e1 f (by omega)
    · obtain ⟨f, rfl⟩ : ∃ f, fu = f + 1 := ⟨fu - 1, by omega⟩
      rw [f_X6_digest_42.eq_2, if_neg (show ¬ 5 ≤ nI w by rw [li5]; exact nI_ge (by omega) (by omega)), r2, Option.bind_some, mix_r, Option.bind_some, nI_1]
      exact e2 f (by omega)
theorem dg_rooms {a : AbT} {x : ClC} {o : MdC} {t : Fn} (ho : aOk a) (hc : cV a x.1) (hm : mV a o.2.1) : ∀ (d w : Nat) (H : Int64), 5 - w = d → 1 ≤ w → w ≤ 5 → ∃ H2, (∀ fu, d < fu → f_X5_hashRoom_5 fu H (nI w) x = some H2) ∧ ∀ fu, d < fu → f_X6_digest_109 fu (nI w) (mH o t H) = Option.bind (f_X6_mixes (mH o t H2).2.2.2.2.2.2.1.toInt64 (mH o t H2)) fun z15 => f_X6_digest_164 FU 0 z15 := by
  intro d
  induction d with
  | zero =>
    intro w H h1 h2 h3
    have hs := shr.all ho
    refine ⟨31 * H + (shr (aUs a) (aC a)).toInt64, fun fu hf => ?_, fun fu hf => ?_⟩
    · obtain ⟨f, rfl⟩ : ∃ f, fu = f + 1 := ⟨fu - 1, by omega⟩
      rw [f_X5_hashRoom_5.eq_2, if_pos (show 4 < nI w by rw [li4]; exact nI_lt (by omega) (by omega)), w_fullness ho hc, Option.bind_some, hs.2.1, Option.bind_some]
    · obtain ⟨f, rfl⟩ : ∃ f, fu = f + 1 := ⟨fu - 1, by omega⟩
      rw [f_X6_digest_109.eq_2, if_pos (show 5 ≤ nI w by rw [li5]; exact nI_le (by omega) (by omega)), m_full (o := mH o t H) ho hm, Option.bind_some, hs.2.2.1, Option.bind_some, mix_r, Option.bind_some]
  | succ d ih =>
    intro w H h1 h2 h3
    obtain ⟨r, r1, r2⟩ := room_v (o := mH o t H) (p1 := 0) ho hc hm h2 (by omega) (Or.inl rfl)
    obtain ⟨s, s1, s2⟩ := room_v (o := mH o t (31 * H + r.toInt64)) (p1 := 1) ho hc hm h2 (by omega) (Or.inr rfl)
    obtain ⟨H2, e1, e2⟩ := ih (w + 1) (31 * (31 * H + r.toInt64) + s.toInt64) (by omega) (by omega) (by omega)
    refine ⟨H2, fun fu hf => ?_, fun fu hf => ?_⟩
    · obtain ⟨f, rfl⟩ : ∃ f, fu = f + 1 := ⟨fu - 1, by omega⟩
      rw [f_X5_hashRoom_5.eq_2, if_neg (show ¬ 4 < nI w by rw [li4]; exact nI_nlt (by omega) (by omega)), r1, rt_r, s1, rt_r, nI_1]
      exact e1 f (by omega)
    · obtain ⟨f, rfl⟩ : ∃ f, fu = f + 1 := ⟨fu - 1, by omega⟩
      rw [f_X6_digest_109.eq_2, if_neg (show ¬ 5 ≤ nI w by rw [li5]; exact nI_ge (by omega) (by omega)), r2, Option.bind_some, mix_r, Option.bind_some, s2, Option.bind_some, mix_r, Option.bind_some, nI_1]
      exact e2 f (by omega)
theorem dg_codes {len : Nat} {cd : Nat → Nat} {x : ClC} {o : MdC} {t : Fn} (ht : tV len cd x.2.2.2 o) : ∀ (d i : Nat) (H : Int64), len - i = d → i ≤ len → ∃ H2, (∀ fu, d < fu → f_X5_hashBuffer_21 fu (nI len) H (nI i) x = some H2) ∧ ∀ fu, d < fu → f_X6_digest_164 fu (nI i) (mH o t H) = some (H2, mH o t H2) := by
  have h0 := ht.1
  intro d
  induction d with
  | zero =>
    intro i H h1 h2
    refine ⟨H, fun fu hf => ?_, fun fu hf => ?_⟩
    · obtain ⟨f, rfl⟩ : ∃ f, fu = f + 1 := ⟨fu - 1, by omega⟩
      rw [f_X5_hashBuffer_21.eq_2, if_pos (nI_le (by omega) (by omega))]
    · obtain ⟨f, rfl⟩ : ∃ f, fu = f + 1 := ⟨fu - 1, by omega⟩
      have hl : (mH o t H).2.2.2.2.2.2.1 = nI len := ht.2.2.1
      rw [f_X6_digest_164.eq_2, hl, if_pos (nI_le (by omega) (by omega))]
  | succ d ih =>
    intro i H h1 h2
    have hd := ht.2.2.2 i (by omega)
    obtain ⟨H2, e1, e2⟩ := ih (i + 1) (31 * H + (nI (cd i)).toInt64) (by omega) (by omega)
    refine ⟨H2, fun fu hf => ?_, fun fu hf => ?_⟩
    · obtain ⟨f, rfl⟩ : ∃ f, fu = f + 1 := ⟨fu - 1, by omega⟩
      rw [f_X5_hashBuffer_21.eq_2, if_neg (nI_ge (by omega) (by omega)), w_codeAt ht (by omega), Option.bind_some, nI_1]
      exact e1 f (by omega)
    · obtain ⟨f, rfl⟩ : ∃ f, fu = f + 1 := ⟨fu - 1, by omega⟩
      have hl : (mH o t H).2.2.2.2.2.2.1 = nI len := ht.2.2.1
      have hb : (mH o t H).2.2.2.2.2.1 i = nI (cd i) := hd.2.1
      rw [f_X6_digest_164.eq_2, hl, if_neg (nI_ge (by omega) (by omega)), gi_in (by omega) (by decide), nI_clamp (by omega), hb, mix_r, Option.bind_some, nI_1]
      exact e2 f (by omega)
theorem digest_call {x : ClC} {o : MdC} (hR : Rel x o) : AnS (f_X5_digest x) (f_X6_digest o) := by
  obtain ⟨a, h, len, cd, ho, hc, hm, hh, ht⟩ := hR
  have hN := ho.2.1
  have hC := aOk.C a ho
  have h0 := ht.1
  obtain ⟨O, hO⟩ : ∃ O : MdC, O = (0, o.2) := ⟨_, rfl⟩
  have hmO : mV a O.2.1 := by rw [hO]; exact hm
  have hsO : O.2.2.2.2.1 = nI h := by rw [hO]; exact hh.2.2.1
  have htO : tV len cd x.2.2.2 O := by rw [hO]; exact ht
  have st : f_X6_digest o = f_X6_digest_14 FU (nI 0) (mH O o.2.2.1 3251) := by rw [hO]; rfl
  obtain ⟨H1, a1, a2⟩ := dg_count (t := o.2.2.1) ho hc hmO hh.2.1 hsO 10 0 3251 (by omega) (by omega)
  obtain ⟨H2, b1, b2⟩ := dg_things (t := o.2.2.1) ho hc hmO (aN a) 0 H1 (by omega) (by omega)
  obtain ⟨H3, c1, c2⟩ := dg_cells (t := o.2.2.1) ho hc hmO (aC a) 0 H2 (by omega) (by omega)
  obtain ⟨H4, d1, d2⟩ := dg_walk (t := o.2.2.1) ho hc hmO 4 0 H3 (by omega) (by omega)
  obtain ⟨H5, e1, e2⟩ := dg_begins (t := o.2.2.1) ho hc hmO 4 1 H4 (by omega) (by omega) (by omega)
  obtain ⟨g0, g1, g2⟩ := gap_v (k := 0) (o := mH O o.2.2.1 H5) ho hc hmO (by omega)
  obtain ⟨k0, k1, k2⟩ := gap_v (k := 1) (o := mH O o.2.2.1 (31 * H5 + g0.toInt64)) ho hc hmO (by omega)
  obtain ⟨r, y, a9, r1, r2, r3, r4⟩ := try_v (p := 2) (by omega) ho hc x.2.1
  obtain ⟨m0, q0, p0⟩ := r4 (mH O o.2.2.1 (31 * (31 * H5 + g0.toInt64) + k0.toInt64)) (nI 0) hmO
  obtain ⟨m1, q1, p1⟩ := r4 (mH O m0 (31 * (31 * (31 * H5 + g0.toInt64) + k0.toInt64) + r.toInt64)) (nI 1) hmO
  obtain ⟨m2, q2, p2⟩ := r4 (mH O m1 (31 * (31 * (31 * (31 * H5 + g0.toInt64) + k0.toInt64) + r.toInt64) + (nI (aCnt a9 (aN a9))).toInt64)) (nI 2) hmO
  rw [if_pos (by decide)] at p0
  rw [if_neg (by decide), if_pos (by decide)] at p1
  rw [if_neg (by decide), if_neg (by decide)] at p2
  obtain ⟨H6, s1, s2⟩ := dg_rooms (x := (x.1, y, x.2.2)) (t := m2) ho hc hmO 4 1 (31 * (31 * (31 * (31 * (31 * H5 + g0.toInt64) + k0.toInt64) + r.toInt64) + (nI (aCnt a9 (aN a9))).toInt64) + (nI (aC a9)).toInt64) (by omega) (by omega) (by omega)
  obtain ⟨H7, t1, t2⟩ := dg_codes (x := (x.1, y, x.2.2)) (t := m2) htO len 0 (31 * H6 + (nI len).toInt64) (by omega) (by omega)
  have hl : O.2.2.2.2.2.2.1 = nI len := htO.2.2.1
  refine ⟨H7, (x.1, y, x.2.2), mH O m2 H7, ?_, ?_, ?_⟩
  · have b3 : f_X5_hashThings H1 x = some H2 := by
      unfold f_X5_hashThings
      rw [w_things ho hc.2.1, Option.bind_some]
      exact b1 FU (by have := aCnt.le (a := a) (aN a); unfold FU; omega)
    have c3 : f_X5_hashCellsAndWalkers H2 x = some H4 := by
      unfold f_X5_hashCellsAndWalkers f_X2_cellsNow
      rw [Option.bind_some, hc.1.1]
      exact (c1 FU (by unfold FU; omega)).trans (d1 FU (by unfold FU; omega))
    have e3 : f_X5_hashGaps H4 x = some (31 * (31 * H5 + g0.toInt64) + k0.toInt64) := by
      unfold f_X5_hashGaps
      rw [li1, e1 FU (by unfold FU; omega)]
      show f_X5_hashGaps_5 (0 + 1) H5 (nI 5) x = _
      rw [f_X5_hashGaps_5.eq_2, if_pos (by decide), show f_X5_gap 0 x = some (.inr g0) from g1, rt_r, show f_X5_gap 1 x = some (.inr k0) from k1, rt_r]
    have e4 : f_X5_tryEvents 2 x = some (r, (x.1, y, x.2.2)) := r3 x rfl rfl
    have e5 : f_X1_things y.2.1 = some (nI (aCnt a9 (aN a9))) := w_things r1 r2.2.1
    have e6 : f_X2_cellsNow y.1 = some (nI (aC a9)) := by
      unfold f_X2_cellsNow
      rw [r2.1.1]
    have e7 : f_X5_hashRoom (31 * (31 * (31 * (31 * (31 * H5 + g0.toInt64) + k0.toInt64) + r.toInt64) + (nI (aCnt a9 (aN a9))).toInt64) + (nI (aC a9)).toInt64) (x.1, y, x.2.2) = some H6 := by
      unfold f_X5_hashRoom
      rw [li1]
      exact s1 FU (by unfold FU; omega)
    have t3 : f_X5_hashBuffer H6 (x.1, y, x.2.2) = some H7 := by
      unfold f_X5_hashBuffer f_X4_size
      rw [Option.bind_some]
      show f_X5_hashBuffer_21 FU x.2.2.2.2 (31 * H6 + x.2.2.2.2.toInt64) 0 (x.1, y, x.2.2) = _
      rw [ht.2.1]
      exact t1 FU (by unfold FU; omega)
    unfold f_X5_digest
    rw [show f_X5_digest_6 FU 3251 0 x = f_X5_digest_6 FU 3251 (nI 0) x from rfl, a1 FU (by unfold FU; omega), b3, Option.bind_some, c3, Option.bind_some, e3, Option.bind_some, e4, Option.bind_some]
    show (Option.bind (f_X1_things y.2.1) fun z6 => Option.bind (f_X2_cellsNow y.1) fun z7 => Option.bind (f_X5_hashRoom ((31 * ((31 * ((31 * (31 * (31 * H5 + g0.toInt64) + k0.toInt64)) + r.toInt64)) + z6.toInt64)) + z7.toInt64) (x.1, y, x.2.2)) fun z8 => Option.bind (f_X5_hashBuffer z8 (x.1, y, x.2.2)) fun z9 => some (z9, (x.1, y, x.2.2))) = some (H7, (x.1, y, x.2.2))
    rw [e5, Option.bind_some, e6, Option.bind_some, e7, Option.bind_some, t3, Option.bind_some]
  · have row : f_X6_mixesRow (mH O o.2.2.1 H1) = some (mH O o.2.2.1 H4) := by
      unfold f_X6_mixesRow
      exact ((b2 FU (by unfold FU; omega)).trans (c2 FU (by unfold FU; omega))).trans (d2 5987)
    rw [st, a2 FU (by unfold FU; omega), row, Option.bind_some, li1, e2 FU (by unfold FU; omega)]
    show f_X6_digest_42 (0 + 1) (nI 5) (mH O o.2.2.1 H5) = _
    rw [f_X6_digest_42.eq_2, if_pos (by decide), show f_X6_longest 0 (mH O o.2.2.1 H5) = some g0 from g2, Option.bind_some, mix_r, Option.bind_some, show f_X6_longest 1 (mH O o.2.2.1 (31 * H5 + g0.toInt64)) = some k0 from k2, Option.bind_some, mix_r, Option.bind_some]
    show f_X6_digest_85 (5996 + 1 + 1 + 1 + 1) (nI 0) (mH O o.2.2.1 (31 * (31 * H5 + g0.toInt64) + k0.toInt64)) = _
    rw [f_X6_digest_85.eq_2, if_neg (by decide), show f_X6_fired 2 (nI 0) (mH O o.2.2.1 (31 * (31 * H5 + g0.toInt64) + k0.toInt64)) = some (r, mH O m0 (31 * (31 * H5 + g0.toInt64) + k0.toInt64)) from p0, Option.bind_some]
    show (Option.bind (f_X6_mixes r.toInt64 (mH O m0 (31 * (31 * H5 + g0.toInt64) + k0.toInt64))) fun z11 => f_X6_digest_85 (5996 + 1 + 1 + 1) (nI 0 + 1) z11) = _
    rw [mix_r, Option.bind_some, nI_1, f_X6_digest_85.eq_2, if_neg (by decide)]
    show (Option.bind (f_X6_fired 2 (nI 1) (mH O m0 (31 * (31 * (31 * H5 + g0.toInt64) + k0.toInt64) + r.toInt64))) fun z10 => Option.bind (f_X6_mixes z10.1.toInt64 z10.2) fun z11 => f_X6_digest_85 (5996 + 1 + 1) (nI 1 + 1) z11) = _
    rw [show f_X6_fired 2 (nI 1) (mH O m0 (31 * (31 * (31 * H5 + g0.toInt64) + k0.toInt64) + r.toInt64)) = some (nI (aCnt a9 (aN a9)), mH O m1 (31 * (31 * (31 * H5 + g0.toInt64) + k0.toInt64) + r.toInt64)) from p1, Option.bind_some]
    show (Option.bind (f_X6_mixes (nI (aCnt a9 (aN a9))).toInt64 (mH O m1 (31 * (31 * (31 * H5 + g0.toInt64) + k0.toInt64) + r.toInt64))) fun z11 => f_X6_digest_85 (5996 + 1 + 1) (nI 1 + 1) z11) = _
    rw [mix_r, Option.bind_some, nI_1, f_X6_digest_85.eq_2, if_neg (by decide)]
    show (Option.bind (f_X6_fired 2 (nI 2) (mH O m1 (31 * (31 * (31 * (31 * H5 + g0.toInt64) + k0.toInt64) + r.toInt64) + (nI (aCnt a9 (aN a9))).toInt64))) fun z10 => Option.bind (f_X6_mixes z10.1.toInt64 z10.2) fun z11 => f_X6_digest_85 (5996 + 1) (nI 2 + 1) z11) = _
    rw [show f_X6_fired 2 (nI 2) (mH O m1 (31 * (31 * (31 * (31 * H5 + g0.toInt64) + k0.toInt64) + r.toInt64) + (nI (aCnt a9 (aN a9))).toInt64)) = some (nI (aC a9), mH O m2 (31 * (31 * (31 * (31 * H5 + g0.toInt64) + k0.toInt64) + r.toInt64) + (nI (aCnt a9 (aN a9))).toInt64)) from p2, Option.bind_some]
    show (Option.bind (f_X6_mixes (nI (aC a9)).toInt64 (mH O m2 (31 * (31 * (31 * (31 * H5 + g0.toInt64) + k0.toInt64) + r.toInt64) + (nI (aCnt a9 (aN a9))).toInt64))) fun z11 => f_X6_digest_85 (5996 + 1) (nI 2 + 1) z11) = _
    rw [mix_r, Option.bind_some, nI_1, f_X6_digest_85.eq_2, if_pos (by decide), li1, s2 FU (by unfold FU; omega)]
    show (Option.bind (f_X6_mixes O.2.2.2.2.2.2.1.toInt64 (mH O m2 H6)) fun z15 => f_X6_digest_164 FU 0 z15) = _
    rw [hl, mix_r, Option.bind_some]
    exact t2 FU (by unfold FU; omega)
  · exact ⟨a, h, len, cd, ho, hc, hmO, ⟨hh.1, hh.2.1, hsO, by rw [hO]; exact hh.2.2.2⟩, htO⟩
