/-! Whole texts, both sides; the things of a text come. -/
def Pts (len : Nat) (cd : Nat → Nat) (x : TxC) (td : Fn) : Nat → Nat → Nat → Prop
  | 0, s, _ => len ≤ s ∧ s ≤ 61
  | n + 1, s, tm => ∃ e v w k, s < e ∧ e ≤ len ∧ (e = len ∨ cd e = 44) ∧ Prt cd x s e v w k ∧ v ≤ 999 ∧ 1 ≤ w ∧ w ≤ 4 ∧ k ≤ 2 ∧ td (3 * tm) = nI v ∧ td (3 * tm + 1) = nI w ∧ td (3 * tm + 2) = nI k ∧ Pts len cd x td n (e + 1) (tm + 1)
theorem Rn.first {x : TxC} {s t e i : Nat} {r : Option Int32} (hq : Rn x i s e t) {fu : Nat} (hf : e - i ≤ fu) (h1 : f_X4_firstWrong_4 (fu - (e - i)) (nI t) (nI e) x = r) : f_X4_firstWrong_4 fu (nI s) (nI i) x = r := by
  have h2 := hq.2.1 (fu - (e - i))
  rw [show fu - (e - i) + (e - i) = fu by omega] at h2
  exact h2.trans h1
theorem Rn.comp {x : TxC} {s t e i : Nat} {r : Option Int32} (hq : Rn x i s e t) {fu : Nat} (hf : e - i ≤ fu) (h1 : f_X4_isComplete_4 (fu - (e - i)) (nI t) (nI e) x = r) : f_X4_isComplete_4 fu (nI s) (nI i) x = r := by
  have h2 := hq.2.2 (fu - (e - i))
  rw [show fu - (e - i) + (e - i) = fu by omega] at h2
  exact h2.trans h1
theorem m_text_step {o : MdC} {s tm fu : Nat} {td : Fn} : f_X6_isText_12 (fu + 1) 1 (mS o s td tm) = Option.bind (f_X6_isThingTold (mS o s td tm)) fun z1 =>
      if z1.1 = 0 then
        some (0, z1.2)
      else
        Option.bind (f_X6_takes 44 (z1.2.1, z1.2.2.1, z1.2.2.2.1, z1.2.2.2.2.1, z1.2.2.2.2.2.1, z1.2.2.2.2.2.2.1, z1.2.2.2.2.2.2.2.1, z1.2.2.2.2.2.2.2.2.1, z1.2.2.2.2.2.2.2.2.2.1, z1.2.2.2.2.2.2.2.2.2.2.1 + 1, z1.2.2.2.2.2.2.2.2.2.2.2)) fun z2 =>
        f_X6_isText_12 fu z2.1 z2.2 := by
  rw [f_X6_isText_12.eq_2, if_neg (by decide)]
theorem m_text_end {len : Nat} {cd : Nat → Nat} {x : TxC} {o : MdC} (ht : tV len cd x o) {s tm fu : Nat} {td : Fn} (hs : s ≤ len) : f_X6_isText_12 (fu + 1) 0 (mS o s td tm) = if s = len then some (1, mS o s td tm) else some (0, mS o s td tm) := by
  have h0 := ht.1
  rw [f_X6_isText_12.eq_2, if_pos rfl]
  show (if nI s = o.2.2.2.2.2.2.1 then some ((1 : Int32), mS o s td tm) else some ((0 : Int32), mS o s td tm)) = _
  rw [ht.2.2.1]
  by_cases h1 : s = len
  · rw [if_pos (by rw [h1]), if_pos h1]
  · rw [if_neg (fun h => h1 ((nI_eq (by omega) (by omega)).mp h)), if_neg h1]
theorem parse {len : Nat} {cd : Nat → Nat} {x : TxC} {o : MdC} (ht : tV len cd x o) : ∀ (d s tm : Nat) (td : Fn), len - s ≤ d → s ≤ len → 4 * tm ≤ s → (∃ e td2 tm2, (∀ fu, d + 1 < fu → f_X6_isText_12 fu 1 (mS o s td tm) = some (0, mS o e td2 tm2)) ∧ (∀ fu, 200 - s ≤ fu → f_X4_firstWrong_4 fu (nI 0) (nI s) x = some (nI e)) ∧ ∀ fu, 200 - s ≤ fu → f_X4_isComplete_4 fu (nI 0) (nI s) x = some 0) ∨
    ∃ td2 n, (∀ fu, d + 1 < fu → f_X6_isText_12 fu 1 (mS o s td tm) = some (1, mS o len td2 (tm + n))) ∧ (∀ fu, 200 - s ≤ fu → f_X4_firstWrong_4 fu (nI 0) (nI s) x = some (nI len)) ∧ (∀ fu, 200 - s ≤ fu → f_X4_isComplete_4 fu (nI 0) (nI s) x = some 1) ∧ Pts len cd x td2 n s tm ∧ tm + n ≤ 15 ∧ ∀ c, c < 3 * tm → td2 c = td c := by
  have h0 := ht.1
  intro d
  induction d with
  | zero =>
    intro s tm td h1 h2 h3
    rcases m_told (td := td) ht h2 h3 with ⟨e, td2, t, g1, g2, g3, g4⟩ | ⟨e, td2, t, v, w, k, g1, g2, g3, -⟩
    · left
      refine ⟨e, td2, tm, fun fu hf => ?_, fun fu hf => ?_, fun fu hf => ?_⟩
      · obtain ⟨f, rfl⟩ : ∃ f, fu = f + 1 := ⟨fu - 1, by omega⟩
        rw [m_text_step, g1, Option.bind_some, it0]
      · have h5 := g3.2.1
        refine g2.first (by omega) ?_
        rw [show fu - (e - s) = fu - (e - s) - 1 + 1 by omega]
        exact g3.first ht _
      · have h5 := g3.2.1
        refine g2.comp (by omega) ?_
        rw [show fu - (e - s) = fu - (e - s) - 1 + 1 by omega]
        exact g3.comp0 ht (fun _ => g4) (by omega)
    · omega
  | succ d ih =>
    intro s tm td h1 h2 h3
    rcases m_told (td := td) ht h2 h3 with ⟨e, td2, t, g1, g2, g3, g4⟩ | ⟨e, td2, t, v, w, k, g1, g2, g3, g4, g5, g6, g7, g8, g9, g10, g11, g12, g13, g14⟩
    · left
      refine ⟨e, td2, tm, fun fu hf => ?_, fun fu hf => ?_, fun fu hf => ?_⟩
      · obtain ⟨f, rfl⟩ : ∃ f, fu = f + 1 := ⟨fu - 1, by omega⟩
        rw [m_text_step, g1, Option.bind_some, it0]
      · have h5 := g3.2.1
        refine g2.first (by omega) ?_
        rw [show fu - (e - s) = fu - (e - s) - 1 + 1 by omega]
        exact g3.first ht _
      · have h5 := g3.2.1
        refine g2.comp (by omega) ?_
        rw [show fu - (e - s) = fu - (e - s) - 1 + 1 by omega]
        exact g3.comp0 ht (fun _ => g4) (by omega)
    · have stp : ∀ f, f_X6_isText_12 (f + 1) 1 (mS o s td tm) = Option.bind (if e < len ∧ cd e = 44 then some ((1 : Int32), mS o (e + 1) td2 (tm + 1)) else some ((0 : Int32), mS o e td2 (tm + 1))) fun z2 => f_X6_isText_12 f z2.1 z2.2 := fun f => by
        rw [m_text_step, g1, Option.bind_some, it1]
        show (Option.bind (f_X6_takes 44 (o.1, o.2.1, o.2.2.1, o.2.2.2.1, o.2.2.2.2.1, o.2.2.2.2.2.1, o.2.2.2.2.2.2.1, nI e, td2, nI tm + 1, o.2.2.2.2.2.2.2.2.2.2)) fun z2 => f_X6_isText_12 f z2.1 z2.2) = _
        rw [nI_1, show (44 : Int32) = nI 44 from rfl]
        show (Option.bind (f_X6_takes (nI 44) (mS o e td2 (tm + 1))) fun z2 => f_X6_isText_12 f z2.1 z2.2) = _
        rw [m_takes ht g3 (by omega)]
      by_cases h4 : e < len ∧ cd e = 44
      · have h4a := h4.1
        have h4b := h4.2
        have r2 : Rn x s 0 (e + 1) 0 := by
          refine g4.tr ?_
          rcases g5 with q | ⟨q, -⟩ <;> subst q
          · have s0 : f_X4_stateBehind (nI 7) (nI (cd e)) = some (if cd e = 44 then nI 0 else -1) := sb7 ⟨cd e, by omega⟩
            rw [if_pos h4b] at s0
            exact Rn.st ht h4a (by omega) s0
          · have s0 : f_X4_stateBehind (nI 6) (nI (cd e)) = some (if cd e = 44 then nI 0 else if cd e = 33 ∨ cd e = 43 then nI 7 else -1) := sb6 ⟨cd e, by omega⟩
            rw [if_pos h4b] at s0
            exact Rn.st ht h4a (by omega) s0
        rcases ih (e + 1) (tm + 1) td2 (by omega) (by omega) (by omega) with ⟨e9, td9, tm9, k1, k2, k3⟩ | ⟨td9, n, k1, k2, k3, k4, k5, k6⟩
        · left
          refine ⟨e9, td9, tm9, fun fu hf => ?_, fun fu hf => ?_, fun fu hf => ?_⟩
          · obtain ⟨f, rfl⟩ : ∃ f, fu = f + 1 := ⟨fu - 1, by omega⟩
            rw [stp, if_pos h4, Option.bind_some]
            exact k1 f (by omega)
          · exact r2.first (by omega) (k2 _ (by omega))
          · exact r2.comp (by omega) (k3 _ (by omega))
        · right
          refine ⟨td9, n + 1, fun fu hf => ?_, fun fu hf => ?_, fun fu hf => ?_, ⟨e, v, w, k, by omega, g3, Or.inr h4b, g14, g9, g10, g11, g12, ?_, ?_, ?_, k4⟩, by omega, fun c hc => ?_⟩
          · obtain ⟨f, rfl⟩ : ∃ f, fu = f + 1 := ⟨fu - 1, by omega⟩
            rw [stp, if_pos h4, Option.bind_some, show tm + (n + 1) = tm + 1 + n by omega]
            exact k1 f (by omega)
          · exact r2.first (by omega) (k2 _ (by omega))
          · exact r2.comp (by omega) (k3 _ (by omega))
          · rw [k6 _ (by omega)]; exact g6
          · rw [k6 _ (by omega)]; exact g7
          · rw [k6 _ (by omega)]; exact g8
          · rw [k6 _ (by omega)]; exact g13 c hc
      · by_cases h5 : e = len
        · right
          have ht7 : t < 8 := by rcases g5 with q | ⟨q, -⟩ <;> omega
          refine ⟨td2, 1, fun fu hf => ?_, fun fu hf => ?_, fun fu hf => ?_, ⟨e, v, w, k, by omega, g3, Or.inl h5, g14, g9, g10, g11, g12, g6, g7, g8, (by show len ≤ e + 1 ∧ e + 1 ≤ 61; omega)⟩, by omega, g13⟩
          · obtain ⟨f, rfl⟩ : ∃ f, fu = f + 1 + 1 := ⟨fu - 1 - 1, by omega⟩
            rw [stp, if_neg h4, Option.bind_some]
            show f_X6_isText_12 (f + 1) 0 (mS o e td2 (tm + 1)) = _
            rw [m_text_end ht g3, if_pos h5, h5]
          · refine g4.first (by omega) ?_
            rw [show fu - (e - s) = fu - (e - s) - 1 + 1 by omega]
            have h6 := rnE.first ht (t := t) (e := e) ⟨ht7, g3, Or.inl h5⟩ (fu - (e - s) - 1)
            rw [h6, h5]
          · refine g4.comp (by omega) ?_
            rw [show fu - (e - s) = fu - (e - s) - 1 + 1 by omega]
            have h6 := w_comp1 ht (t := t) (by rcases g5 with q | ⟨q, -⟩ <;> omega) (fu - (e - s) - 1)
            rw [h5]
            rw [h5] at h6
            exact h6
        · left
          have h9 := ht.2.2.2 e (by omega)
          have ht7 : t < 8 := by rcases g5 with q | ⟨q, -⟩ <;> omega
          have hE : rnE len cd t e := by
            refine ⟨ht7, g3, Or.inr ?_⟩
            rcases g5 with q | ⟨q, q2⟩ <;> subst q
            · have s0 : f_X4_stateBehind (nI 7) (nI (cd e)) = some (if cd e = 44 then nI 0 else -1) := sb7 ⟨cd e, by omega⟩
              rw [if_neg (by omega)] at s0
              exact s0
            · have q3 := q2 (by omega)
              have s0 : f_X4_stateBehind (nI 6) (nI (cd e)) = some (if cd e = 44 then nI 0 else if cd e = 33 ∨ cd e = 43 then nI 7 else -1) := sb6 ⟨cd e, by omega⟩
              rw [if_neg (by omega), if_neg (by omega)] at s0
              exact s0
          refine ⟨e, td2, tm + 1, fun fu hf => ?_, fun fu hf => ?_, fun fu hf => ?_⟩
          · obtain ⟨f, rfl⟩ : ∃ f, fu = f + 1 + 1 := ⟨fu - 1 - 1, by omega⟩
            rw [stp, if_neg h4, Option.bind_some]
            show f_X6_isText_12 (f + 1) 0 (mS o e td2 (tm + 1)) = _
            rw [m_text_end ht g3, if_neg h5]
          · refine g4.first (by omega) ?_
            rw [show fu - (e - s) = fu - (e - s) - 1 + 1 by omega]
            exact hE.first ht _
          · refine g4.comp (by omega) ?_
            rw [show fu - (e - s) = fu - (e - s) - 1 + 1 by omega]
            exact hE.comp0 ht (fun q => absurd q h5) (by omega)
/-- the buffer as a text, both sides -/
theorem texts {len : Nat} {cd : Nat → Nat} {x : TxC} {o : MdC} (ht : tV len cd x o) : (∃ e td2 tm2, f_X6_isText o = some (0, mS o e td2 tm2) ∧ f_X4_firstWrong x = some (nI e) ∧ f_X4_isComplete x = some 0) ∨ ∃ td2 n, f_X6_isText o = some (1, mS o len td2 n) ∧ f_X4_firstWrong x = some (nI len) ∧ f_X4_isComplete x = some 1 ∧ Pts len cd x td2 n 0 0 ∧ n ≤ 15 := by
  have h0 := ht.1
  rcases parse ht len 0 0 o.2.2.2.2.2.2.2.2.1 (by omega) (by omega) (by omega) with ⟨e, td2, tm2, g1, g2, g3⟩ | ⟨td2, n, g1, g2, g3, g4, g5, g6⟩
  · exact Or.inl ⟨e, td2, tm2, g1 FU (by unfold FU; omega), g2 FU (by unfold FU; omega), g3 FU (by unfold FU; omega)⟩
  · refine Or.inr ⟨td2, n, ?_, g2 FU (by unfold FU; omega), g3 FU (by unfold FU; omega), g4, by omega⟩
    have h1 := g1 FU (by unfold FU; omega)
    rw [Nat.zero_add] at h1
    exact h1
/-- the things of a text come, both sides -/
theorem parts {len : Nat} {cd : Nat → Nat} {t : TxC} {o0 : MdC} (ht : tV len cd t o0) {td : Fn} : ∀ (n s tm many : Nat) (a : AbT) (st : StC), Pts len cd t td n s tm → tm + n ≤ 15 → aOk a → cV a st → ∃ r st2 a2, aOk a2 ∧ cV a2 st2 ∧ (∀ (x : ClC) fu, x.1 = st → x.2.2.2 = t → n < fu → f_X5_putParts_15 fu (nI many) (nI len) (nI s) (nI tm) x = some (r, (st2, x.2))) ∧ ∀ (o : MdC) fu, mV a o.2.1 → o.2.2.2.2.2.2.2.2.1 = td → o.2.2.2.2.2.2.2.2.2.1 = nI (tm + n) → n < fu → ∃ m2, f_X6_putAll_29 fu (nI many) (nI tm) o = some (r, (o.1, m2, o.2.2.1, o.2.2.2.1, o.2.2.2.2.1, o.2.2.2.2.2.1, 0, o.2.2.2.2.2.2.2)) ∧ mV a2 m2 := by
  have h0 := ht.1
  intro n
  induction n with
  | zero =>
    intro s tm many a st hp h15 ho hc
    have hp2 : len ≤ s ∧ s ≤ 61 := hp
    refine ⟨nI many, st, a, ho, hc, fun x fu h1 h2 hf => ?_, fun o fu hm h1 h2 hf => ?_⟩
    · obtain ⟨f, rfl⟩ : ∃ f, fu = f + 1 := ⟨fu - 1, by omega⟩
      rw [f_X5_putParts_15.eq_2, li60, if_neg (nI_ge (by omega) (by omega))]
      rw [if_pos (nI_le hp2.1 (by omega)), ← h1]
    · obtain ⟨f, rfl⟩ : ∃ f, fu = f + 1 := ⟨fu - 1, by omega⟩
      rw [f_X6_putAll_29.eq_2, h2, if_pos (nI_le (by omega) (by omega))]
      exact ⟨_, rfl, hm⟩
  | succ n ih =>
    intro s tm many a st hp h15 ho hc
    obtain ⟨e, v, w, k, p1, p2, p3, ⟨p4, p, p5, p6, p7, p8⟩, p9, p10, p11, p12, p13, p14, p15, p16⟩ := hp
    have hN := ho.2.1
    have h9 := ht.2.2.2 (e - 1) (by omega)
    have c44 : f_X4_indexOf 44 (nI s) t = some (nI e) := w_indexOf_t ht (c := 44) (by omega) p2 p3 (by omega) p4
    have ce : nI e - 1 = nI (e - 1) := by rw [li1, nI_sub (by omega)]
    have cls : ∀ (x : ClC) f, x.1 = st → x.2.2.2 = t → f_X5_putParts_15 (f + 1) (nI many) (nI len) (nI s) (nI tm) x = Option.bind (f_X3_addAt st.2.1.1 (nI v) (nI w) (nI k) st) fun z8 => if z8.1 = -1 then f_X5_putParts_15 f (nI many) (nI len) (nI (e + 1)) (nI (tm + 1)) (z8.2, x.2) else f_X5_putParts_15 f (nI (many + 1)) (nI len) (nI (e + 1)) (nI (tm + 1)) (z8.2, x.2) := fun x f h1 h2 => by
      rw [f_X5_putParts_15.eq_2, li60, if_neg (nI_ge (by omega) (by omega)), if_neg (nI_ge (by omega) (by omega)), h2, p5, Option.bind_some, c44, Option.bind_some, p6, Option.bind_some, nI_1, li2, nI_add, p7, Option.bind_some, ce, w_codeAt ht (by omega), Option.bind_some, p8, Option.bind_some, h1, w_rsz, Option.bind_some]
      unfold f_X5_putParts_126
      rw [nI_1, nI_1, nI_1]
    have i1 : ∀ (kk : Option (Int32 × MdC)), gi 1 414 kk = kk := fun kk => gi_in (c := 1) (by omega) (by decide)
    have c1 : (1 : Int32).toNatClampNeg = 1 := by decide
    have mdl : ∀ (o : MdC) f, mV a o.2.1 → o.2.2.2.2.2.2.2.2.1 = td → o.2.2.2.2.2.2.2.2.2.1 = nI (tm + (n + 1)) → f_X6_putAll_29 (f + 1) (nI many) (nI tm) o = Option.bind (f_X6_comes (nI (aN a)) (nI v) (nI w) (nI k) o.2.1) fun z4 => if z4.1 = -1 then f_X6_putAll_29 f (nI many) (nI (tm + 1)) (o.1, z4.2, o.2.2) else f_X6_putAll_29 f (nI (many + 1)) (nI (tm + 1)) (o.1, z4.2, o.2.2) := fun o f h1 h2 h3 => by
      rw [f_X6_putAll_29.eq_2, h3, if_neg (nI_ge (by omega) (by omega)), h2, i1, c1, h1.2.1, li3, nI_mul, nI_1, li2, nI_add, gi_in (by omega) (by decide), gi_in (by omega) (by decide), gi_in (by omega) (by decide), nI_clamp (by omega), nI_clamp (by omega), nI_clamp (by omega), p13, p14, p15]
      unfold f_X6_putAll_88
      rw [nI_1, Int32.add_zero, nI_1]
    obtain ⟨low, l1, l2⟩ := w_addLast ho hc (v := v) (w := w) (k := k) p9 p10 p11 p12
    rcases l2 with ⟨l3, l4⟩ | ⟨b, y, l3, l4, l5, l6, l7, l8⟩
    · obtain ⟨r, st2, a2, r1, r2, r3, r4⟩ := ih (e + 1) (tm + 1) many a st p16 (by omega) ho hc
      refine ⟨r, st2, a2, r1, r2, fun x fu h1 h2 hf => ?_, fun o fu hm h1 h2 hf => ?_⟩
      · obtain ⟨f, rfl⟩ : ∃ f, fu = f + 1 := ⟨fu - 1, by omega⟩
        rw [cls x f h1 h2, l4, Option.bind_some]
        show (if (-1 : Int32) = -1 then f_X5_putParts_15 f (nI many) (nI len) (nI (e + 1)) (nI (tm + 1)) (st, x.2) else _) = _
        rw [if_pos rfl]
        exact r3 (st, x.2) f rfl h2 (by omega)
      · obtain ⟨f, rfl⟩ : ∃ f, fu = f + 1 := ⟨fu - 1, by omega⟩
        have hcm := (m_comes ho hm (p := aN a) (v := v) (k := k) (Nat.le_refl _) p10 p11 l1).1 l3
        rw [mdl o f hm h1 h2, hcm, Option.bind_some]
        show ∃ m2, (if (-1 : Int32) = -1 then f_X6_putAll_29 f (nI many) (nI (tm + 1)) (o.1, o.2.1, o.2.2) else _) = _ ∧ _
        rw [if_pos rfl]
        exact r4 (o.1, o.2.1, o.2.2) f hm h1 (by rw [show tm + 1 + n = tm + (n + 1) by omega]; exact h2) (by omega)
    · have ho2 := aPut.ok ho (p := aN a) (Nat.le_refl _) p9 p10 p11 p12 l4 l5
      obtain ⟨r, st2, a2, r1, r2, r3, r4⟩ := ih (e + 1) (tm + 1) (many + 1) (aPut a (aN a) v w k b) y p16 (by omega) ho2 l8
      refine ⟨r, st2, a2, r1, r2, fun x fu h1 h2 hf => ?_, fun o fu hm h1 h2 hf => ?_⟩
      · obtain ⟨f, rfl⟩ : ∃ f, fu = f + 1 := ⟨fu - 1, by omega⟩
        rw [cls x f h1 h2, l6, Option.bind_some]
        show (if nI b = -1 then _ else f_X5_putParts_15 f (nI (many + 1)) (nI len) (nI (e + 1)) (nI (tm + 1)) (y, x.2)) = _
        rw [if_neg (nI_m1 (by omega))]
        exact r3 (y, x.2) f rfl h2 (by omega)
      · obtain ⟨f, rfl⟩ : ∃ f, fu = f + 1 := ⟨fu - 1, by omega⟩
        obtain ⟨m2, t1, t2⟩ := (m_comes ho hm (p := aN a) (v := v) (k := k) (Nat.le_refl _) p10 p11 l1).2 b l3 l4
        rw [mdl o f hm h1 h2, t1, Option.bind_some]
        show ∃ m2_1, (if nI b = -1 then _ else f_X6_putAll_29 f (nI (many + 1)) (nI (tm + 1)) (o.1, m2, o.2.2)) = _ ∧ _
        rw [if_neg (nI_m1 (by omega))]
        exact r4 (o.1, m2, o.2.2) f t2 h1 (by rw [show tm + 1 + n = tm + (n + 1) by omega]; exact h2) (by omega)
