theorem ok_L_refused : yS yL_refused cL_refused 3 (some .boolean) 1 := ⟨q688, q0, q687, by decide +kernel, by decide +kernel, by decide +kernel⟩
set_option maxRecDepth 100000 in
set_option maxHeartbeats 4000000 in
theorem mt_L_refused (l : Launch) (hfl : l.stackTraces = false) (D : va_G) (I J O : ClassId) (h0 : Nat) (n t : Nat → Nat) (b0 b1 hh ha : Nat) (ad : Nat → Nat → Nat) (sz : Nat)  (x : ClC) (r : Int32) (y0 : ClC) (hf : f_L_refused x = some (r, y0)) : mZ l yL_refused cL_refused 3 (some .boolean) 11 250 58 348 D I J O sz [.ref h0] (wCl I h0 n t b0 b1 hh x ++ wHi I O hh ha ad x.2.2.1) (qMi D sz (wCl I h0 n t b0 b1 hh x ++ wHi I O hh ha ad x.2.2.1) r (fun ad9 : Nat → Nat → Nat => wCl I h0 n t b0 b1 hh y0 ++ wHi I O hh ha ad9 y0.2.2.1)) := by
  refine mZ_open (own := RL) rfl (by decide +kernel) (Nat.le_of_ble_eq_true rfl) (fun p e s m below meth c ls E hXZ hsz hw hl => ?_)
  obtain ⟨ws0, hws⟩ : ∃ ws0 : va_W, ws0 = wCl I h0 n t b0 b1 hh x ++ wHi I O hh ha ad x.2.2.1 := ⟨_, rfl⟩
  rw [← hws] at hXZ
  have hw : fy D (va_A ws0 sz) s.heap s.heap [] (wCl I h0 n t b0 b1 hh x ++ wHi I O hh ha ad x.2.2.1) := by rw [hws]; exact hw
  rw [← hws]
  have hx := E.1
  have hb := E.2.1
  have hl : lv_has ls 3 [(0, .ref h0)] := hl
  unfold f_L_refused at hf
  refine lv_aload_n hx hb dL_refused_0 rfl (lv_at hl 0 rfl) ?_
  obtain ⟨z1, h, hf⟩ := bd_s hf
  refine x_mlFP0 hw (x_rV E (As := []) (rest := []) (mt_X5_digest l D I J O h0 n t b0 b1 hh ha ad s.heap.size x z1.1 z1.2 h) blM (x_recv E hw.1 0 5 rfl rfl rfl) (x_pcMPF0 E hw) ok_X5_digest q689 rfl hl.1 rfl (Nat.le_of_ble_eq_true rfl) ⟨Nat.le_of_ble_eq_true rfl, Nat.le_of_ble_eq_true rfl⟩ ⟨Nat.le_of_ble_eq_true rfl, Nat.le_of_ble_eq_true rfl⟩ dL_refused_1) (fun _ => rfl) (fun ad2 H locs hw => ?_)
  have hw : fy D (va_A ws0 sz) s.heap H locs (wCl I h0 n t b0 b1 hh z1.2 ++ wHi I O hh ha ad2 z1.2.2.2.1) := hw
  refine lv_lstore_n (lv' := [(1, .long z1.1), (0, .ref h0)]) hx hb dL_refused_4 rfl hl (by decide) rfl (fun ls hl => ?_)
  refine lv_aload_n hx hb dL_refused_5 rfl (lv_at hl 1 rfl) ?_
  refine lv_iconst (v := 0) hx hb dL_refused_6 (by decide) ?_
  obtain ⟨z3, h, hf⟩ := bd_s hf
  refine x_miFP0 hw (x_rS E (As := [.ref h0, .int 0]) (rest := []) (mt_L_refusesAny l hfl D I J O h0 n t b0 b1 hh ha ad2 H.size 0 z1.2 z3.1 z3.2 h) blZ (x_pcZF0 E hXZ hw) ok_L_refusesAny q733 rfl hl.1 rfl (Nat.le_of_ble_eq_true rfl) ⟨Nat.le_of_ble_eq_true rfl, Nat.le_of_ble_eq_true rfl⟩ ⟨Nat.le_of_ble_eq_true rfl, Nat.le_of_ble_eq_true rfl⟩ dL_refused_7) (fun _ => rfl) (fun ad4 H locs hw => ?_)
  have hw : fy D (va_A ws0 sz) s.heap H locs (wCl I h0 n t b0 b1 hh z3.2 ++ wHi I O hh ha ad4 z3.2.2.2.1) := hw
  refine lv_if_eq (tgt := 34) hx hb dL_refused_10 (by decide) (fun hc => ?_) (fun hc => ?_)
  · rw [if_pos hc] at hf
    refine lv_iconst (v := 0) hx hb dL_refused_34 (by decide) ?_
    obtain ⟨he0, hr⟩ := Prod.mk.inj (Option.some.inj hf)
    have he1 := hr
    subst he1
    refine W.widen (k := 58) (n := 348) (Nat.le_of_ble_eq_true rfl) (Nat.le_of_ble_eq_true rfl) ?_
    exact x_zM E ad4 hw (Or.inl rfl) he0 dL_refused_35
  · rw [if_neg hc] at hf
    refine lv_aload_n hx hb dL_refused_13 rfl (lv_at hl 1 rfl) ?_
    refine lv_iconst (v := 1) hx hb dL_refused_14 (by decide) ?_
    obtain ⟨z5, h, hf⟩ := bd_s hf
    refine x_miFP0 hw (x_rS E (As := [.ref h0, .int 1]) (rest := []) (mt_L_refusesAny l hfl D I J O h0 n t b0 b1 hh ha ad4 H.size 1 z3.2 z5.1 z5.2 h) blZ (x_pcZF0 E hXZ hw) ok_L_refusesAny q733 rfl hl.1 rfl (Nat.le_of_ble_eq_true rfl) ⟨Nat.le_of_ble_eq_true rfl, Nat.le_of_ble_eq_true rfl⟩ ⟨Nat.le_of_ble_eq_true rfl, Nat.le_of_ble_eq_true rfl⟩ dL_refused_15) (fun _ => rfl) (fun ad6 H locs hw => ?_)
    have hw : fy D (va_A ws0 sz) s.heap H locs (wCl I h0 n t b0 b1 hh z5.2 ++ wHi I O hh ha ad6 z5.2.2.2.1) := hw
    refine lv_if_eq (tgt := 34) hx hb dL_refused_18 (by decide) (fun hc => ?_) (fun hc => ?_)
    · rw [if_pos hc] at hf
      refine lv_iconst (v := 0) hx hb dL_refused_34 (by decide) ?_
      obtain ⟨he0, hr⟩ := Prod.mk.inj (Option.some.inj hf)
      have he1 := hr
      subst he1
      refine W.widen (k := 58) (n := 348) (Nat.le_of_ble_eq_true rfl) (Nat.le_of_ble_eq_true rfl) ?_
      exact x_zM E ad6 hw (Or.inl rfl) he0 dL_refused_35
    · rw [if_neg hc] at hf
      refine lv_aload_n hx hb dL_refused_21 rfl (lv_at hl 1 rfl) ?_
      obtain ⟨z7, h, hf⟩ := bd_s hf
      refine x_mlFP0 hw (x_rV E (As := []) (rest := []) (mt_X5_digest l D I J O h0 n t b0 b1 hh ha ad6 H.size z5.2 z7.1 z7.2 h) blM (x_recv E hw.1 0 5 rfl rfl rfl) (x_pcMPF0 E hw) ok_X5_digest q689 rfl hl.1 rfl (Nat.le_of_ble_eq_true rfl) ⟨Nat.le_of_ble_eq_true rfl, Nat.le_of_ble_eq_true rfl⟩ ⟨Nat.le_of_ble_eq_true rfl, Nat.le_of_ble_eq_true rfl⟩ dL_refused_22) (fun _ => rfl) (fun ad8 H locs hw => ?_)
      have hw : fy D (va_A ws0 sz) s.heap H locs (wCl I h0 n t b0 b1 hh z7.2 ++ wHi I O hh ha ad8 z7.2.2.2.1) := hw
      refine lv_lload_n hx hb dL_refused_25 rfl (lv_at hl 0 rfl) ?_
      refine W.lcmp hx hb dL_refused_26 ?_
      refine lv_if_ne (tgt := 34) hx hb dL_refused_27 (by decide) (fun hc => ?_) (fun hc => ?_)
      · rw [if_neg hc] at hf
        refine lv_iconst (v := 0) hx hb dL_refused_34 (by decide) ?_
        obtain ⟨he0, hr⟩ := Prod.mk.inj (Option.some.inj hf)
        have he1 := hr
        subst he1
        refine W.widen (k := 58) (n := 348) (Nat.le_of_ble_eq_true rfl) (Nat.le_of_ble_eq_true rfl) ?_
        exact x_zM E ad8 hw (Or.inl rfl) he0 dL_refused_35
      · rw [if_pos hc] at hf
        refine lv_iconst (v := 1) hx hb dL_refused_30 (by decide) ?_
        refine lv_goto (tgt := 35) hx hb dL_refused_31 (by decide) ?_
        obtain ⟨he0, hr⟩ := Prod.mk.inj (Option.some.inj hf)
        have he1 := hr
        subst he1
        refine W.widen (k := 58) (n := 348) (Nat.le_of_ble_eq_true rfl) (Nat.le_of_ble_eq_true rfl) ?_
        exact x_zM E ad8 hw (Or.inr rfl) he0 dL_refused_35
