theorem ok_L_drawn : yS yL_drawn cL_drawn 2 (some .int) 2 := ⟨q443, q0, q442, by decide +kernel, by decide +kernel, by decide +kernel⟩
set_option maxRecDepth 100000 in
set_option maxHeartbeats 4000000 in
theorem mt_L_drawn (l : Launch) (D : va_G) (I J O : ClassId) (b L : Nat) (xs : Fn) (p1 r : Int32) (hf : f_L_drawn L xs p1 = some r) : Met l yL_drawn (wsB yL_drawn cL_drawn 2 (some .int)) (rmB 0 0 0 0) (pcS D I J O [.ref b, .int p1] b L xs) (qRi r) 0 0 (fun _ => False) := by
  refine mS_open (own := RL) rfl (by decide +kernel) (Nat.le_of_ble_eq_true rfl) (fun p e s m below meth c ls E hXs hbl hl => ?_)
  have hx := E.1
  have hb := E.2.1
  have hbA : ¬ (fun _ : Nat => False) b := fun h9 => h9
  have hS : va_S (fun _ : Nat => False) s.heap s.heap [] := va_S.rf
  have hl : lv_has ls 2 [(0, .ref b), (1, .int p1)] := hl
  unfold f_L_drawn at hf
  refine lv_aload_n hx hb dL_drawn_0 rfl (lv_at hl 0 rfl) ?_
  refine va_slen hx hb hXs hbl hbA hS dL_drawn_1 ?_
  refine lv_if_ne (tgt := 15) hx hb dL_drawn_2 (by decide) (fun hc => ?_) (fun hc => ?_)
  · rw [if_neg hc] at hf
    refine lv_aload_n hx hb dL_drawn_15 rfl (lv_at hl 0 rfl) ?_
    refine lv_iload_n hx hb dL_drawn_16 rfl (lv_at hl 1 rfl) ?_
    refine lv_aload_n hx hb dL_drawn_17 rfl (lv_at hl 0 rfl) ?_
    refine va_slen hx hb hXs hbl hbA hS dL_drawn_18 ?_
    obtain ⟨g, hf⟩ := gd_s hf
    refine lv_irem hx hb dL_drawn_19 g ?_
    obtain ⟨g, hf⟩ := gi_s hf
    refine va_sld hx hb hXs hbl hbA hS g dL_drawn_20 ?_
    refine lv_iload_n hx hb dL_drawn_21 rfl (lv_at hl 1 rfl) ?_
    refine lv_bipush (v := 7) hx hb dL_drawn_22 (by decide) ?_
    refine lv_irem hx hb dL_drawn_24 (by decide) ?_
    refine lv_ishr hx hb dL_drawn_25 ?_
    refine lv_iload_n hx hb dL_drawn_26 rfl (lv_at hl 1 rfl) ?_
    refine lv_aload_n hx hb dL_drawn_27 rfl (lv_at hl 0 rfl) ?_
    refine va_slen hx hb hXs hbl hbA hS dL_drawn_28 ?_
    obtain ⟨g, hf⟩ := gd_s hf
    refine lv_idiv hx hb dL_drawn_29 g ?_
    refine lv_bipush (v := 31) hx hb dL_drawn_30 (by decide) ?_
    refine lv_imul hx hb dL_drawn_32 ?_
    refine lv_ixor hx hb dL_drawn_33 ?_
    refine lv_iload_n hx hb dL_drawn_34 rfl (lv_at hl 1 rfl) ?_
    refine lv_ldc (v := 2654435) hx hb E.2.2.2.1 (E.2.2.2.2.1 _ q444) dL_drawn_35 ?_
    refine lv_imul hx hb dL_drawn_37 ?_
    refine lv_ixor hx hb dL_drawn_38 ?_
    exact x_iR E (Option.some.inj hf) dL_drawn_39
  · rw [if_pos hc] at hf
    refine lv_sipush (v := 7919) hx hb dL_drawn_5 (by decide) ?_
    refine lv_iload_n hx hb dL_drawn_8 rfl (lv_at hl 1 rfl) ?_
    refine lv_imul hx hb dL_drawn_9 ?_
    refine lv_iconst (v := 3) hx hb dL_drawn_10 (by decide) ?_
    refine lv_iadd hx hb dL_drawn_11 ?_
    refine lv_goto (tgt := 39) hx hb dL_drawn_12 (by decide) ?_
    exact x_iR E (Option.some.inj hf) dL_drawn_39
