theorem ok_X2_copyFrom : yV yX2_copyFrom cX2_copyFrom 2 none 1 := ⟨q163, q3, q161, q162, by decide +kernel, by decide +kernel, by decide +kernel⟩
set_option maxRecDepth 100000 in
set_option maxHeartbeats 4000000 in
theorem mt_X2_copyFrom (l : Launch) (D : va_G) (I J O : ClassId) (a0 a1 a2 a3 a4 a5 a6 : Nat) (b0 b1 b2 b3 b4 b5 b6 : Nat) (sz : Nat)  (x : SlC) (o : SlC) (y0 : SlC) (hf : f_X2_copyFrom x o = some y0) : mM l yX2_copyFrom cX2_copyFrom 2 none 1 18 0 0 D I J O sz [.ref a0, .ref b0] (wSl I a0 a1 a2 a3 a4 a5 a6 x ++ wSl I b0 b1 b2 b3 b4 b5 b6 o) (qMv D sz (wSl I a0 a1 a2 a3 a4 a5 a6 x ++ wSl I b0 b1 b2 b3 b4 b5 b6 o) (fun _ : Unit => wSl I a0 a1 a2 a3 a4 a5 a6 y0 ++ wSl I b0 b1 b2 b3 b4 b5 b6 o)) := by
  refine mM_open (own := RX2) rfl (by decide +kernel) (Nat.le_of_ble_eq_true rfl) (fun p e s m below meth c ls E hnm hsz hw hl => ?_)
  obtain ⟨ws0, hws⟩ : ∃ ws0 : va_W, ws0 = wSl I a0 a1 a2 a3 a4 a5 a6 x ++ wSl I b0 b1 b2 b3 b4 b5 b6 o := ⟨_, rfl⟩
  have hw : fy D (va_A ws0 sz) s.heap s.heap [] (wSl I a0 a1 a2 a3 a4 a5 a6 x ++ wSl I b0 b1 b2 b3 b4 b5 b6 o) := by rw [hws]; exact hw
  rw [← hws]
  have hx := E.1
  have hb := E.2.1
  have hl : lv_has ls 2 [(0, .ref a0), (1, .ref b0)] := hl
  unfold f_X2_copyFrom at hf
  refine lv_aload_n hx hb dX2_copyFrom_0 rfl (lv_at hl 0 rfl) ?_
  refine lv_aload_n hx hb dX2_copyFrom_1 rfl (lv_at hl 1 rfl) ?_
  refine x_get E hw.1 7 rfl rfl in2 0 (by decide) q35 rfl rfl dX2_copyFrom_2 ?_
  refine x_put E hw 0 rfl rfl in2 tyX2_ok nmX2 0 (by decide) q35 rfl rfl rfl rfl (Nat.le_of_ble_eq_true rfl) dX2_copyFrom_5 (fun H locs hw => ?_)
  have hw : fy D (va_A ws0 sz) s.heap H locs (wSl I a0 a1 a2 a3 a4 a5 a6 (o.1, x.2) ++ wSl I b0 b1 b2 b3 b4 b5 b6 o) := hw
  refine lv_aload_n hx hb dX2_copyFrom_8 rfl (lv_at hl 1 rfl) ?_
  refine x_get E hw.1 7 rfl rfl in2 1 (by decide) q36 rfl rfl dX2_copyFrom_9 ?_
  refine lv_iconst (v := 0) hx hb dX2_copyFrom_12 (by decide) ?_
  refine lv_aload_n hx hb dX2_copyFrom_13 rfl (lv_at hl 0 rfl) ?_
  refine x_get E hw.1 0 rfl rfl in2 1 (by decide) q36 rfl rfl dX2_copyFrom_14 ?_
  refine lv_iconst (v := 0) hx hb dX2_copyFrom_17 (by decide) ?_
  refine lv_bipush (v := 64) hx hb dX2_copyFrom_18 (by decide) ?_
  obtain ⟨g, hf⟩ := gcp_s hf
  refine x_copy E hl.1 q164 q166 q165 q12 hw 8 1 rfl rfl g (Nat.le_of_ble_eq_true rfl) (Nat.le_of_ble_eq_true rfl) dX2_copyFrom_20 (fun H locs hw => ?_)
  have hw : fy D (va_A ws0 sz) s.heap H locs (wSl I a0 a1 a2 a3 a4 a5 a6 (o.1, (va_cpy o.2.1 x.2.1 (0 : Int32).toNatClampNeg (0 : Int32).toNatClampNeg (64 : Int32).toNatClampNeg), x.2.2) ++ wSl I b0 b1 b2 b3 b4 b5 b6 o) := hw
  refine lv_aload_n hx hb dX2_copyFrom_23 rfl (lv_at hl 1 rfl) ?_
  refine x_get E hw.1 7 rfl rfl in2 2 (by decide) q37 rfl rfl dX2_copyFrom_24 ?_
  refine lv_iconst (v := 0) hx hb dX2_copyFrom_27 (by decide) ?_
  refine lv_aload_n hx hb dX2_copyFrom_28 rfl (lv_at hl 0 rfl) ?_
  refine x_get E hw.1 0 rfl rfl in2 2 (by decide) q37 rfl rfl dX2_copyFrom_29 ?_
  refine lv_iconst (v := 0) hx hb dX2_copyFrom_32 (by decide) ?_
  refine lv_bipush (v := 64) hx hb dX2_copyFrom_33 (by decide) ?_
  obtain ⟨g, hf⟩ := gcp_s hf
  refine x_copy E hl.1 q164 q166 q165 q12 hw 9 2 rfl rfl g (Nat.le_of_ble_eq_true rfl) (Nat.le_of_ble_eq_true rfl) dX2_copyFrom_35 (fun H locs hw => ?_)
  have hw : fy D (va_A ws0 sz) s.heap H locs (wSl I a0 a1 a2 a3 a4 a5 a6 (o.1, (va_cpy o.2.1 x.2.1 (0 : Int32).toNatClampNeg (0 : Int32).toNatClampNeg (64 : Int32).toNatClampNeg), (va_cpy o.2.2.1 x.2.2.1 (0 : Int32).toNatClampNeg (0 : Int32).toNatClampNeg (64 : Int32).toNatClampNeg), x.2.2.2) ++ wSl I b0 b1 b2 b3 b4 b5 b6 o) := hw
  refine lv_aload_n hx hb dX2_copyFrom_38 rfl (lv_at hl 1 rfl) ?_
  refine x_get E hw.1 7 rfl rfl in2 3 (by decide) q38 rfl rfl dX2_copyFrom_39 ?_
  refine lv_iconst (v := 0) hx hb dX2_copyFrom_42 (by decide) ?_
  refine lv_aload_n hx hb dX2_copyFrom_43 rfl (lv_at hl 0 rfl) ?_
  refine x_get E hw.1 0 rfl rfl in2 3 (by decide) q38 rfl rfl dX2_copyFrom_44 ?_
  refine lv_iconst (v := 0) hx hb dX2_copyFrom_47 (by decide) ?_
  refine lv_bipush (v := 64) hx hb dX2_copyFrom_48 (by decide) ?_
  obtain ⟨g, hf⟩ := gcp_s hf
  refine x_copy E hl.1 q164 q166 q165 q12 hw 10 3 rfl rfl g (Nat.le_of_ble_eq_true rfl) (Nat.le_of_ble_eq_true rfl) dX2_copyFrom_50 (fun H locs hw => ?_)
  have hw : fy D (va_A ws0 sz) s.heap H locs (wSl I a0 a1 a2 a3 a4 a5 a6 (o.1, (va_cpy o.2.1 x.2.1 (0 : Int32).toNatClampNeg (0 : Int32).toNatClampNeg (64 : Int32).toNatClampNeg), (va_cpy o.2.2.1 x.2.2.1 (0 : Int32).toNatClampNeg (0 : Int32).toNatClampNeg (64 : Int32).toNatClampNeg), (va_cpy o.2.2.2.1 x.2.2.2.1 (0 : Int32).toNatClampNeg (0 : Int32).toNatClampNeg (64 : Int32).toNatClampNeg), x.2.2.2.2) ++ wSl I b0 b1 b2 b3 b4 b5 b6 o) := hw
  refine lv_aload_n hx hb dX2_copyFrom_53 rfl (lv_at hl 1 rfl) ?_
  refine x_get E hw.1 7 rfl rfl in2 4 (by decide) q39 rfl rfl dX2_copyFrom_54 ?_
  refine lv_iconst (v := 0) hx hb dX2_copyFrom_57 (by decide) ?_
  refine lv_aload_n hx hb dX2_copyFrom_58 rfl (lv_at hl 0 rfl) ?_
  refine x_get E hw.1 0 rfl rfl in2 4 (by decide) q39 rfl rfl dX2_copyFrom_59 ?_
  refine lv_iconst (v := 0) hx hb dX2_copyFrom_62 (by decide) ?_
  refine lv_bipush (v := 64) hx hb dX2_copyFrom_63 (by decide) ?_
  obtain ⟨g, hf⟩ := gcp_s hf
  refine x_copy E hl.1 q164 q166 q165 q12 hw 11 4 rfl rfl g (Nat.le_of_ble_eq_true rfl) (Nat.le_of_ble_eq_true rfl) dX2_copyFrom_65 (fun H locs hw => ?_)
  have hw : fy D (va_A ws0 sz) s.heap H locs (wSl I a0 a1 a2 a3 a4 a5 a6 (o.1, (va_cpy o.2.1 x.2.1 (0 : Int32).toNatClampNeg (0 : Int32).toNatClampNeg (64 : Int32).toNatClampNeg), (va_cpy o.2.2.1 x.2.2.1 (0 : Int32).toNatClampNeg (0 : Int32).toNatClampNeg (64 : Int32).toNatClampNeg), (va_cpy o.2.2.2.1 x.2.2.2.1 (0 : Int32).toNatClampNeg (0 : Int32).toNatClampNeg (64 : Int32).toNatClampNeg), (va_cpy o.2.2.2.2.1 x.2.2.2.2.1 (0 : Int32).toNatClampNeg (0 : Int32).toNatClampNeg (64 : Int32).toNatClampNeg), x.2.2.2.2.2) ++ wSl I b0 b1 b2 b3 b4 b5 b6 o) := hw
  refine lv_aload_n hx hb dX2_copyFrom_68 rfl (lv_at hl 1 rfl) ?_
  refine x_get E hw.1 7 rfl rfl in2 5 (by decide) q40 rfl rfl dX2_copyFrom_69 ?_
  refine lv_iconst (v := 0) hx hb dX2_copyFrom_72 (by decide) ?_
  refine lv_aload_n hx hb dX2_copyFrom_73 rfl (lv_at hl 0 rfl) ?_
  refine x_get E hw.1 0 rfl rfl in2 5 (by decide) q40 rfl rfl dX2_copyFrom_74 ?_
  refine lv_iconst (v := 0) hx hb dX2_copyFrom_77 (by decide) ?_
  refine lv_bipush (v := 64) hx hb dX2_copyFrom_78 (by decide) ?_
  obtain ⟨g, hf⟩ := gcp_s hf
  refine x_copy E hl.1 q164 q166 q165 q12 hw 12 5 rfl rfl g (Nat.le_of_ble_eq_true rfl) (Nat.le_of_ble_eq_true rfl) dX2_copyFrom_80 (fun H locs hw => ?_)
  have hw : fy D (va_A ws0 sz) s.heap H locs (wSl I a0 a1 a2 a3 a4 a5 a6 (o.1, (va_cpy o.2.1 x.2.1 (0 : Int32).toNatClampNeg (0 : Int32).toNatClampNeg (64 : Int32).toNatClampNeg), (va_cpy o.2.2.1 x.2.2.1 (0 : Int32).toNatClampNeg (0 : Int32).toNatClampNeg (64 : Int32).toNatClampNeg), (va_cpy o.2.2.2.1 x.2.2.2.1 (0 : Int32).toNatClampNeg (0 : Int32).toNatClampNeg (64 : Int32).toNatClampNeg), (va_cpy o.2.2.2.2.1 x.2.2.2.2.1 (0 : Int32).toNatClampNeg (0 : Int32).toNatClampNeg (64 : Int32).toNatClampNeg), (va_cpy o.2.2.2.2.2.1 x.2.2.2.2.2.1 (0 : Int32).toNatClampNeg (0 : Int32).toNatClampNeg (64 : Int32).toNatClampNeg), x.2.2.2.2.2.2) ++ wSl I b0 b1 b2 b3 b4 b5 b6 o) := hw
  refine lv_aload_n hx hb dX2_copyFrom_83 rfl (lv_at hl 1 rfl) ?_
  refine x_get E hw.1 7 rfl rfl in2 6 (by decide) q41 rfl rfl dX2_copyFrom_84 ?_
  refine lv_iconst (v := 0) hx hb dX2_copyFrom_87 (by decide) ?_
  refine lv_aload_n hx hb dX2_copyFrom_88 rfl (lv_at hl 0 rfl) ?_
  refine x_get E hw.1 0 rfl rfl in2 6 (by decide) q41 rfl rfl dX2_copyFrom_89 ?_
  refine lv_iconst (v := 0) hx hb dX2_copyFrom_92 (by decide) ?_
  refine lv_bipush (v := 64) hx hb dX2_copyFrom_93 (by decide) ?_
  obtain ⟨g, hf⟩ := gcp_s hf
  refine x_copy E hl.1 q164 q166 q165 q12 hw 13 6 rfl rfl g (Nat.le_of_ble_eq_true rfl) (Nat.le_of_ble_eq_true rfl) dX2_copyFrom_95 (fun H locs hw => ?_)
  have hw : fy D (va_A ws0 sz) s.heap H locs (wSl I a0 a1 a2 a3 a4 a5 a6 (o.1, (va_cpy o.2.1 x.2.1 (0 : Int32).toNatClampNeg (0 : Int32).toNatClampNeg (64 : Int32).toNatClampNeg), (va_cpy o.2.2.1 x.2.2.1 (0 : Int32).toNatClampNeg (0 : Int32).toNatClampNeg (64 : Int32).toNatClampNeg), (va_cpy o.2.2.2.1 x.2.2.2.1 (0 : Int32).toNatClampNeg (0 : Int32).toNatClampNeg (64 : Int32).toNatClampNeg), (va_cpy o.2.2.2.2.1 x.2.2.2.2.1 (0 : Int32).toNatClampNeg (0 : Int32).toNatClampNeg (64 : Int32).toNatClampNeg), (va_cpy o.2.2.2.2.2.1 x.2.2.2.2.2.1 (0 : Int32).toNatClampNeg (0 : Int32).toNatClampNeg (64 : Int32).toNatClampNeg), (va_cpy o.2.2.2.2.2.2 x.2.2.2.2.2.2 (0 : Int32).toNatClampNeg (0 : Int32).toNatClampNeg (64 : Int32).toNatClampNeg)) ++ wSl I b0 b1 b2 b3 b4 b5 b6 o) := hw
  have he0 := (Option.some.inj hf)
  subst he0
  exact x_vM E () hw dX2_copyFrom_98
theorem ok_X2_isCell : yV yX2_isCell cX2_isCell 2 (some .boolean) 1 := ⟨q195, q3, q193, q194, by decide +kernel, by decide +kernel, by decide +kernel⟩
set_option maxRecDepth 100000 in
set_option maxHeartbeats 4000000 in
theorem mt_X2_isCell (l : Launch) (D : va_G) (I J O : ClassId) (a0 a1 a2 a3 a4 a5 a6 : Nat) (p0 : Int32) (x : SlC) (r : Int32) (hf : f_X2_isCell p0 x = some r) : mR l yX2_isCell cX2_isCell 2 (some .boolean) 0 0 D I J O [.ref a0, .int p0] (wSl I a0 a1 a2 a3 a4 a5 a6 x) (qRi r) := by
  refine mR_open (own := RX2) rfl (by decide +kernel) (Nat.le_of_ble_eq_true rfl) (fun p e s m below meth c ls E hP hl => ?_)
  have hx := E.1
  have hb := E.2.1
  have hl : lv_has ls 2 [(0, .ref a0), (1, .int p0)] := hl
  unfold f_X2_isCell at hf
  refine lv_iload_n hx hb dX2_isCell_0 rfl (lv_at hl 1 rfl) ?_
  refine lv_if_lt (tgt := 22) hx hb dX2_isCell_1 (by decide) (fun hc => ?_) (fun hc => ?_)
  · rw [if_pos hc] at hf
    refine lv_iconst (v := 0) hx hb dX2_isCell_22 (by decide) ?_
    exact x_zR E (Or.inl rfl) (Option.some.inj hf) dX2_isCell_23
  · rw [if_neg hc] at hf
    refine lv_iload_n hx hb dX2_isCell_4 rfl (lv_at hl 1 rfl) ?_
    refine lv_aload_n hx hb dX2_isCell_5 rfl (lv_at hl 0 rfl) ?_
    refine x_get E hP 0 rfl rfl in2 0 (by decide) q35 rfl rfl dX2_isCell_6 ?_
    refine lv_icmp_ge (tgt := 22) hx hb dX2_isCell_9 (by decide) (fun hc => ?_) (fun hc => ?_)
    · rw [if_pos hc] at hf
      refine lv_iconst (v := 0) hx hb dX2_isCell_22 (by decide) ?_
      exact x_zR E (Or.inl rfl) (Option.some.inj hf) dX2_isCell_23
    · rw [if_neg hc] at hf
      refine lv_iload_n hx hb dX2_isCell_12 rfl (lv_at hl 1 rfl) ?_
      refine lv_bipush (v := 64) hx hb dX2_isCell_13 (by decide) ?_
      refine lv_icmp_ge (tgt := 22) hx hb dX2_isCell_15 (by decide) (fun hc => ?_) (fun hc => ?_)
      · rw [if_pos hc] at hf
        refine lv_iconst (v := 0) hx hb dX2_isCell_22 (by decide) ?_
        exact x_zR E (Or.inl rfl) (Option.some.inj hf) dX2_isCell_23
      · rw [if_neg hc] at hf
        refine lv_iconst (v := 1) hx hb dX2_isCell_18 (by decide) ?_
        refine lv_goto (tgt := 23) hx hb dX2_isCell_19 (by decide) ?_
        exact x_zR E (Or.inr rfl) (Option.some.inj hf) dX2_isCell_23
theorem ok_X2_cellsNow : yV yX2_cellsNow cX2_cellsNow 1 (some .int) 0 := ⟨q275, q3, q273, q274, by decide +kernel, by decide +kernel, by decide +kernel⟩
set_option maxRecDepth 100000 in
set_option maxHeartbeats 4000000 in
theorem mt_X2_cellsNow (l : Launch) (D : va_G) (I J O : ClassId) (a0 a1 a2 a3 a4 a5 a6 : Nat)  (x : SlC) (r : Int32) (hf : f_X2_cellsNow x = some r) : mR l yX2_cellsNow cX2_cellsNow 1 (some .int) 0 0 D I J O [.ref a0] (wSl I a0 a1 a2 a3 a4 a5 a6 x) (qRi r) := by
  refine mR_open (own := RX2) rfl (by decide +kernel) (Nat.le_of_ble_eq_true rfl) (fun p e s m below meth c ls E hP hl => ?_)
  have hx := E.1
  have hb := E.2.1
  have hl : lv_has ls 1 [(0, .ref a0)] := hl
  unfold f_X2_cellsNow at hf
  refine lv_aload_n hx hb dX2_cellsNow_0 rfl (lv_at hl 0 rfl) ?_
  refine x_get E hP 0 rfl rfl in2 0 (by decide) q35 rfl rfl dX2_cellsNow_1 ?_
  exact x_iR E (Option.some.inj hf) dX2_cellsNow_4
theorem ok_X2_stampAt : yV yX2_stampAt cX2_stampAt 2 (some .int) 1 := ⟨q480, q3, q478, q479, by decide +kernel, by decide +kernel, by decide +kernel⟩
set_option maxRecDepth 100000 in
set_option maxHeartbeats 4000000 in
theorem mt_X2_stampAt (l : Launch) (D : va_G) (I J O : ClassId) (a0 a1 a2 a3 a4 a5 a6 : Nat) (p0 : Int32) (x : SlC) (r : Int32) (hf : f_X2_stampAt p0 x = some r) : mR l yX2_stampAt cX2_stampAt 2 (some .int) 1 21 D I J O [.ref a0, .int p0] (wSl I a0 a1 a2 a3 a4 a5 a6 x) (qRi r) := by
  refine mR_open (own := RX2) rfl (by decide +kernel) (Nat.le_of_ble_eq_true rfl) (fun p e s m below meth c ls E hP hl => ?_)
  have hx := E.1
  have hb := E.2.1
  have hl : lv_has ls 2 [(0, .ref a0), (1, .int p0)] := hl
  unfold f_X2_stampAt at hf
  refine lv_aload_n hx hb dX2_stampAt_0 rfl (lv_at hl 0 rfl) ?_
  refine lv_iload_n hx hb dX2_stampAt_1 rfl (lv_at hl 1 rfl) ?_
  obtain ⟨z1, h, hf⟩ := bd_s hf
  refine x_ci (x_rV E (As := [.int p0]) (rest := []) (mt_X2_isCell l D I J O a0 a1 a2 a3 a4 a5 a6 p0 x z1 h) blR (x_recv E hP 0 2 rfl rfl rfl) (x_pcR E hP) ok_X2_isCell q192 rfl hl.1 rfl (Nat.le_of_ble_eq_true rfl) ⟨Nat.le_of_ble_eq_true rfl, Nat.le_of_ble_eq_true rfl⟩ ⟨Nat.le_of_ble_eq_true rfl, Nat.le_of_ble_eq_true rfl⟩ dX2_stampAt_2) ?_
  refine lv_if_eq (tgt := 17) hx hb dX2_stampAt_5 (by decide) (fun hc => ?_) (fun hc => ?_)
  · rw [if_pos hc] at hf
    refine lv_iconst (v := 0) hx hb dX2_stampAt_17 (by decide) ?_
    exact x_iR E (Option.some.inj hf) dX2_stampAt_18
  · rw [if_neg hc] at hf
    refine lv_aload_n hx hb dX2_stampAt_8 rfl (lv_at hl 0 rfl) ?_
    refine x_get E hP 0 rfl rfl in2 1 (by decide) q36 rfl rfl dX2_stampAt_9 ?_
    refine lv_iload_n hx hb dX2_stampAt_12 rfl (lv_at hl 1 rfl) ?_
    obtain ⟨g, hf⟩ := gi_s hf
    refine x_ald E hP 1 rfl g dX2_stampAt_13 ?_
    refine lv_goto (tgt := 18) hx hb dX2_stampAt_14 (by decide) ?_
    exact x_iR E (Option.some.inj hf) dX2_stampAt_18
theorem ok_X2_ownerOf : yV yX2_ownerOf cX2_ownerOf 2 (some .int) 1 := ⟨q431, q3, q429, q430, by decide +kernel, by decide +kernel, by decide +kernel⟩
set_option maxRecDepth 100000 in
set_option maxHeartbeats 4000000 in
theorem mt_X2_ownerOf (l : Launch) (D : va_G) (I J O : ClassId) (a0 a1 a2 a3 a4 a5 a6 : Nat) (p0 : Int32) (x : SlC) (r : Int32) (hf : f_X2_ownerOf p0 x = some r) : mR l yX2_ownerOf cX2_ownerOf 2 (some .int) 1 21 D I J O [.ref a0, .int p0] (wSl I a0 a1 a2 a3 a4 a5 a6 x) (qRi r) := by
  refine mR_open (own := RX2) rfl (by decide +kernel) (Nat.le_of_ble_eq_true rfl) (fun p e s m below meth c ls E hP hl => ?_)
  have hx := E.1
  have hb := E.2.1
  have hl : lv_has ls 2 [(0, .ref a0), (1, .int p0)] := hl
  unfold f_X2_ownerOf at hf
  refine lv_aload_n hx hb dX2_ownerOf_0 rfl (lv_at hl 0 rfl) ?_
  refine lv_iload_n hx hb dX2_ownerOf_1 rfl (lv_at hl 1 rfl) ?_
  obtain ⟨z1, h, hf⟩ := bd_s hf
  refine x_ci (x_rV E (As := [.int p0]) (rest := []) (mt_X2_isCell l D I J O a0 a1 a2 a3 a4 a5 a6 p0 x z1 h) blR (x_recv E hP 0 2 rfl rfl rfl) (x_pcR E hP) ok_X2_isCell q192 rfl hl.1 rfl (Nat.le_of_ble_eq_true rfl) ⟨Nat.le_of_ble_eq_true rfl, Nat.le_of_ble_eq_true rfl⟩ ⟨Nat.le_of_ble_eq_true rfl, Nat.le_of_ble_eq_true rfl⟩ dX2_ownerOf_2) ?_
  refine lv_if_eq (tgt := 17) hx hb dX2_ownerOf_5 (by decide) (fun hc => ?_) (fun hc => ?_)
  · rw [if_pos hc] at hf
    refine lv_iconst (v := (-1)) hx hb dX2_ownerOf_17 (by decide) ?_
    exact x_iR E (Option.some.inj hf) dX2_ownerOf_18
  · rw [if_neg hc] at hf
    refine lv_aload_n hx hb dX2_ownerOf_8 rfl (lv_at hl 0 rfl) ?_
    refine x_get E hP 0 rfl rfl in2 2 (by decide) q37 rfl rfl dX2_ownerOf_9 ?_
    refine lv_iload_n hx hb dX2_ownerOf_12 rfl (lv_at hl 1 rfl) ?_
    obtain ⟨g, hf⟩ := gi_s hf
    refine x_ald E hP 2 rfl g dX2_ownerOf_13 ?_
    refine lv_goto (tgt := 18) hx hb dX2_ownerOf_14 (by decide) ?_
    exact x_iR E (Option.some.inj hf) dX2_ownerOf_18
theorem ok_X2_sizeAt : yV yX2_sizeAt cX2_sizeAt 2 (some .int) 1 := ⟨q243, q3, q241, q242, by decide +kernel, by decide +kernel, by decide +kernel⟩
set_option maxRecDepth 100000 in
set_option maxHeartbeats 4000000 in
theorem mt_X2_sizeAt (l : Launch) (D : va_G) (I J O : ClassId) (a0 a1 a2 a3 a4 a5 a6 : Nat) (p0 : Int32) (x : SlC) (r : Int32) (hf : f_X2_sizeAt p0 x = some r) : mR l yX2_sizeAt cX2_sizeAt 2 (some .int) 1 21 D I J O [.ref a0, .int p0] (wSl I a0 a1 a2 a3 a4 a5 a6 x) (qRi r) := by
  refine mR_open (own := RX2) rfl (by decide +kernel) (Nat.le_of_ble_eq_true rfl) (fun p e s m below meth c ls E hP hl => ?_)
  have hx := E.1
  have hb := E.2.1
  have hl : lv_has ls 2 [(0, .ref a0), (1, .int p0)] := hl
  unfold f_X2_sizeAt at hf
  refine lv_aload_n hx hb dX2_sizeAt_0 rfl (lv_at hl 0 rfl) ?_
  refine lv_iload_n hx hb dX2_sizeAt_1 rfl (lv_at hl 1 rfl) ?_
  obtain ⟨z1, h, hf⟩ := bd_s hf
  refine x_ci (x_rV E (As := [.int p0]) (rest := []) (mt_X2_isCell l D I J O a0 a1 a2 a3 a4 a5 a6 p0 x z1 h) blR (x_recv E hP 0 2 rfl rfl rfl) (x_pcR E hP) ok_X2_isCell q192 rfl hl.1 rfl (Nat.le_of_ble_eq_true rfl) ⟨Nat.le_of_ble_eq_true rfl, Nat.le_of_ble_eq_true rfl⟩ ⟨Nat.le_of_ble_eq_true rfl, Nat.le_of_ble_eq_true rfl⟩ dX2_sizeAt_2) ?_
  refine lv_if_eq (tgt := 17) hx hb dX2_sizeAt_5 (by decide) (fun hc => ?_) (fun hc => ?_)
  · rw [if_pos hc] at hf
    refine lv_iconst (v := 0) hx hb dX2_sizeAt_17 (by decide) ?_
    exact x_iR E (Option.some.inj hf) dX2_sizeAt_18
  · rw [if_neg hc] at hf
    refine lv_aload_n hx hb dX2_sizeAt_8 rfl (lv_at hl 0 rfl) ?_
    refine x_get E hP 0 rfl rfl in2 3 (by decide) q38 rfl rfl dX2_sizeAt_9 ?_
    refine lv_iload_n hx hb dX2_sizeAt_12 rfl (lv_at hl 1 rfl) ?_
    obtain ⟨g, hf⟩ := gi_s hf
    refine x_ald E hP 3 rfl g dX2_sizeAt_13 ?_
    refine lv_goto (tgt := 18) hx hb dX2_sizeAt_14 (by decide) ?_
    exact x_iR E (Option.some.inj hf) dX2_sizeAt_18
theorem ok_X2_valueAt : yV yX2_valueAt cX2_valueAt 2 (some .int) 1 := ⟨q191, q3, q189, q190, by decide +kernel, by decide +kernel, by decide +kernel⟩
set_option maxRecDepth 100000 in
set_option maxHeartbeats 4000000 in
theorem mt_X2_valueAt (l : Launch) (D : va_G) (I J O : ClassId) (a0 a1 a2 a3 a4 a5 a6 : Nat) (p0 : Int32) (x : SlC) (r : Int32) (hf : f_X2_valueAt p0 x = some r) : mR l yX2_valueAt cX2_valueAt 2 (some .int) 1 21 D I J O [.ref a0, .int p0] (wSl I a0 a1 a2 a3 a4 a5 a6 x) (qRi r) := by
  refine mR_open (own := RX2) rfl (by decide +kernel) (Nat.le_of_ble_eq_true rfl) (fun p e s m below meth c ls E hP hl => ?_)
  have hx := E.1
  have hb := E.2.1
  have hl : lv_has ls 2 [(0, .ref a0), (1, .int p0)] := hl
  unfold f_X2_valueAt at hf
  refine lv_aload_n hx hb dX2_valueAt_0 rfl (lv_at hl 0 rfl) ?_
  refine lv_iload_n hx hb dX2_valueAt_1 rfl (lv_at hl 1 rfl) ?_
  obtain ⟨z1, h, hf⟩ := bd_s hf
  refine x_ci (x_rV E (As := [.int p0]) (rest := []) (mt_X2_isCell l D I J O a0 a1 a2 a3 a4 a5 a6 p0 x z1 h) blR (x_recv E hP 0 2 rfl rfl rfl) (x_pcR E hP) ok_X2_isCell q192 rfl hl.1 rfl (Nat.le_of_ble_eq_true rfl) ⟨Nat.le_of_ble_eq_true rfl, Nat.le_of_ble_eq_true rfl⟩ ⟨Nat.le_of_ble_eq_true rfl, Nat.le_of_ble_eq_true rfl⟩ dX2_valueAt_2) ?_
  refine lv_if_eq (tgt := 17) hx hb dX2_valueAt_5 (by decide) (fun hc => ?_) (fun hc => ?_)
  · rw [if_pos hc] at hf
    refine lv_iconst (v := 0) hx hb dX2_valueAt_17 (by decide) ?_
    exact x_iR E (Option.some.inj hf) dX2_valueAt_18
  · rw [if_neg hc] at hf
    refine lv_aload_n hx hb dX2_valueAt_8 rfl (lv_at hl 0 rfl) ?_
    refine x_get E hP 0 rfl rfl in2 4 (by decide) q39 rfl rfl dX2_valueAt_9 ?_
    refine lv_iload_n hx hb dX2_valueAt_12 rfl (lv_at hl 1 rfl) ?_
    obtain ⟨g, hf⟩ := gi_s hf
    refine x_ald E hP 4 rfl g dX2_valueAt_13 ?_
    refine lv_goto (tgt := 18) hx hb dX2_valueAt_14 (by decide) ?_
    exact x_iR E (Option.some.inj hf) dX2_valueAt_18
theorem ok_X2_kindAt : yV yX2_kindAt cX2_kindAt 2 (some .int) 1 := ⟨q199, q3, q197, q198, by decide +kernel, by decide +kernel, by decide +kernel⟩
set_option maxRecDepth 100000 in
set_option maxHeartbeats 4000000 in
theorem mt_X2_kindAt (l : Launch) (D : va_G) (I J O : ClassId) (a0 a1 a2 a3 a4 a5 a6 : Nat) (p0 : Int32) (x : SlC) (r : Int32) (hf : f_X2_kindAt p0 x = some r) : mR l yX2_kindAt cX2_kindAt 2 (some .int) 1 21 D I J O [.ref a0, .int p0] (wSl I a0 a1 a2 a3 a4 a5 a6 x) (qRi r) := by
  refine mR_open (own := RX2) rfl (by decide +kernel) (Nat.le_of_ble_eq_true rfl) (fun p e s m below meth c ls E hP hl => ?_)
  have hx := E.1
  have hb := E.2.1
  have hl : lv_has ls 2 [(0, .ref a0), (1, .int p0)] := hl
  unfold f_X2_kindAt at hf
  refine lv_aload_n hx hb dX2_kindAt_0 rfl (lv_at hl 0 rfl) ?_
  refine lv_iload_n hx hb dX2_kindAt_1 rfl (lv_at hl 1 rfl) ?_
  obtain ⟨z1, h, hf⟩ := bd_s hf
  refine x_ci (x_rV E (As := [.int p0]) (rest := []) (mt_X2_isCell l D I J O a0 a1 a2 a3 a4 a5 a6 p0 x z1 h) blR (x_recv E hP 0 2 rfl rfl rfl) (x_pcR E hP) ok_X2_isCell q192 rfl hl.1 rfl (Nat.le_of_ble_eq_true rfl) ⟨Nat.le_of_ble_eq_true rfl, Nat.le_of_ble_eq_true rfl⟩ ⟨Nat.le_of_ble_eq_true rfl, Nat.le_of_ble_eq_true rfl⟩ dX2_kindAt_2) ?_
  refine lv_if_eq (tgt := 17) hx hb dX2_kindAt_5 (by decide) (fun hc => ?_) (fun hc => ?_)
  · rw [if_pos hc] at hf
    refine lv_iconst (v := 0) hx hb dX2_kindAt_17 (by decide) ?_
    exact x_iR E (Option.some.inj hf) dX2_kindAt_18
  · rw [if_neg hc] at hf
    refine lv_aload_n hx hb dX2_kindAt_8 rfl (lv_at hl 0 rfl) ?_
    refine x_get E hP 0 rfl rfl in2 5 (by decide) q40 rfl rfl dX2_kindAt_9 ?_
    refine lv_iload_n hx hb dX2_kindAt_12 rfl (lv_at hl 1 rfl) ?_
    obtain ⟨g, hf⟩ := gi_s hf
    refine x_ald E hP 5 rfl g dX2_kindAt_13 ?_
    refine lv_goto (tgt := 18) hx hb dX2_kindAt_14 (by decide) ?_
    exact x_iR E (Option.some.inj hf) dX2_kindAt_18
theorem ok_X2_timesFired : yV yX2_timesFired cX2_timesFired 2 (some .int) 1 := ⟨q203, q3, q201, q202, by decide +kernel, by decide +kernel, by decide +kernel⟩
set_option maxRecDepth 100000 in
set_option maxHeartbeats 4000000 in
theorem mt_X2_timesFired (l : Launch) (D : va_G) (I J O : ClassId) (a0 a1 a2 a3 a4 a5 a6 : Nat) (p0 : Int32) (x : SlC) (r : Int32) (hf : f_X2_timesFired p0 x = some r) : mR l yX2_timesFired cX2_timesFired 2 (some .int) 1 21 D I J O [.ref a0, .int p0] (wSl I a0 a1 a2 a3 a4 a5 a6 x) (qRi r) := by
  refine mR_open (own := RX2) rfl (by decide +kernel) (Nat.le_of_ble_eq_true rfl) (fun p e s m below meth c ls E hP hl => ?_)
  have hx := E.1
  have hb := E.2.1
  have hl : lv_has ls 2 [(0, .ref a0), (1, .int p0)] := hl
  unfold f_X2_timesFired at hf
  refine lv_aload_n hx hb dX2_timesFired_0 rfl (lv_at hl 0 rfl) ?_
  refine lv_iload_n hx hb dX2_timesFired_1 rfl (lv_at hl 1 rfl) ?_
  obtain ⟨z1, h, hf⟩ := bd_s hf
  refine x_ci (x_rV E (As := [.int p0]) (rest := []) (mt_X2_isCell l D I J O a0 a1 a2 a3 a4 a5 a6 p0 x z1 h) blR (x_recv E hP 0 2 rfl rfl rfl) (x_pcR E hP) ok_X2_isCell q192 rfl hl.1 rfl (Nat.le_of_ble_eq_true rfl) ⟨Nat.le_of_ble_eq_true rfl, Nat.le_of_ble_eq_true rfl⟩ ⟨Nat.le_of_ble_eq_true rfl, Nat.le_of_ble_eq_true rfl⟩ dX2_timesFired_2) ?_
  refine lv_if_eq (tgt := 17) hx hb dX2_timesFired_5 (by decide) (fun hc => ?_) (fun hc => ?_)
  · rw [if_pos hc] at hf
    refine lv_iconst (v := 0) hx hb dX2_timesFired_17 (by decide) ?_
    exact x_iR E (Option.some.inj hf) dX2_timesFired_18
  · rw [if_neg hc] at hf
    refine lv_aload_n hx hb dX2_timesFired_8 rfl (lv_at hl 0 rfl) ?_
    refine x_get E hP 0 rfl rfl in2 6 (by decide) q41 rfl rfl dX2_timesFired_9 ?_
    refine lv_iload_n hx hb dX2_timesFired_12 rfl (lv_at hl 1 rfl) ?_
    obtain ⟨g, hf⟩ := gi_s hf
    refine x_ald E hP 6 rfl g dX2_timesFired_13 ?_
    refine lv_goto (tgt := 18) hx hb dX2_timesFired_14 (by decide) ?_
    exact x_iR E (Option.some.inj hf) dX2_timesFired_18
theorem ok_X2_handleOf : yV yX2_handleOf cX2_handleOf 2 (some .int) 1 := ⟨q398, q3, q396, q397, by decide +kernel, by decide +kernel, by decide +kernel⟩
set_option maxRecDepth 100000 in
set_option maxHeartbeats 4000000 in
theorem mt_X2_handleOf (l : Launch) (D : va_G) (I J O : ClassId) (a0 a1 a2 a3 a4 a5 a6 : Nat) (p0 : Int32) (x : SlC) (r : Int32) (hf : f_X2_handleOf p0 x = some r) : mR l yX2_handleOf cX2_handleOf 2 (some .int) 1 21 D I J O [.ref a0, .int p0] (wSl I a0 a1 a2 a3 a4 a5 a6 x) (qRi r) := by
  refine mR_open (own := RX2) rfl (by decide +kernel) (Nat.le_of_ble_eq_true rfl) (fun p e s m below meth c ls E hP hl => ?_)
  have hx := E.1
  have hb := E.2.1
  have hl : lv_has ls 2 [(0, .ref a0), (1, .int p0)] := hl
  unfold f_X2_handleOf at hf
  refine lv_aload_n hx hb dX2_handleOf_0 rfl (lv_at hl 0 rfl) ?_
  refine lv_iload_n hx hb dX2_handleOf_1 rfl (lv_at hl 1 rfl) ?_
  obtain ⟨z1, h, hf⟩ := bd_s hf
  refine x_ci (x_rV E (As := [.int p0]) (rest := []) (mt_X2_isCell l D I J O a0 a1 a2 a3 a4 a5 a6 p0 x z1 h) blR (x_recv E hP 0 2 rfl rfl rfl) (x_pcR E hP) ok_X2_isCell q192 rfl hl.1 rfl (Nat.le_of_ble_eq_true rfl) ⟨Nat.le_of_ble_eq_true rfl, Nat.le_of_ble_eq_true rfl⟩ ⟨Nat.le_of_ble_eq_true rfl, Nat.le_of_ble_eq_true rfl⟩ dX2_handleOf_2) ?_
  refine lv_if_eq (tgt := 23) hx hb dX2_handleOf_5 (by decide) (fun hc => ?_) (fun hc => ?_)
  · rw [if_pos hc] at hf
    refine lv_iconst (v := (-1)) hx hb dX2_handleOf_23 (by decide) ?_
    exact x_iR E (Option.some.inj hf) dX2_handleOf_24
  · rw [if_neg hc] at hf
    refine lv_iload_n hx hb dX2_handleOf_8 rfl (lv_at hl 1 rfl) ?_
    refine lv_sipush (v := 1000) hx hb dX2_handleOf_9 (by decide) ?_
    refine lv_imul hx hb dX2_handleOf_12 ?_
    refine lv_aload_n hx hb dX2_handleOf_13 rfl (lv_at hl 0 rfl) ?_
    refine x_get E hP 0 rfl rfl in2 1 (by decide) q36 rfl rfl dX2_handleOf_14 ?_
    refine lv_iload_n hx hb dX2_handleOf_17 rfl (lv_at hl 1 rfl) ?_
    obtain ⟨g, hf⟩ := gi_s hf
    refine x_ald E hP 1 rfl g dX2_handleOf_18 ?_
    refine lv_iadd hx hb dX2_handleOf_19 ?_
    refine lv_goto (tgt := 24) hx hb dX2_handleOf_20 (by decide) ?_
    exact x_iR E (Option.some.inj hf) dX2_handleOf_24
theorem ok_X2_whyRefused : yV yX2_whyRefused cX2_whyRefused 2 (some .int) 1 := ⟨q476, q3, q474, q475, by decide +kernel, by decide +kernel, by decide +kernel⟩
set_option maxRecDepth 100000 in
set_option maxHeartbeats 4000000 in
theorem mt_X2_whyRefused (l : Launch) (D : va_G) (I J O : ClassId) (a0 a1 a2 a3 a4 a5 a6 : Nat) (p0 : Int32) (x : SlC) (r : Int32) (hf : f_X2_whyRefused p0 x = some r) : mR l yX2_whyRefused cX2_whyRefused 2 (some .int) 2 42 D I J O [.ref a0, .int p0] (wSl I a0 a1 a2 a3 a4 a5 a6 x) (qRi r) := by
  refine mR_open (own := RX2) rfl (by decide +kernel) (Nat.le_of_ble_eq_true rfl) (fun p e s m below meth c ls E hP hl => ?_)
  have hx := E.1
  have hb := E.2.1
  have hl : lv_has ls 2 [(0, .ref a0), (1, .int p0)] := hl
  unfold f_X2_whyRefused at hf
  refine lv_iload_n hx hb dX2_whyRefused_0 rfl (lv_at hl 1 rfl) ?_
  refine lv_if_lt (tgt := 16) hx hb dX2_whyRefused_1 (by decide) (fun hc => ?_) (fun hc => ?_)
  · rw [if_pos hc] at hf
    refine lv_iconst (v := 1) hx hb dX2_whyRefused_16 (by decide) ?_
    exact x_iR E (Option.some.inj hf) dX2_whyRefused_17
  · rw [if_neg hc] at hf
    refine lv_aload_n hx hb dX2_whyRefused_4 rfl (lv_at hl 0 rfl) ?_
    refine lv_iload_n hx hb dX2_whyRefused_5 rfl (lv_at hl 1 rfl) ?_
    refine lv_sipush (v := 1000) hx hb dX2_whyRefused_6 (by decide) ?_
    refine lv_idiv hx hb dX2_whyRefused_9 (by decide) ?_
    obtain ⟨z1, h, hf⟩ := bd_s hf
    refine x_ci (x_rV E (As := [.int (p0 / 1000)]) (rest := []) (mt_X2_isCell l D I J O a0 a1 a2 a3 a4 a5 a6 (p0 / 1000) x z1 h) blR (x_recv E hP 0 2 rfl rfl rfl) (x_pcR E hP) ok_X2_isCell q192 rfl hl.1 rfl (Nat.le_of_ble_eq_true rfl) ⟨Nat.le_of_ble_eq_true rfl, Nat.le_of_ble_eq_true rfl⟩ ⟨Nat.le_of_ble_eq_true rfl, Nat.le_of_ble_eq_true rfl⟩ dX2_whyRefused_10) ?_
    refine lv_if_ne (tgt := 18) hx hb dX2_whyRefused_13 (by decide) (fun hc => ?_) (fun hc => ?_)
    · rw [if_neg hc] at hf
      refine lv_aload_n hx hb dX2_whyRefused_18 rfl (lv_at hl 0 rfl) ?_
      refine lv_iload_n hx hb dX2_whyRefused_19 rfl (lv_at hl 1 rfl) ?_
      refine lv_sipush (v := 1000) hx hb dX2_whyRefused_20 (by decide) ?_
      refine lv_idiv hx hb dX2_whyRefused_23 (by decide) ?_
      obtain ⟨z2, h, hf⟩ := bd_s hf
      refine x_ci (x_rV E (As := [.int (p0 / 1000)]) (rest := []) (mt_X2_stampAt l D I J O a0 a1 a2 a3 a4 a5 a6 (p0 / 1000) x z2 h) blR (x_recv E hP 0 2 rfl rfl rfl) (x_pcR E hP) ok_X2_stampAt q477 rfl hl.1 rfl (Nat.le_of_ble_eq_true rfl) ⟨Nat.le_of_ble_eq_true rfl, Nat.le_of_ble_eq_true rfl⟩ ⟨Nat.le_of_ble_eq_true rfl, Nat.le_of_ble_eq_true rfl⟩ dX2_whyRefused_24) ?_
      refine lv_iload_n hx hb dX2_whyRefused_27 rfl (lv_at hl 1 rfl) ?_
      refine lv_sipush (v := 1000) hx hb dX2_whyRefused_28 (by decide) ?_
      refine lv_irem hx hb dX2_whyRefused_31 (by decide) ?_
      refine lv_icmp_eq (tgt := 37) hx hb dX2_whyRefused_32 (by decide) (fun hc => ?_) (fun hc => ?_)
      · rw [if_pos hc] at hf
        refine lv_aload_n hx hb dX2_whyRefused_37 rfl (lv_at hl 0 rfl) ?_
        refine lv_iload_n hx hb dX2_whyRefused_38 rfl (lv_at hl 1 rfl) ?_
        refine lv_sipush (v := 1000) hx hb dX2_whyRefused_39 (by decide) ?_
        refine lv_idiv hx hb dX2_whyRefused_42 (by decide) ?_
        obtain ⟨z3, h, hf⟩ := bd_s hf
        refine x_ci (x_rV E (As := [.int (p0 / 1000)]) (rest := []) (mt_X2_sizeAt l D I J O a0 a1 a2 a3 a4 a5 a6 (p0 / 1000) x z3 h) blR (x_recv E hP 0 2 rfl rfl rfl) (x_pcR E hP) ok_X2_sizeAt q281 rfl hl.1 rfl (Nat.le_of_ble_eq_true rfl) ⟨Nat.le_of_ble_eq_true rfl, Nat.le_of_ble_eq_true rfl⟩ ⟨Nat.le_of_ble_eq_true rfl, Nat.le_of_ble_eq_true rfl⟩ dX2_whyRefused_43) ?_
        refine lv_if_ne (tgt := 53) hx hb dX2_whyRefused_46 (by decide) (fun hc => ?_) (fun hc => ?_)
        · rw [if_neg hc] at hf
          refine lv_iconst (v := 0) hx hb dX2_whyRefused_53 (by decide) ?_
          exact x_iR E (Option.some.inj hf) dX2_whyRefused_54
        · rw [if_pos hc] at hf
          refine lv_iconst (v := 3) hx hb dX2_whyRefused_49 (by decide) ?_
          refine lv_goto (tgt := 54) hx hb dX2_whyRefused_50 (by decide) ?_
          exact x_iR E (Option.some.inj hf) dX2_whyRefused_54
      · rw [if_neg hc] at hf
        refine lv_iconst (v := 2) hx hb dX2_whyRefused_35 (by decide) ?_
        exact x_iR E (Option.some.inj hf) dX2_whyRefused_36
    · rw [if_pos hc] at hf
      refine lv_iconst (v := 1) hx hb dX2_whyRefused_16 (by decide) ?_
      exact x_iR E (Option.some.inj hf) dX2_whyRefused_17
theorem ok_X2_lowestFor : yV yX2_lowestFor cX2_lowestFor 4 (some .int) 1 := ⟨q251, q3, q249, q250, by decide +kernel, by decide +kernel, by decide +kernel⟩
set_option maxRecDepth 100000 in
set_option maxHeartbeats 4000000 in
theorem k_X2_lowestFor_27 {p : Program} {l : Launch} {e : Env} {s : State} {m : MethodId} {args : Array Value} {below : List Frame} {meth : Method} {c : Code} {D : va_G} {I J O : ClassId} (E : fx p s m args meth c cX2_lowestFor RX2 4 (some .int) D I J O) (a0 a1 a2 a3 a4 a5 a6 : Nat)  (r : Int32) (k4 : Int32 → Int32 → Int32 → SlC → Option (Int32)) (hk4 : ∀ (v1 : Int32) (v2 : Int32) (v3 : Int32) (x : SlC), k4 v1 v2 v3 x = some r → va_P D vwCl (wSl I a0 a1 a2 a3 a4 a5 a6 x) s.heap → ∀ ls : Array Slot, lv_has ls 4 [(0, .ref a0), (1, .int v1), (2, .int v2), (3, .int v3)] → W p l e (rmB 0 0 0 0) s m args below meth c s.heap [] 0 0 (MQ below (qRi r) args s 0 0 (fun _ => False)) (F0 m 4 ls [])) : ∀ (v1 : Int32) (v3 : Int32) (t0 : Int32) (x : SlC), f_X2_lowestFor_27 k4 v1 v3 t0 x = some r → va_P D vwCl (wSl I a0 a1 a2 a3 a4 a5 a6 x) s.heap → ∀ ls : Array Slot, lv_has ls 4 [(0, .ref a0), (1, .int v1), (3, .int v3)] → W p l e (rmB 0 0 0 0) s m args below meth c s.heap [] 0 0 (MQ below (qRi r) args s 0 0 (fun _ => False)) (F0 m 27 ls [.int t0]) := by
  have hx := E.1
  have hb := E.2.1
  intro v1 v3 t0 x hf hP ls hl
  unfold f_X2_lowestFor_27 at hf
  refine lv_istore_n (lv' := [(2, .int t0), (0, .ref a0), (1, .int v1), (3, .int v3)]) hx hb dX2_lowestFor_27 rfl hl (by decide) rfl (fun ls hl => ?_)
  refine lv_iload_n hx hb dX2_lowestFor_28 rfl (lv_at hl 0 rfl) ?_
  refine lv_iload_n hx hb dX2_lowestFor_29 rfl (lv_at hl 2 rfl) ?_
  refine lv_icmp_ne (tgt := 39) hx hb dX2_lowestFor_30 (by decide) (fun hc => ?_) (fun hc => ?_)
  · rw [if_neg hc] at hf
    refine lv_iinc (v := v3 + 1) (lv' := [(3, .int (v3 + 1)), (2, .int t0), (0, .ref a0), (1, .int v1)]) hx hb dX2_lowestFor_39 hl (k := 3) rfl rfl (by decide) rfl (fun ls hl => ?_)
    refine lv_goto (tgt := 4) hx hb dX2_lowestFor_42 (by decide) ?_
    exact hk4 v1 t0 (v3 + 1) x hf hP _ (lv_sub hl [2, 3, 1, 0] rfl)
  · rw [if_pos hc] at hf
    refine lv_iload_n hx hb dX2_lowestFor_33 rfl (lv_at hl 3 rfl) ?_
    refine lv_iload_n hx hb dX2_lowestFor_34 rfl (lv_at hl 2 rfl) ?_
    refine lv_isub hx hb dX2_lowestFor_35 ?_
    refine lv_iconst (v := 1) hx hb dX2_lowestFor_36 (by decide) ?_
    refine lv_iadd hx hb dX2_lowestFor_37 ?_
    exact x_iR E (Option.some.inj hf) dX2_lowestFor_38
set_option maxRecDepth 100000 in
set_option maxHeartbeats 4000000 in
theorem k_X2_lowestFor_4 {p : Program} {l : Launch} {e : Env} {s : State} {m : MethodId} {args : Array Value} {below : List Frame} {meth : Method} {c : Code} {D : va_G} {I J O : ClassId} (E : fx p s m args meth c cX2_lowestFor RX2 4 (some .int) D I J O) (a0 a1 a2 a3 a4 a5 a6 : Nat)  (r : Int32) : ∀ fu : Nat, ∀ (v1 : Int32) (v2 : Int32) (v3 : Int32) (x : SlC), f_X2_lowestFor_4 fu v1 v2 v3 x = some r → va_P D vwCl (wSl I a0 a1 a2 a3 a4 a5 a6 x) s.heap → ∀ ls : Array Slot, lv_has ls 4 [(0, .ref a0), (1, .int v1), (2, .int v2), (3, .int v3)] → W p l e (rmB 0 0 0 0) s m args below meth c s.heap [] 0 0 (MQ below (qRi r) args s 0 0 (fun _ => False)) (F0 m 4 ls []) := by
  have hx := E.1
  have hb := E.2.1
  intro fu
  induction fu with
  | zero =>
    intro v1 v2 v3 x hf hP ls hl
    rw [f_X2_lowestFor_4.eq_1] at hf
    cases hf
  | succ fu ih =>
    intro v1 v2 v3 x hf hP ls hl
    rw [f_X2_lowestFor_4.eq_2] at hf
    refine lv_iload_n hx hb dX2_lowestFor_4 rfl (lv_at hl 3 rfl) ?_
    refine lv_bipush (v := 64) hx hb dX2_lowestFor_5 (by decide) ?_
    refine lv_icmp_ge (tgt := 45) hx hb dX2_lowestFor_7 (by decide) (fun hc => ?_) (fun hc => ?_)
    · rw [if_pos hc] at hf
      refine lv_iconst (v := (-1)) hx hb dX2_lowestFor_45 (by decide) ?_
      exact x_iR E (Option.some.inj hf) dX2_lowestFor_46
    · rw [if_neg hc] at hf
      refine lv_aload_n hx hb dX2_lowestFor_10 rfl (lv_at hl 0 rfl) ?_
      refine x_get E hP 0 rfl rfl in2 2 (by decide) q37 rfl rfl dX2_lowestFor_11 ?_
      refine lv_iload_n hx hb dX2_lowestFor_14 rfl (lv_at hl 3 rfl) ?_
      obtain ⟨g, hf⟩ := gi_s hf
      refine x_ald E hP 2 rfl g dX2_lowestFor_15 ?_
      refine lv_iconst (v := (-1)) hx hb dX2_lowestFor_16 (by decide) ?_
      refine lv_icmp_ne (tgt := 26) hx hb dX2_lowestFor_17 (by decide) (fun hc => ?_) (fun hc => ?_)
      · rw [if_neg hc] at hf
        refine lv_iconst (v := 0) hx hb dX2_lowestFor_26 (by decide) ?_
        exact k_X2_lowestFor_27 E a0 a1 a2 a3 a4 a5 a6 r (f_X2_lowestFor_4 fu) ih v1 v3 0 x hf hP _ (lv_sub hl [0, 1, 3] rfl)
      · rw [if_pos hc] at hf
        refine lv_iload_n hx hb dX2_lowestFor_20 rfl (lv_at hl 2 rfl) ?_
        refine lv_iconst (v := 1) hx hb dX2_lowestFor_21 (by decide) ?_
        refine lv_iadd hx hb dX2_lowestFor_22 ?_
        refine lv_goto (tgt := 27) hx hb dX2_lowestFor_23 (by decide) ?_
        exact k_X2_lowestFor_27 E a0 a1 a2 a3 a4 a5 a6 r (f_X2_lowestFor_4 fu) ih v1 v3 (v2 + 1) x hf hP _ (lv_sub hl [0, 1, 3] rfl)
set_option maxRecDepth 100000 in
set_option maxHeartbeats 4000000 in
theorem mt_X2_lowestFor (l : Launch) (D : va_G) (I J O : ClassId) (a0 a1 a2 a3 a4 a5 a6 : Nat) (p0 : Int32) (x : SlC) (r : Int32) (hf : f_X2_lowestFor p0 x = some r) : mR l yX2_lowestFor cX2_lowestFor 4 (some .int) 0 0 D I J O [.ref a0, .int p0] (wSl I a0 a1 a2 a3 a4 a5 a6 x) (qRi r) := by
  refine mR_open (own := RX2) rfl (by decide +kernel) (Nat.le_of_ble_eq_true rfl) (fun p e s m below meth c ls E hP hl => ?_)
  have hx := E.1
  have hb := E.2.1
  have hl : lv_has ls 4 [(0, .ref a0), (1, .int p0)] := hl
  unfold f_X2_lowestFor at hf
  refine lv_iconst (v := 0) hx hb dX2_lowestFor_0 (by decide) ?_
  refine lv_istore_n (lv' := [(2, .int 0), (0, .ref a0), (1, .int p0)]) hx hb dX2_lowestFor_1 rfl hl (by decide) rfl (fun ls hl => ?_)
  refine lv_iconst (v := 0) hx hb dX2_lowestFor_2 (by decide) ?_
  refine lv_istore_n (lv' := [(3, .int 0), (2, .int 0), (0, .ref a0), (1, .int p0)]) hx hb dX2_lowestFor_3 rfl hl (by decide) rfl (fun ls hl => ?_)
  exact k_X2_lowestFor_4 E a0 a1 a2 a3 a4 a5 a6 r FU p0 0 0 x hf hP _ (lv_sub hl [2, 3, 1, 0] rfl)
theorem ok_X2_growTo : yV yX2_growTo cX2_growTo 3 none 1 := ⟨q259, q3, q258, qs5, by decide +kernel, by decide +kernel, by decide +kernel⟩
set_option maxRecDepth 100000 in
set_option maxHeartbeats 4000000 in
theorem k_X2_growTo_2 {p : Program} {l : Launch} {e : Env} {s : State} {m : MethodId} {args : Array Value} {below : List Frame} {meth : Method} {c : Code} {D : va_G} {I J O : ClassId} (E : fx p s m args meth c cX2_growTo RX2 3 none D I J O) (a0 a1 a2 a3 a4 a5 a6 : Nat)  {ws0 : va_W} {sz : Nat} (y0 : SlC) : ∀ fu : Nat, ∀ (v1 : Int32) (v2 : Int32) (x : SlC), f_X2_growTo_2 fu v1 v2 x = some y0 → ∀ (H : Heap) (locs : List Loc), fy D (va_A ws0 sz) s.heap H locs (wSl I a0 a1 a2 a3 a4 a5 a6 x) → ∀ ls : Array Slot, lv_has ls 3 [(0, .ref a0), (1, .int v1), (2, .int v2)] → W p l e (rmB 0 0 0 0) s m args below meth c H locs 0 0 (MQ below (qMv D sz ws0 (fun _ : Unit => wSl I a0 a1 a2 a3 a4 a5 a6 y0)) args s 0 0 (va_A ws0 sz)) (F0 m 2 ls []) := by
  have hx := E.1
  have hb := E.2.1
  intro fu
  induction fu with
  | zero =>
    intro v1 v2 x hf H locs hw ls hl
    rw [f_X2_growTo_2.eq_1] at hf
    cases hf
  | succ fu ih =>
    intro v1 v2 x hf H locs hw ls hl
    rw [f_X2_growTo_2.eq_2] at hf
    refine lv_iload_n hx hb dX2_growTo_2 rfl (lv_at hl 2 rfl) ?_
    refine lv_iconst (v := 2) hx hb dX2_growTo_3 (by decide) ?_
    refine lv_icmp_ge (tgt := 40) hx hb dX2_growTo_4 (by decide) (fun hc => ?_) (fun hc => ?_)
    · rw [if_pos hc] at hf
      have he0 := (Option.some.inj hf)
      subst he0
      exact x_vM E () hw dX2_growTo_40
    · rw [if_neg hc] at hf
      refine lv_aload_n hx hb dX2_growTo_7 rfl (lv_at hl 0 rfl) ?_
      refine x_get E hw.1 0 rfl rfl in2 0 (by decide) q35 rfl rfl dX2_growTo_8 ?_
      refine lv_iload_n hx hb dX2_growTo_11 rfl (lv_at hl 1 rfl) ?_
      refine lv_icmp_ge (tgt := 34) hx hb dX2_growTo_12 (by decide) (fun hc => ?_) (fun hc => ?_)
      · rw [if_pos hc] at hf
        refine lv_iinc (v := v2 + 1) (lv' := [(2, .int (v2 + 1)), (0, .ref a0), (1, .int v1)]) hx hb dX2_growTo_34 hl (k := 2) rfl rfl (by decide) rfl (fun ls hl => ?_)
        refine lv_goto (tgt := 2) hx hb dX2_growTo_37 (by decide) ?_
        exact ih v1 (v2 + 1) x hf _ _ hw _ (lv_sub hl [1, 2, 0] rfl)
      · rw [if_neg hc] at hf
        refine lv_aload_n hx hb dX2_growTo_15 rfl (lv_at hl 0 rfl) ?_
        refine x_get E hw.1 0 rfl rfl in2 0 (by decide) q35 rfl rfl dX2_growTo_16 ?_
        refine lv_bipush (v := 64) hx hb dX2_growTo_19 (by decide) ?_
        refine lv_icmp_ge (tgt := 34) hx hb dX2_growTo_21 (by decide) (fun hc => ?_) (fun hc => ?_)
        · rw [if_pos hc] at hf
          refine lv_iinc (v := v2 + 1) (lv' := [(2, .int (v2 + 1)), (0, .ref a0), (1, .int v1)]) hx hb dX2_growTo_34 hl (k := 2) rfl rfl (by decide) rfl (fun ls hl => ?_)
          refine lv_goto (tgt := 2) hx hb dX2_growTo_37 (by decide) ?_
          exact ih v1 (v2 + 1) x hf _ _ hw _ (lv_sub hl [1, 2, 0] rfl)
        · rw [if_neg hc] at hf
          refine lv_aload_n hx hb dX2_growTo_24 rfl (lv_at hl 0 rfl) ?_
          refine lv_iconst (v := 2) hx hb dX2_growTo_25 (by decide) ?_
          refine lv_aload_n hx hb dX2_growTo_26 rfl (lv_at hl 0 rfl) ?_
          refine x_get E hw.1 0 rfl rfl in2 0 (by decide) q35 rfl rfl dX2_growTo_27 ?_
          refine lv_imul hx hb dX2_growTo_30 ?_
          refine x_put E hw 0 rfl rfl in2 tyX2_ok nmX2 0 (by decide) q35 rfl rfl rfl rfl (Nat.le_of_ble_eq_true rfl) dX2_growTo_31 (fun H locs hw => ?_)
          have hw : fy D (va_A ws0 sz) s.heap H locs (wSl I a0 a1 a2 a3 a4 a5 a6 (2 * x.1, x.2)) := hw
          refine lv_iinc (v := v2 + 1) (lv' := [(2, .int (v2 + 1)), (0, .ref a0), (1, .int v1)]) hx hb dX2_growTo_34 hl (k := 2) rfl rfl (by decide) rfl (fun ls hl => ?_)
          refine lv_goto (tgt := 2) hx hb dX2_growTo_37 (by decide) ?_
          exact ih v1 (v2 + 1) (2 * x.1, x.2) hf _ _ hw _ (lv_sub hl [1, 2, 0] rfl)
set_option maxRecDepth 100000 in
set_option maxHeartbeats 4000000 in
theorem mt_X2_growTo (l : Launch) (D : va_G) (I J O : ClassId) (a0 a1 a2 a3 a4 a5 a6 : Nat) (sz : Nat) (p0 : Int32) (x : SlC) (y0 : SlC) (hf : f_X2_growTo p0 x = some y0) : mM l yX2_growTo cX2_growTo 3 none 0 0 0 0 D I J O sz [.ref a0, .int p0] (wSl I a0 a1 a2 a3 a4 a5 a6 x) (qMv D sz (wSl I a0 a1 a2 a3 a4 a5 a6 x) (fun _ : Unit => wSl I a0 a1 a2 a3 a4 a5 a6 y0)) := by
  refine mM_open (own := RX2) rfl (by decide +kernel) (Nat.le_of_ble_eq_true rfl) (fun p e s m below meth c ls E hnm hsz hw hl => ?_)
  obtain ⟨ws0, hws⟩ : ∃ ws0 : va_W, ws0 = wSl I a0 a1 a2 a3 a4 a5 a6 x := ⟨_, rfl⟩
  have hw : fy D (va_A ws0 sz) s.heap s.heap [] (wSl I a0 a1 a2 a3 a4 a5 a6 x) := by rw [hws]; exact hw
  rw [← hws]
  have hx := E.1
  have hb := E.2.1
  have hl : lv_has ls 3 [(0, .ref a0), (1, .int p0)] := hl
  unfold f_X2_growTo at hf
  refine lv_iconst (v := 0) hx hb dX2_growTo_0 (by decide) ?_
  refine lv_istore_n (lv' := [(2, .int 0), (0, .ref a0), (1, .int p0)]) hx hb dX2_growTo_1 rfl hl (by decide) rfl (fun ls hl => ?_)
  exact k_X2_growTo_2 E a0 a1 a2 a3 a4 a5 a6 y0 FU p0 0 x hf _ _ hw _ (lv_sub hl [1, 2, 0] rfl)
theorem ok_X2_giveCells : yV yX2_giveCells cX2_giveCells 5 none 3 := ⟨q219, q3, q218, qs3, by decide +kernel, by decide +kernel, by decide +kernel⟩
set_option maxRecDepth 100000 in
set_option maxHeartbeats 4000000 in
theorem k_X2_giveCells_3 {p : Program} {l : Launch} {e : Env} {s : State} {m : MethodId} {args : Array Value} {below : List Frame} {meth : Method} {c : Code} {D : va_G} {I J O : ClassId} (E : fx p s m args meth c cX2_giveCells RX2 5 none D I J O) (a0 a1 a2 a3 a4 a5 a6 : Nat)  {ws0 : va_W} {sz : Nat} (y0 : SlC) : ∀ fu : Nat, ∀ (v1 : Int32) (v2 : Int32) (v3 : Int32) (v4 : Int32) (x : SlC), f_X2_giveCells_3 fu v1 v2 v3 v4 x = some y0 → ∀ (H : Heap) (locs : List Loc), fy D (va_A ws0 sz) s.heap H locs (wSl I a0 a1 a2 a3 a4 a5 a6 x) → ∀ ls : Array Slot, lv_has ls 5 [(0, .ref a0), (1, .int v1), (2, .int v2), (3, .int v3), (4, .int v4)] → W p l e (rmB 1 21 0 0) s m args below meth c H locs 0 0 (MQ below (qMv D sz ws0 (fun _ : Unit => wSl I a0 a1 a2 a3 a4 a5 a6 y0)) args s 0 0 (va_A ws0 sz)) (F0 m 3 ls []) := by
  have hx := E.1
  have hb := E.2.1
  intro fu
  induction fu with
  | zero =>
    intro v1 v2 v3 v4 x hf H locs hw ls hl
    rw [f_X2_giveCells_3.eq_1] at hf
    cases hf
  | succ fu ih =>
    intro v1 v2 v3 v4 x hf H locs hw ls hl
    rw [f_X2_giveCells_3.eq_2] at hf
    refine lv_iload hx hb dX2_giveCells_3 (lv_at hl 4 rfl) ?_
    refine lv_iload_n hx hb dX2_giveCells_5 rfl (lv_at hl 1 rfl) ?_
    refine lv_iload_n hx hb dX2_giveCells_6 rfl (lv_at hl 2 rfl) ?_
    refine lv_iadd hx hb dX2_giveCells_7 ?_
    refine lv_icmp_ge (tgt := 34) hx hb dX2_giveCells_8 (by decide) (fun hc => ?_) (fun hc => ?_)
    · rw [if_pos hc] at hf
      have he0 := (Option.some.inj hf)
      subst he0
      exact x_vM E () hw dX2_giveCells_34
    · rw [if_neg hc] at hf
      refine lv_aload_n hx hb dX2_giveCells_11 rfl (lv_at hl 0 rfl) ?_
      refine lv_iload hx hb dX2_giveCells_12 (lv_at hl 4 rfl) ?_
      obtain ⟨z1, h, hf⟩ := bd_s hf
      refine x_ci (x_rV E (As := [.int v4]) (rest := []) (mt_X2_isCell l D I J O a0 a1 a2 a3 a4 a5 a6 v4 x z1 h) blR (x_recv E hw.1 0 2 rfl rfl rfl) (x_pcR E hw.1) ok_X2_isCell q192 rfl hl.1 rfl (Nat.le_of_ble_eq_true rfl) ⟨Nat.le_of_ble_eq_true rfl, Nat.le_of_ble_eq_true rfl⟩ ⟨Nat.le_of_ble_eq_true rfl, Nat.le_of_ble_eq_true rfl⟩ dX2_giveCells_14) ?_
      refine lv_if_eq (tgt := 28) hx hb dX2_giveCells_17 (by decide) (fun hc => ?_) (fun hc => ?_)
      · rw [if_pos hc] at hf
        refine lv_iinc (v := v4 + 1) (lv' := [(4, .int (v4 + 1)), (0, .ref a0), (1, .int v1), (2, .int v2), (3, .int v3)]) hx hb dX2_giveCells_28 hl (k := 4) rfl rfl (by decide) rfl (fun ls hl => ?_)
        refine lv_goto (tgt := 3) hx hb dX2_giveCells_31 (by decide) ?_
        exact ih v1 v2 v3 (v4 + 1) x hf _ _ hw _ (lv_sub hl [1, 2, 3, 4, 0] rfl)
      · rw [if_neg hc] at hf
        refine lv_aload_n hx hb dX2_giveCells_20 rfl (lv_at hl 0 rfl) ?_
        refine x_get E hw.1 0 rfl rfl in2 2 (by decide) q37 rfl rfl dX2_giveCells_21 ?_
        refine lv_iload hx hb dX2_giveCells_24 (lv_at hl 4 rfl) ?_
        refine lv_iload_n hx hb dX2_giveCells_26 rfl (lv_at hl 3 rfl) ?_
        obtain ⟨g, hf⟩ := gi_s hf
        refine x_ast E hw 2 rfl g dX2_giveCells_27 (fun H locs hw => ?_)
        have hw : fy D (va_A ws0 sz) s.heap H locs (wSl I a0 a1 a2 a3 a4 a5 a6 (x.1, x.2.1, (upd x.2.2.1 v4.toNatClampNeg v3), x.2.2.2)) := hw
        refine lv_iinc (v := v4 + 1) (lv' := [(4, .int (v4 + 1)), (0, .ref a0), (1, .int v1), (2, .int v2), (3, .int v3)]) hx hb dX2_giveCells_28 hl (k := 4) rfl rfl (by decide) rfl (fun ls hl => ?_)
        refine lv_goto (tgt := 3) hx hb dX2_giveCells_31 (by decide) ?_
        exact ih v1 v2 v3 (v4 + 1) (x.1, x.2.1, (upd x.2.2.1 v4.toNatClampNeg v3), x.2.2.2) hf _ _ hw _ (lv_sub hl [1, 2, 3, 4, 0] rfl)
set_option maxRecDepth 100000 in
set_option maxHeartbeats 4000000 in
theorem mt_X2_giveCells (l : Launch) (D : va_G) (I J O : ClassId) (a0 a1 a2 a3 a4 a5 a6 : Nat) (sz : Nat) (p0 : Int32) (p1 : Int32) (p2 : Int32) (x : SlC) (y0 : SlC) (hf : f_X2_giveCells p0 p1 p2 x = some y0) : mM l yX2_giveCells cX2_giveCells 5 none 1 21 0 0 D I J O sz [.ref a0, .int p0, .int p1, .int p2] (wSl I a0 a1 a2 a3 a4 a5 a6 x) (qMv D sz (wSl I a0 a1 a2 a3 a4 a5 a6 x) (fun _ : Unit => wSl I a0 a1 a2 a3 a4 a5 a6 y0)) := by
  refine mM_open (own := RX2) rfl (by decide +kernel) (Nat.le_of_ble_eq_true rfl) (fun p e s m below meth c ls E hnm hsz hw hl => ?_)
  obtain ⟨ws0, hws⟩ : ∃ ws0 : va_W, ws0 = wSl I a0 a1 a2 a3 a4 a5 a6 x := ⟨_, rfl⟩
  have hw : fy D (va_A ws0 sz) s.heap s.heap [] (wSl I a0 a1 a2 a3 a4 a5 a6 x) := by rw [hws]; exact hw
  rw [← hws]
  have hx := E.1
  have hb := E.2.1
  have hl : lv_has ls 5 [(0, .ref a0), (1, .int p0), (2, .int p1), (3, .int p2)] := hl
  unfold f_X2_giveCells at hf
  refine lv_iload_n hx hb dX2_giveCells_0 rfl (lv_at hl 1 rfl) ?_
  refine lv_istore (lv' := [(4, .int p0), (0, .ref a0), (1, .int p0), (2, .int p1), (3, .int p2)]) hx hb dX2_giveCells_1 hl (by decide) rfl (fun ls hl => ?_)
  exact k_X2_giveCells_3 E a0 a1 a2 a3 a4 a5 a6 y0 FU p0 p1 p2 p0 x hf _ _ hw _ (lv_sub hl [1, 2, 3, 4, 0] rfl)
theorem ok_X2_occupy : yV yX2_occupy cX2_occupy 5 none 4 := ⟨q255, q3, q253, q254, by decide +kernel, by decide +kernel, by decide +kernel⟩
set_option maxRecDepth 100000 in
set_option maxHeartbeats 4000000 in
theorem mt_X2_occupy (l : Launch) (D : va_G) (I J O : ClassId) (a0 a1 a2 a3 a4 a5 a6 : Nat) (sz : Nat) (p0 : Int32) (p1 : Int32) (p2 : Int32) (p3 : Int32) (x : SlC) (y0 : SlC) (hf : f_X2_occupy p0 p1 p2 p3 x = some y0) : mM l yX2_occupy cX2_occupy 5 none 2 45 0 0 D I J O sz [.ref a0, .int p0, .int p1, .int p2, .int p3] (wSl I a0 a1 a2 a3 a4 a5 a6 x) (qMv D sz (wSl I a0 a1 a2 a3 a4 a5 a6 x) (fun _ : Unit => wSl I a0 a1 a2 a3 a4 a5 a6 y0)) := by
  refine mM_open (own := RX2) rfl (by decide +kernel) (Nat.le_of_ble_eq_true rfl) (fun p e s m below meth c ls E hnm hsz hw hl => ?_)
  obtain ⟨ws0, hws⟩ : ∃ ws0 : va_W, ws0 = wSl I a0 a1 a2 a3 a4 a5 a6 x := ⟨_, rfl⟩
  have hw : fy D (va_A ws0 sz) s.heap s.heap [] (wSl I a0 a1 a2 a3 a4 a5 a6 x) := by rw [hws]; exact hw
  rw [← hws]
  have hx := E.1
  have hb := E.2.1
  have hl : lv_has ls 5 [(0, .ref a0), (1, .int p0), (2, .int p1), (3, .int p2), (4, .int p3)] := hl
  unfold f_X2_occupy at hf
  refine lv_aload_n hx hb dX2_occupy_0 rfl (lv_at hl 0 rfl) ?_
  refine lv_iload_n hx hb dX2_occupy_1 rfl (lv_at hl 1 rfl) ?_
  refine lv_iload_n hx hb dX2_occupy_2 rfl (lv_at hl 3 rfl) ?_
  refine lv_iadd hx hb dX2_occupy_3 ?_
  obtain ⟨z1, h, hf⟩ := bd_s hf
  refine x_mv0 hw [0, 1, 2, 3, 4, 5, 6] rfl rfl (x_rV E (As := [.int (p0 + p2)]) (rest := []) (mt_X2_growTo l D I J O a0 a1 a2 a3 a4 a5 a6 s.heap.size (p0 + p2) x z1 h) blM (x_recv E hw.1 0 2 rfl rfl rfl) (x_pcMQ0 E hw [0, 1, 2, 3, 4, 5, 6] rfl rfl) ok_X2_growTo q256 rfl hl.1 rfl (Nat.le_of_ble_eq_true rfl) ⟨Nat.le_of_ble_eq_true rfl, Nat.le_of_ble_eq_true rfl⟩ ⟨Nat.le_of_ble_eq_true rfl, Nat.le_of_ble_eq_true rfl⟩ dX2_occupy_4) (fun _ => rfl) (fun _ H locs hw => ?_)
  have hw : fy D (va_A ws0 sz) s.heap H locs (wSl I a0 a1 a2 a3 a4 a5 a6 z1) := hw
  refine lv_aload_n hx hb dX2_occupy_7 rfl (lv_at hl 0 rfl) ?_
  refine lv_iload_n hx hb dX2_occupy_8 rfl (lv_at hl 1 rfl) ?_
  obtain ⟨z2, h, hf⟩ := bd_s hf
  refine x_ci (x_rV E (As := [.int p0]) (rest := []) (mt_X2_isCell l D I J O a0 a1 a2 a3 a4 a5 a6 p0 z1 z2 h) blR (x_recv E hw.1 0 2 rfl rfl rfl) (x_pcR E hw.1) ok_X2_isCell q192 rfl hl.1 rfl (Nat.le_of_ble_eq_true rfl) ⟨Nat.le_of_ble_eq_true rfl, Nat.le_of_ble_eq_true rfl⟩ ⟨Nat.le_of_ble_eq_true rfl, Nat.le_of_ble_eq_true rfl⟩ dX2_occupy_9) ?_
  refine lv_if_ne (tgt := 16) hx hb dX2_occupy_12 (by decide) (fun hc => ?_) (fun hc => ?_)
  · rw [if_neg hc] at hf
    refine lv_aload_n hx hb dX2_occupy_16 rfl (lv_at hl 0 rfl) ?_
    refine x_get E hw.1 0 rfl rfl in2 3 (by decide) q38 rfl rfl dX2_occupy_17 ?_
    refine lv_iload_n hx hb dX2_occupy_20 rfl (lv_at hl 1 rfl) ?_
    refine lv_iload_n hx hb dX2_occupy_21 rfl (lv_at hl 3 rfl) ?_
    obtain ⟨g, hf⟩ := gi_s hf
    refine x_ast E hw 3 rfl g dX2_occupy_22 (fun H locs hw => ?_)
    have hw : fy D (va_A ws0 sz) s.heap H locs (wSl I a0 a1 a2 a3 a4 a5 a6 (z1.1, z1.2.1, z1.2.2.1, (upd z1.2.2.2.1 p0.toNatClampNeg p2), z1.2.2.2.2)) := hw
    refine lv_aload_n hx hb dX2_occupy_23 rfl (lv_at hl 0 rfl) ?_
    refine x_get E hw.1 0 rfl rfl in2 4 (by decide) q39 rfl rfl dX2_occupy_24 ?_
    refine lv_iload_n hx hb dX2_occupy_27 rfl (lv_at hl 1 rfl) ?_
    refine lv_iload_n hx hb dX2_occupy_28 rfl (lv_at hl 2 rfl) ?_
    obtain ⟨g, hf⟩ := gi_s hf
    refine x_ast E hw 4 rfl g dX2_occupy_29 (fun H locs hw => ?_)
    have hw : fy D (va_A ws0 sz) s.heap H locs (wSl I a0 a1 a2 a3 a4 a5 a6 (z1.1, z1.2.1, z1.2.2.1, (upd z1.2.2.2.1 p0.toNatClampNeg p2), (upd z1.2.2.2.2.1 p0.toNatClampNeg p1), z1.2.2.2.2.2)) := hw
    refine lv_aload_n hx hb dX2_occupy_30 rfl (lv_at hl 0 rfl) ?_
    refine x_get E hw.1 0 rfl rfl in2 5 (by decide) q40 rfl rfl dX2_occupy_31 ?_
    refine lv_iload_n hx hb dX2_occupy_34 rfl (lv_at hl 1 rfl) ?_
    refine lv_iload hx hb dX2_occupy_35 (lv_at hl 4 rfl) ?_
    obtain ⟨g, hf⟩ := gi_s hf
    refine x_ast E hw 5 rfl g dX2_occupy_37 (fun H locs hw => ?_)
    have hw : fy D (va_A ws0 sz) s.heap H locs (wSl I a0 a1 a2 a3 a4 a5 a6 (z1.1, z1.2.1, z1.2.2.1, (upd z1.2.2.2.1 p0.toNatClampNeg p2), (upd z1.2.2.2.2.1 p0.toNatClampNeg p1), (upd z1.2.2.2.2.2.1 p0.toNatClampNeg p3), z1.2.2.2.2.2.2)) := hw
    refine lv_aload_n hx hb dX2_occupy_38 rfl (lv_at hl 0 rfl) ?_
    refine x_get E hw.1 0 rfl rfl in2 6 (by decide) q41 rfl rfl dX2_occupy_39 ?_
    refine lv_iload_n hx hb dX2_occupy_42 rfl (lv_at hl 1 rfl) ?_
    refine lv_iconst (v := 0) hx hb dX2_occupy_43 (by decide) ?_
    obtain ⟨g, hf⟩ := gi_s hf
    refine x_ast E hw 6 rfl g dX2_occupy_44 (fun H locs hw => ?_)
    have hw : fy D (va_A ws0 sz) s.heap H locs (wSl I a0 a1 a2 a3 a4 a5 a6 (z1.1, z1.2.1, z1.2.2.1, (upd z1.2.2.2.1 p0.toNatClampNeg p2), (upd z1.2.2.2.2.1 p0.toNatClampNeg p1), (upd z1.2.2.2.2.2.1 p0.toNatClampNeg p3), (upd z1.2.2.2.2.2.2 p0.toNatClampNeg 0))) := hw
    refine lv_aload_n hx hb dX2_occupy_45 rfl (lv_at hl 0 rfl) ?_
    refine lv_iload_n hx hb dX2_occupy_46 rfl (lv_at hl 1 rfl) ?_
    refine lv_iload_n hx hb dX2_occupy_47 rfl (lv_at hl 3 rfl) ?_
    refine lv_iload_n hx hb dX2_occupy_48 rfl (lv_at hl 1 rfl) ?_
    obtain ⟨z3, h, hf⟩ := bd_s hf
    refine x_mv0 hw [0, 1, 2, 3, 4, 5, 6] rfl rfl (x_rV E (As := [.int p0, .int p2, .int p0]) (rest := []) (mt_X2_giveCells l D I J O a0 a1 a2 a3 a4 a5 a6 H.size p0 p2 p0 (z1.1, z1.2.1, z1.2.2.1, (upd z1.2.2.2.1 p0.toNatClampNeg p2), (upd z1.2.2.2.2.1 p0.toNatClampNeg p1), (upd z1.2.2.2.2.2.1 p0.toNatClampNeg p3), (upd z1.2.2.2.2.2.2 p0.toNatClampNeg 0)) z3 h) blM (x_recv E hw.1 0 2 rfl rfl rfl) (x_pcMQ0 E hw [0, 1, 2, 3, 4, 5, 6] rfl rfl) ok_X2_giveCells q216 rfl hl.1 rfl (Nat.le_of_ble_eq_true rfl) ⟨Nat.le_of_ble_eq_true rfl, Nat.le_of_ble_eq_true rfl⟩ ⟨Nat.le_of_ble_eq_true rfl, Nat.le_of_ble_eq_true rfl⟩ dX2_occupy_49) (fun _ => rfl) (fun _ H locs hw => ?_)
    have hw : fy D (va_A ws0 sz) s.heap H locs (wSl I a0 a1 a2 a3 a4 a5 a6 z3) := hw
    have he0 := (Option.some.inj hf)
    subst he0
    exact x_vM E () hw dX2_occupy_52
  · rw [if_pos hc] at hf
    have he0 := (Option.some.inj hf)
    subst he0
    exact x_vM E () hw dX2_occupy_15
theorem ok_X2_release : yV yX2_release cX2_release 2 none 1 := ⟨q215, q3, q213, q214, by decide +kernel, by decide +kernel, by decide +kernel⟩
set_option maxRecDepth 100000 in
set_option maxHeartbeats 4000000 in
theorem mt_X2_release (l : Launch) (D : va_G) (I J O : ClassId) (a0 a1 a2 a3 a4 a5 a6 : Nat) (sz : Nat) (p0 : Int32) (x : SlC) (y0 : SlC) (hf : f_X2_release p0 x = some y0) : mM l yX2_release cX2_release 2 none 2 45 0 0 D I J O sz [.ref a0, .int p0] (wSl I a0 a1 a2 a3 a4 a5 a6 x) (qMv D sz (wSl I a0 a1 a2 a3 a4 a5 a6 x) (fun _ : Unit => wSl I a0 a1 a2 a3 a4 a5 a6 y0)) := by
  refine mM_open (own := RX2) rfl (by decide +kernel) (Nat.le_of_ble_eq_true rfl) (fun p e s m below meth c ls E hnm hsz hw hl => ?_)
  obtain ⟨ws0, hws⟩ : ∃ ws0 : va_W, ws0 = wSl I a0 a1 a2 a3 a4 a5 a6 x := ⟨_, rfl⟩
  have hw : fy D (va_A ws0 sz) s.heap s.heap [] (wSl I a0 a1 a2 a3 a4 a5 a6 x) := by rw [hws]; exact hw
  rw [← hws]
  have hx := E.1
  have hb := E.2.1
  have hl : lv_has ls 2 [(0, .ref a0), (1, .int p0)] := hl
  unfold f_X2_release at hf
  refine lv_aload_n hx hb dX2_release_0 rfl (lv_at hl 0 rfl) ?_
  refine lv_iload_n hx hb dX2_release_1 rfl (lv_at hl 1 rfl) ?_
  obtain ⟨z1, h, hf⟩ := bd_s hf
  refine x_ci (x_rV E (As := [.int p0]) (rest := []) (mt_X2_isCell l D I J O a0 a1 a2 a3 a4 a5 a6 p0 x z1 h) blR (x_recv E hw.1 0 2 rfl rfl rfl) (x_pcR E hw.1) ok_X2_isCell q192 rfl hl.1 rfl (Nat.le_of_ble_eq_true rfl) ⟨Nat.le_of_ble_eq_true rfl, Nat.le_of_ble_eq_true rfl⟩ ⟨Nat.le_of_ble_eq_true rfl, Nat.le_of_ble_eq_true rfl⟩ dX2_release_2) ?_
  refine lv_if_ne (tgt := 9) hx hb dX2_release_5 (by decide) (fun hc => ?_) (fun hc => ?_)
  · rw [if_neg hc] at hf
    refine lv_aload_n hx hb dX2_release_9 rfl (lv_at hl 0 rfl) ?_
    refine lv_iload_n hx hb dX2_release_10 rfl (lv_at hl 1 rfl) ?_
    refine lv_aload_n hx hb dX2_release_11 rfl (lv_at hl 0 rfl) ?_
    refine x_get E hw.1 0 rfl rfl in2 3 (by decide) q38 rfl rfl dX2_release_12 ?_
    refine lv_iload_n hx hb dX2_release_15 rfl (lv_at hl 1 rfl) ?_
    obtain ⟨g, hf⟩ := gi_s hf
    refine x_ald E hw.1 3 rfl g dX2_release_16 ?_
    refine lv_iconst (v := (-1)) hx hb dX2_release_17 (by decide) ?_
    obtain ⟨z2, h, hf⟩ := bd_s hf
    refine x_mv0 hw [0, 1, 2, 3, 4, 5, 6] rfl rfl (x_rV E (As := [.int p0, .int (x.2.2.2.1 p0.toNatClampNeg), .int (-1)]) (rest := []) (mt_X2_giveCells l D I J O a0 a1 a2 a3 a4 a5 a6 s.heap.size p0 (x.2.2.2.1 p0.toNatClampNeg) (-1) x z2 h) blM (x_recv E hw.1 0 2 rfl rfl rfl) (x_pcMQ0 E hw [0, 1, 2, 3, 4, 5, 6] rfl rfl) ok_X2_giveCells q216 rfl hl.1 rfl (Nat.le_of_ble_eq_true rfl) ⟨Nat.le_of_ble_eq_true rfl, Nat.le_of_ble_eq_true rfl⟩ ⟨Nat.le_of_ble_eq_true rfl, Nat.le_of_ble_eq_true rfl⟩ dX2_release_18) (fun _ => rfl) (fun _ H locs hw => ?_)
    have hw : fy D (va_A ws0 sz) s.heap H locs (wSl I a0 a1 a2 a3 a4 a5 a6 z2) := hw
    refine lv_aload_n hx hb dX2_release_21 rfl (lv_at hl 0 rfl) ?_
    refine x_get E hw.1 0 rfl rfl in2 3 (by decide) q38 rfl rfl dX2_release_22 ?_
    refine lv_iload_n hx hb dX2_release_25 rfl (lv_at hl 1 rfl) ?_
    refine lv_iconst (v := 0) hx hb dX2_release_26 (by decide) ?_
    obtain ⟨g, hf⟩ := gi_s hf
    refine x_ast E hw 3 rfl g dX2_release_27 (fun H locs hw => ?_)
    have hw : fy D (va_A ws0 sz) s.heap H locs (wSl I a0 a1 a2 a3 a4 a5 a6 (z2.1, z2.2.1, z2.2.2.1, (upd z2.2.2.2.1 p0.toNatClampNeg 0), z2.2.2.2.2)) := hw
    refine lv_aload_n hx hb dX2_release_28 rfl (lv_at hl 0 rfl) ?_
    refine x_get E hw.1 0 rfl rfl in2 1 (by decide) q36 rfl rfl dX2_release_29 ?_
    refine lv_iload_n hx hb dX2_release_32 rfl (lv_at hl 1 rfl) ?_
    refine lv_aload_n hx hb dX2_release_33 rfl (lv_at hl 0 rfl) ?_
    refine x_get E hw.1 0 rfl rfl in2 1 (by decide) q36 rfl rfl dX2_release_34 ?_
    refine lv_iload_n hx hb dX2_release_37 rfl (lv_at hl 1 rfl) ?_
    obtain ⟨g, hf⟩ := gi_s hf
    refine x_ald E hw.1 1 rfl g dX2_release_38 ?_
    refine lv_iconst (v := 1) hx hb dX2_release_39 (by decide) ?_
    refine lv_iadd hx hb dX2_release_40 ?_
    refine lv_sipush (v := 1000) hx hb dX2_release_41 (by decide) ?_
    refine lv_irem hx hb dX2_release_44 (by decide) ?_
    obtain ⟨g, hf⟩ := gi_s hf
    refine x_ast E hw 1 rfl g dX2_release_45 (fun H locs hw => ?_)
    have hw : fy D (va_A ws0 sz) s.heap H locs (wSl I a0 a1 a2 a3 a4 a5 a6 (z2.1, (upd z2.2.1 p0.toNatClampNeg (((z2.2.1 p0.toNatClampNeg) + 1) - ((z2.2.1 p0.toNatClampNeg) + 1) / 1000 * 1000)), z2.2.2.1, (upd z2.2.2.2.1 p0.toNatClampNeg 0), z2.2.2.2.2)) := hw
    have he0 := (Option.some.inj hf)
    subst he0
    exact x_vM E () hw dX2_release_46
  · rw [if_pos hc] at hf
    have he0 := (Option.some.inj hf)
    subst he0
    exact x_vM E () hw dX2_release_8
theorem ok_X2_setTimesFired : yV yX2_setTimesFired cX2_setTimesFired 3 none 2 := ⟨q207, q3, q205, q206, by decide +kernel, by decide +kernel, by decide +kernel⟩
set_option maxRecDepth 100000 in
set_option maxHeartbeats 4000000 in
theorem mt_X2_setTimesFired (l : Launch) (D : va_G) (I J O : ClassId) (a0 a1 a2 a3 a4 a5 a6 : Nat) (sz : Nat) (p0 : Int32) (p1 : Int32) (x : SlC) (y0 : SlC) (hf : f_X2_setTimesFired p0 p1 x = some y0) : mM l yX2_setTimesFired cX2_setTimesFired 3 none 1 21 0 0 D I J O sz [.ref a0, .int p0, .int p1] (wSl I a0 a1 a2 a3 a4 a5 a6 x) (qMv D sz (wSl I a0 a1 a2 a3 a4 a5 a6 x) (fun _ : Unit => wSl I a0 a1 a2 a3 a4 a5 a6 y0)) := by
  refine mM_open (own := RX2) rfl (by decide +kernel) (Nat.le_of_ble_eq_true rfl) (fun p e s m below meth c ls E hnm hsz hw hl => ?_)
  obtain ⟨ws0, hws⟩ : ∃ ws0 : va_W, ws0 = wSl I a0 a1 a2 a3 a4 a5 a6 x := ⟨_, rfl⟩
  have hw : fy D (va_A ws0 sz) s.heap s.heap [] (wSl I a0 a1 a2 a3 a4 a5 a6 x) := by rw [hws]; exact hw
  rw [← hws]
  have hx := E.1
  have hb := E.2.1
  have hl : lv_has ls 3 [(0, .ref a0), (1, .int p0), (2, .int p1)] := hl
  unfold f_X2_setTimesFired at hf
  refine lv_aload_n hx hb dX2_setTimesFired_0 rfl (lv_at hl 0 rfl) ?_
  refine lv_iload_n hx hb dX2_setTimesFired_1 rfl (lv_at hl 1 rfl) ?_
  obtain ⟨z1, h, hf⟩ := bd_s hf
  refine x_ci (x_rV E (As := [.int p0]) (rest := []) (mt_X2_isCell l D I J O a0 a1 a2 a3 a4 a5 a6 p0 x z1 h) blR (x_recv E hw.1 0 2 rfl rfl rfl) (x_pcR E hw.1) ok_X2_isCell q192 rfl hl.1 rfl (Nat.le_of_ble_eq_true rfl) ⟨Nat.le_of_ble_eq_true rfl, Nat.le_of_ble_eq_true rfl⟩ ⟨Nat.le_of_ble_eq_true rfl, Nat.le_of_ble_eq_true rfl⟩ dX2_setTimesFired_2) ?_
  refine lv_if_eq (tgt := 15) hx hb dX2_setTimesFired_5 (by decide) (fun hc => ?_) (fun hc => ?_)
  · rw [if_pos hc] at hf
    have he0 := (Option.some.inj hf)
    subst he0
    exact x_vM E () hw dX2_setTimesFired_15
  · rw [if_neg hc] at hf
    refine lv_aload_n hx hb dX2_setTimesFired_8 rfl (lv_at hl 0 rfl) ?_
    refine x_get E hw.1 0 rfl rfl in2 6 (by decide) q41 rfl rfl dX2_setTimesFired_9 ?_
    refine lv_iload_n hx hb dX2_setTimesFired_12 rfl (lv_at hl 1 rfl) ?_
    refine lv_iload_n hx hb dX2_setTimesFired_13 rfl (lv_at hl 2 rfl) ?_
    obtain ⟨g, hf⟩ := gi_s hf
    refine x_ast E hw 6 rfl g dX2_setTimesFired_14 (fun H locs hw => ?_)
    have hw : fy D (va_A ws0 sz) s.heap H locs (wSl I a0 a1 a2 a3 a4 a5 a6 (x.1, x.2.1, x.2.2.1, x.2.2.2.1, x.2.2.2.2.1, x.2.2.2.2.2.1, (upd x.2.2.2.2.2.2 p0.toNatClampNeg p1))) := hw
    have he0 := (Option.some.inj hf)
    subst he0
    exact x_vM E () hw dX2_setTimesFired_15
theorem ok_X2_carry : yV yX2_carry cX2_carry 7 none 2 := ⟨q279, q3, q277, q278, by decide +kernel, by decide +kernel, by decide +kernel⟩
set_option maxRecDepth 100000 in
set_option maxHeartbeats 4000000 in
theorem mt_X2_carry (l : Launch) (D : va_G) (I J O : ClassId) (a0 a1 a2 a3 a4 a5 a6 : Nat) (sz : Nat) (p0 : Int32) (p1 : Int32) (x : SlC) (y0 : SlC) (hf : f_X2_carry p0 p1 x = some y0) : mM l yX2_carry cX2_carry 7 none 3 69 0 0 D I J O sz [.ref a0, .int p0, .int p1] (wSl I a0 a1 a2 a3 a4 a5 a6 x) (qMv D sz (wSl I a0 a1 a2 a3 a4 a5 a6 x) (fun _ : Unit => wSl I a0 a1 a2 a3 a4 a5 a6 y0)) := by
  refine mM_open (own := RX2) rfl (by decide +kernel) (Nat.le_of_ble_eq_true rfl) (fun p e s m below meth c ls E hnm hsz hw hl => ?_)
  obtain ⟨ws0, hws⟩ : ∃ ws0 : va_W, ws0 = wSl I a0 a1 a2 a3 a4 a5 a6 x := ⟨_, rfl⟩
  have hw : fy D (va_A ws0 sz) s.heap s.heap [] (wSl I a0 a1 a2 a3 a4 a5 a6 x) := by rw [hws]; exact hw
  rw [← hws]
  have hx := E.1
  have hb := E.2.1
  have hl : lv_has ls 7 [(0, .ref a0), (1, .int p0), (2, .int p1)] := hl
  unfold f_X2_carry at hf
  refine lv_aload_n hx hb dX2_carry_0 rfl (lv_at hl 0 rfl) ?_
  refine lv_iload_n hx hb dX2_carry_1 rfl (lv_at hl 1 rfl) ?_
  obtain ⟨z1, h, hf⟩ := bd_s hf
  refine x_ci (x_rV E (As := [.int p0]) (rest := []) (mt_X2_valueAt l D I J O a0 a1 a2 a3 a4 a5 a6 p0 x z1 h) blR (x_recv E hw.1 0 2 rfl rfl rfl) (x_pcR E hw.1) ok_X2_valueAt q280 rfl hl.1 rfl (Nat.le_of_ble_eq_true rfl) ⟨Nat.le_of_ble_eq_true rfl, Nat.le_of_ble_eq_true rfl⟩ ⟨Nat.le_of_ble_eq_true rfl, Nat.le_of_ble_eq_true rfl⟩ dX2_carry_2) ?_
  refine lv_istore_n (lv' := [(3, .int z1), (0, .ref a0), (1, .int p0), (2, .int p1)]) hx hb dX2_carry_5 rfl hl (by decide) rfl (fun ls hl => ?_)
  refine lv_aload_n hx hb dX2_carry_6 rfl (lv_at hl 1 rfl) ?_
  refine lv_iload_n hx hb dX2_carry_7 rfl (lv_at hl 2 rfl) ?_
  obtain ⟨z2, h, hf⟩ := bd_s hf
  refine x_ci (x_rV E (As := [.int p0]) (rest := []) (mt_X2_sizeAt l D I J O a0 a1 a2 a3 a4 a5 a6 p0 x z2 h) blR (x_recv E hw.1 0 2 rfl rfl rfl) (x_pcR E hw.1) ok_X2_sizeAt q281 rfl hl.1 rfl (Nat.le_of_ble_eq_true rfl) ⟨Nat.le_of_ble_eq_true rfl, Nat.le_of_ble_eq_true rfl⟩ ⟨Nat.le_of_ble_eq_true rfl, Nat.le_of_ble_eq_true rfl⟩ dX2_carry_8) ?_
  refine lv_istore (lv' := [(4, .int z2), (3, .int z1), (0, .ref a0), (1, .int p0), (2, .int p1)]) hx hb dX2_carry_11 hl (by decide) rfl (fun ls hl => ?_)
  refine lv_aload_n hx hb dX2_carry_13 rfl (lv_at hl 2 rfl) ?_
  refine lv_iload_n hx hb dX2_carry_14 rfl (lv_at hl 3 rfl) ?_
  obtain ⟨z3, h, hf⟩ := bd_s hf
  refine x_ci (x_rV E (As := [.int p0]) (rest := []) (mt_X2_kindAt l D I J O a0 a1 a2 a3 a4 a5 a6 p0 x z3 h) blR (x_recv E hw.1 0 2 rfl rfl rfl) (x_pcR E hw.1) ok_X2_kindAt q282 rfl hl.1 rfl (Nat.le_of_ble_eq_true rfl) ⟨Nat.le_of_ble_eq_true rfl, Nat.le_of_ble_eq_true rfl⟩ ⟨Nat.le_of_ble_eq_true rfl, Nat.le_of_ble_eq_true rfl⟩ dX2_carry_15) ?_
  refine lv_istore (lv' := [(5, .int z3), (4, .int z2), (3, .int z1), (0, .ref a0), (1, .int p0), (2, .int p1)]) hx hb dX2_carry_18 hl (by decide) rfl (fun ls hl => ?_)
  refine lv_aload_n hx hb dX2_carry_20 rfl (lv_at hl 3 rfl) ?_
  refine lv_iload_n hx hb dX2_carry_21 rfl (lv_at hl 4 rfl) ?_
  obtain ⟨z4, h, hf⟩ := bd_s hf
  refine x_ci (x_rV E (As := [.int p0]) (rest := []) (mt_X2_timesFired l D I J O a0 a1 a2 a3 a4 a5 a6 p0 x z4 h) blR (x_recv E hw.1 0 2 rfl rfl rfl) (x_pcR E hw.1) ok_X2_timesFired q283 rfl hl.1 rfl (Nat.le_of_ble_eq_true rfl) ⟨Nat.le_of_ble_eq_true rfl, Nat.le_of_ble_eq_true rfl⟩ ⟨Nat.le_of_ble_eq_true rfl, Nat.le_of_ble_eq_true rfl⟩ dX2_carry_22) ?_
  refine lv_istore (lv' := [(6, .int z4), (5, .int z3), (4, .int z2), (3, .int z1), (0, .ref a0), (1, .int p0), (2, .int p1)]) hx hb dX2_carry_25 hl (by decide) rfl (fun ls hl => ?_)
  refine lv_aload_n hx hb dX2_carry_27 rfl (lv_at hl 4 rfl) ?_
  refine lv_iload_n hx hb dX2_carry_28 rfl (lv_at hl 5 rfl) ?_
  obtain ⟨z5, h, hf⟩ := bd_s hf
  refine x_mv0 hw [0, 1, 2, 3, 4, 5, 6] rfl rfl (x_rV E (As := [.int p0]) (rest := []) (mt_X2_release l D I J O a0 a1 a2 a3 a4 a5 a6 s.heap.size p0 x z5 h) blM (x_recv E hw.1 0 2 rfl rfl rfl) (x_pcMQ0 E hw [0, 1, 2, 3, 4, 5, 6] rfl rfl) ok_X2_release q284 rfl hl.1 rfl (Nat.le_of_ble_eq_true rfl) ⟨Nat.le_of_ble_eq_true rfl, Nat.le_of_ble_eq_true rfl⟩ ⟨Nat.le_of_ble_eq_true rfl, Nat.le_of_ble_eq_true rfl⟩ dX2_carry_29) (fun _ => rfl) (fun _ H locs hw => ?_)
  have hw : fy D (va_A ws0 sz) s.heap H locs (wSl I a0 a1 a2 a3 a4 a5 a6 z5) := hw
  refine lv_aload_n hx hb dX2_carry_32 rfl (lv_at hl 4 rfl) ?_
  refine lv_iload_n hx hb dX2_carry_33 rfl (lv_at hl 6 rfl) ?_
  refine lv_iload_n hx hb dX2_carry_34 rfl (lv_at hl 3 rfl) ?_
  refine lv_iload hx hb dX2_carry_35 (lv_at hl 2 rfl) ?_
  refine lv_iload hx hb dX2_carry_37 (lv_at hl 1 rfl) ?_
  obtain ⟨z6, h, hf⟩ := bd_s hf
  refine x_mv0 hw [0, 1, 2, 3, 4, 5, 6] rfl rfl (x_rV E (As := [.int p1, .int z1, .int z2, .int z3]) (rest := []) (mt_X2_occupy l D I J O a0 a1 a2 a3 a4 a5 a6 H.size p1 z1 z2 z3 z5 z6 h) blM (x_recv E hw.1 0 2 rfl rfl rfl) (x_pcMQ0 E hw [0, 1, 2, 3, 4, 5, 6] rfl rfl) ok_X2_occupy q285 rfl hl.1 rfl (Nat.le_of_ble_eq_true rfl) ⟨Nat.le_of_ble_eq_true rfl, Nat.le_of_ble_eq_true rfl⟩ ⟨Nat.le_of_ble_eq_true rfl, Nat.le_of_ble_eq_true rfl⟩ dX2_carry_39) (fun _ => rfl) (fun _ H locs hw => ?_)
  have hw : fy D (va_A ws0 sz) s.heap H locs (wSl I a0 a1 a2 a3 a4 a5 a6 z6) := hw
  refine lv_aload_n hx hb dX2_carry_42 rfl (lv_at hl 4 rfl) ?_
  refine lv_iload_n hx hb dX2_carry_43 rfl (lv_at hl 6 rfl) ?_
  refine lv_iload hx hb dX2_carry_44 (lv_at hl 0 rfl) ?_
  obtain ⟨z7, h, hf⟩ := bd_s hf
  refine x_mv0 hw [0, 1, 2, 3, 4, 5, 6] rfl rfl (x_rV E (As := [.int p1, .int z4]) (rest := []) (mt_X2_setTimesFired l D I J O a0 a1 a2 a3 a4 a5 a6 H.size p1 z4 z6 z7 h) blM (x_recv E hw.1 0 2 rfl rfl rfl) (x_pcMQ0 E hw [0, 1, 2, 3, 4, 5, 6] rfl rfl) ok_X2_setTimesFired q286 rfl hl.1 rfl (Nat.le_of_ble_eq_true rfl) ⟨Nat.le_of_ble_eq_true rfl, Nat.le_of_ble_eq_true rfl⟩ ⟨Nat.le_of_ble_eq_true rfl, Nat.le_of_ble_eq_true rfl⟩ dX2_carry_46) (fun _ => rfl) (fun _ H locs hw => ?_)
  have hw : fy D (va_A ws0 sz) s.heap H locs (wSl I a0 a1 a2 a3 a4 a5 a6 z7) := hw
  have he0 := (Option.some.inj hf)
  subst he0
  exact x_vM E () hw dX2_carry_49
theorem ok_X2_setValue : yV yX2_setValue cX2_setValue 3 none 2 := ⟨q512, q3, q510, q511, by decide +kernel, by decide +kernel, by decide +kernel⟩
set_option maxRecDepth 100000 in
set_option maxHeartbeats 4000000 in
theorem mt_X2_setValue (l : Launch) (D : va_G) (I J O : ClassId) (a0 a1 a2 a3 a4 a5 a6 : Nat) (sz : Nat) (p0 : Int32) (p1 : Int32) (x : SlC) (y0 : SlC) (hf : f_X2_setValue p0 p1 x = some y0) : mM l yX2_setValue cX2_setValue 3 none 1 21 0 0 D I J O sz [.ref a0, .int p0, .int p1] (wSl I a0 a1 a2 a3 a4 a5 a6 x) (qMv D sz (wSl I a0 a1 a2 a3 a4 a5 a6 x) (fun _ : Unit => wSl I a0 a1 a2 a3 a4 a5 a6 y0)) := by
  refine mM_open (own := RX2) rfl (by decide +kernel) (Nat.le_of_ble_eq_true rfl) (fun p e s m below meth c ls E hnm hsz hw hl => ?_)
  obtain ⟨ws0, hws⟩ : ∃ ws0 : va_W, ws0 = wSl I a0 a1 a2 a3 a4 a5 a6 x := ⟨_, rfl⟩
  have hw : fy D (va_A ws0 sz) s.heap s.heap [] (wSl I a0 a1 a2 a3 a4 a5 a6 x) := by rw [hws]; exact hw
  rw [← hws]
  have hx := E.1
  have hb := E.2.1
  have hl : lv_has ls 3 [(0, .ref a0), (1, .int p0), (2, .int p1)] := hl
  unfold f_X2_setValue at hf
  refine lv_aload_n hx hb dX2_setValue_0 rfl (lv_at hl 0 rfl) ?_
  refine lv_iload_n hx hb dX2_setValue_1 rfl (lv_at hl 1 rfl) ?_
  obtain ⟨z1, h, hf⟩ := bd_s hf
  refine x_ci (x_rV E (As := [.int p0]) (rest := []) (mt_X2_isCell l D I J O a0 a1 a2 a3 a4 a5 a6 p0 x z1 h) blR (x_recv E hw.1 0 2 rfl rfl rfl) (x_pcR E hw.1) ok_X2_isCell q192 rfl hl.1 rfl (Nat.le_of_ble_eq_true rfl) ⟨Nat.le_of_ble_eq_true rfl, Nat.le_of_ble_eq_true rfl⟩ ⟨Nat.le_of_ble_eq_true rfl, Nat.le_of_ble_eq_true rfl⟩ dX2_setValue_2) ?_
  refine lv_if_eq (tgt := 15) hx hb dX2_setValue_5 (by decide) (fun hc => ?_) (fun hc => ?_)
  · rw [if_pos hc] at hf
    have he0 := (Option.some.inj hf)
    subst he0
    exact x_vM E () hw dX2_setValue_15
  · rw [if_neg hc] at hf
    refine lv_aload_n hx hb dX2_setValue_8 rfl (lv_at hl 0 rfl) ?_
    refine x_get E hw.1 0 rfl rfl in2 4 (by decide) q39 rfl rfl dX2_setValue_9 ?_
    refine lv_iload_n hx hb dX2_setValue_12 rfl (lv_at hl 1 rfl) ?_
    refine lv_iload_n hx hb dX2_setValue_13 rfl (lv_at hl 2 rfl) ?_
    obtain ⟨g, hf⟩ := gi_s hf
    refine x_ast E hw 4 rfl g dX2_setValue_14 (fun H locs hw => ?_)
    have hw : fy D (va_A ws0 sz) s.heap H locs (wSl I a0 a1 a2 a3 a4 a5 a6 (x.1, x.2.1, x.2.2.1, x.2.2.2.1, (upd x.2.2.2.2.1 p0.toNatClampNeg p1), x.2.2.2.2.2)) := hw
    have he0 := (Option.some.inj hf)
    subst he0
    exact x_vM E () hw dX2_setValue_15
theorem ok_X2_roomFor : yV yX2_roomFor cX2_roomFor 5 (some .int) 1 := ⟨q427, q3, q425, q426, by decide +kernel, by decide +kernel, by decide +kernel⟩
set_option maxRecDepth 100000 in
set_option maxHeartbeats 4000000 in
theorem k_X2_roomFor_33 {p : Program} {l : Launch} {e : Env} {s : State} {m : MethodId} {args : Array Value} {below : List Frame} {meth : Method} {c : Code} {D : va_G} {I J O : ClassId} (E : fx p s m args meth c cX2_roomFor RX2 5 (some .int) D I J O) (a0 a1 a2 a3 a4 a5 a6 : Nat)  (r : Int32) (k7 : Int32 → Int32 → Int32 → Int32 → SlC → Option (Int32)) (hk7 : ∀ (v1 : Int32) (v2 : Int32) (v3 : Int32) (v4 : Int32) (x : SlC), k7 v1 v2 v3 v4 x = some r → va_P D vwCl (wSl I a0 a1 a2 a3 a4 a5 a6 x) s.heap → ∀ ls : Array Slot, lv_has ls 5 [(0, .ref a0), (1, .int v1), (2, .int v2), (3, .int v3), (4, .int v4)] → W p l e (rmB 2 42 0 0) s m args below meth c s.heap [] 0 0 (MQ below (qRi r) args s 0 0 (fun _ => False)) (F0 m 7 ls [])) : ∀ (v1 : Int32) (v2 : Int32) (v4 : Int32) (t0 : Int32) (x : SlC), f_X2_roomFor_33 k7 v1 v2 v4 t0 x = some r → va_P D vwCl (wSl I a0 a1 a2 a3 a4 a5 a6 x) s.heap → ∀ ls : Array Slot, lv_has ls 5 [(0, .ref a0), (1, .int v1), (2, .int v2), (4, .int v4)] → W p l e (rmB 2 42 0 0) s m args below meth c s.heap [] 0 0 (MQ below (qRi r) args s 0 0 (fun _ => False)) (F0 m 33 ls [.int t0]) := by
  have hx := E.1
  have hb := E.2.1
  intro v1 v2 v4 t0 x hf hP ls hl
  unfold f_X2_roomFor_33 at hf
  refine lv_istore_n (lv' := [(3, .int t0), (0, .ref a0), (1, .int v1), (2, .int v2), (4, .int v4)]) hx hb dX2_roomFor_33 rfl hl (by decide) rfl (fun ls hl => ?_)
  refine lv_iload_n hx hb dX2_roomFor_34 rfl (lv_at hl 0 rfl) ?_
  refine lv_iload_n hx hb dX2_roomFor_35 rfl (lv_at hl 2 rfl) ?_
  refine lv_icmp_ne (tgt := 44) hx hb dX2_roomFor_36 (by decide) (fun hc => ?_) (fun hc => ?_)
  · rw [if_neg hc] at hf
    refine lv_iinc (v := v4 + 1) (lv' := [(4, .int (v4 + 1)), (3, .int t0), (0, .ref a0), (1, .int v1), (2, .int v2)]) hx hb dX2_roomFor_44 hl (k := 4) rfl rfl (by decide) rfl (fun ls hl => ?_)
    refine lv_goto (tgt := 7) hx hb dX2_roomFor_47 (by decide) ?_
    exact hk7 v1 v2 t0 (v4 + 1) x hf hP _ (lv_sub hl [2, 3, 4, 1, 0] rfl)
  · rw [if_pos hc] at hf
    refine lv_iinc (v := v2 + 1) (lv' := [(2, .int (v2 + 1)), (3, .int t0), (0, .ref a0), (1, .int v1), (4, .int v4)]) hx hb dX2_roomFor_39 hl (k := 3) rfl rfl (by decide) rfl (fun ls hl => ?_)
    refine lv_iconst (v := 0) hx hb dX2_roomFor_42 (by decide) ?_
    refine lv_istore_n (lv' := [(3, .int 0), (2, .int (v2 + 1)), (0, .ref a0), (1, .int v1), (4, .int v4)]) hx hb dX2_roomFor_43 rfl hl (by decide) rfl (fun ls hl => ?_)
    refine lv_iinc (v := v4 + 1) (lv' := [(4, .int (v4 + 1)), (3, .int 0), (2, .int (v2 + 1)), (0, .ref a0), (1, .int v1)]) hx hb dX2_roomFor_44 hl (k := 4) rfl rfl (by decide) rfl (fun ls hl => ?_)
    refine lv_goto (tgt := 7) hx hb dX2_roomFor_47 (by decide) ?_
    exact hk7 v1 (v2 + 1) 0 (v4 + 1) x hf hP _ (lv_sub hl [3, 4, 2, 1, 0] rfl)
set_option maxRecDepth 100000 in
set_option maxHeartbeats 4000000 in
theorem k_X2_roomFor_7 {p : Program} {l : Launch} {e : Env} {s : State} {m : MethodId} {args : Array Value} {below : List Frame} {meth : Method} {c : Code} {D : va_G} {I J O : ClassId} (E : fx p s m args meth c cX2_roomFor RX2 5 (some .int) D I J O) (a0 a1 a2 a3 a4 a5 a6 : Nat)  (r : Int32) : ∀ fu : Nat, ∀ (v1 : Int32) (v2 : Int32) (v3 : Int32) (v4 : Int32) (x : SlC), f_X2_roomFor_7 fu v1 v2 v3 v4 x = some r → va_P D vwCl (wSl I a0 a1 a2 a3 a4 a5 a6 x) s.heap → ∀ ls : Array Slot, lv_has ls 5 [(0, .ref a0), (1, .int v1), (2, .int v2), (3, .int v3), (4, .int v4)] → W p l e (rmB 2 42 0 0) s m args below meth c s.heap [] 0 0 (MQ below (qRi r) args s 0 0 (fun _ => False)) (F0 m 7 ls []) := by
  have hx := E.1
  have hb := E.2.1
  intro fu
  induction fu with
  | zero =>
    intro v1 v2 v3 v4 x hf hP ls hl
    rw [f_X2_roomFor_7.eq_1] at hf
    cases hf
  | succ fu ih =>
    intro v1 v2 v3 v4 x hf hP ls hl
    rw [f_X2_roomFor_7.eq_2] at hf
    refine lv_iload hx hb dX2_roomFor_7 (lv_at hl 4 rfl) ?_
    refine lv_aload_n hx hb dX2_roomFor_9 rfl (lv_at hl 0 rfl) ?_
    refine x_get E hP 0 rfl rfl in2 0 (by decide) q35 rfl rfl dX2_roomFor_10 ?_
    refine lv_icmp_ge (tgt := 50) hx hb dX2_roomFor_13 (by decide) (fun hc => ?_) (fun hc => ?_)
    · rw [if_pos hc] at hf
      refine lv_iload_n hx hb dX2_roomFor_50 rfl (lv_at hl 2 rfl) ?_
      exact x_iR E (Option.some.inj hf) dX2_roomFor_51
    · rw [if_neg hc] at hf
      refine lv_aload_n hx hb dX2_roomFor_16 rfl (lv_at hl 0 rfl) ?_
      refine lv_iload hx hb dX2_roomFor_17 (lv_at hl 4 rfl) ?_
      obtain ⟨z1, h, hf⟩ := bd_s hf
      refine x_ci (x_rV E (As := [.int v4]) (rest := []) (mt_X2_ownerOf l D I J O a0 a1 a2 a3 a4 a5 a6 v4 x z1 h) blR (x_recv E hP 0 2 rfl rfl rfl) (x_pcR E hP) ok_X2_ownerOf q428 rfl hl.1 rfl (Nat.le_of_ble_eq_true rfl) ⟨Nat.le_of_ble_eq_true rfl, Nat.le_of_ble_eq_true rfl⟩ ⟨Nat.le_of_ble_eq_true rfl, Nat.le_of_ble_eq_true rfl⟩ dX2_roomFor_19) ?_
      refine lv_iconst (v := (-1)) hx hb dX2_roomFor_22 (by decide) ?_
      refine lv_icmp_ne (tgt := 32) hx hb dX2_roomFor_23 (by decide) (fun hc => ?_) (fun hc => ?_)
      · rw [if_neg hc] at hf
        refine lv_iconst (v := 0) hx hb dX2_roomFor_32 (by decide) ?_
        exact k_X2_roomFor_33 E a0 a1 a2 a3 a4 a5 a6 r (f_X2_roomFor_7 fu) ih v1 v2 v4 0 x hf hP _ (lv_sub hl [0, 1, 2, 4] rfl)
      · rw [if_pos hc] at hf
        refine lv_iload_n hx hb dX2_roomFor_26 rfl (lv_at hl 3 rfl) ?_
        refine lv_iconst (v := 1) hx hb dX2_roomFor_27 (by decide) ?_
        refine lv_iadd hx hb dX2_roomFor_28 ?_
        refine lv_goto (tgt := 33) hx hb dX2_roomFor_29 (by decide) ?_
        exact k_X2_roomFor_33 E a0 a1 a2 a3 a4 a5 a6 r (f_X2_roomFor_7 fu) ih v1 v2 v4 (v3 + 1) x hf hP _ (lv_sub hl [0, 1, 2, 4] rfl)
set_option maxRecDepth 100000 in
set_option maxHeartbeats 4000000 in
theorem mt_X2_roomFor (l : Launch) (D : va_G) (I J O : ClassId) (a0 a1 a2 a3 a4 a5 a6 : Nat) (p0 : Int32) (x : SlC) (r : Int32) (hf : f_X2_roomFor p0 x = some r) : mR l yX2_roomFor cX2_roomFor 5 (some .int) 2 42 D I J O [.ref a0, .int p0] (wSl I a0 a1 a2 a3 a4 a5 a6 x) (qRi r) := by
  refine mR_open (own := RX2) rfl (by decide +kernel) (Nat.le_of_ble_eq_true rfl) (fun p e s m below meth c ls E hP hl => ?_)
  have hx := E.1
  have hb := E.2.1
  have hl : lv_has ls 5 [(0, .ref a0), (1, .int p0)] := hl
  unfold f_X2_roomFor at hf
  refine lv_iconst (v := 0) hx hb dX2_roomFor_0 (by decide) ?_
  refine lv_istore_n (lv' := [(2, .int 0), (0, .ref a0), (1, .int p0)]) hx hb dX2_roomFor_1 rfl hl (by decide) rfl (fun ls hl => ?_)
  refine lv_iconst (v := 0) hx hb dX2_roomFor_2 (by decide) ?_
  refine lv_istore_n (lv' := [(3, .int 0), (2, .int 0), (0, .ref a0), (1, .int p0)]) hx hb dX2_roomFor_3 rfl hl (by decide) rfl (fun ls hl => ?_)
  refine lv_iconst (v := 0) hx hb dX2_roomFor_4 (by decide) ?_
  refine lv_istore (lv' := [(4, .int 0), (3, .int 0), (2, .int 0), (0, .ref a0), (1, .int p0)]) hx hb dX2_roomFor_5 hl (by decide) rfl (fun ls hl => ?_)
  exact k_X2_roomFor_7 E a0 a1 a2 a3 a4 a5 a6 r FU p0 0 0 0 x hf hP _ (lv_sub hl [3, 4, 2, 1, 0] rfl)
theorem ok_X2_freeCells : yV yX2_freeCells cX2_freeCells 1 (some .int) 0 := ⟨q423, q3, q421, q422, by decide +kernel, by decide +kernel, by decide +kernel⟩
set_option maxRecDepth 100000 in
set_option maxHeartbeats 4000000 in
theorem mt_X2_freeCells (l : Launch) (D : va_G) (I J O : ClassId) (a0 a1 a2 a3 a4 a5 a6 : Nat)  (x : SlC) (r : Int32) (hf : f_X2_freeCells x = some r) : mR l yX2_freeCells cX2_freeCells 1 (some .int) 3 66 D I J O [.ref a0] (wSl I a0 a1 a2 a3 a4 a5 a6 x) (qRi r) := by
  refine mR_open (own := RX2) rfl (by decide +kernel) (Nat.le_of_ble_eq_true rfl) (fun p e s m below meth c ls E hP hl => ?_)
  have hx := E.1
  have hb := E.2.1
  have hl : lv_has ls 1 [(0, .ref a0)] := hl
  unfold f_X2_freeCells at hf
  refine lv_aload_n hx hb dX2_freeCells_0 rfl (lv_at hl 0 rfl) ?_
  refine lv_iconst (v := 1) hx hb dX2_freeCells_1 (by decide) ?_
  obtain ⟨z1, h, hf⟩ := bd_s hf
  refine x_ci (x_rV E (As := [.int 1]) (rest := []) (mt_X2_roomFor l D I J O a0 a1 a2 a3 a4 a5 a6 1 x z1 h) blR (x_recv E hP 0 2 rfl rfl rfl) (x_pcR E hP) ok_X2_roomFor q424 rfl hl.1 rfl (Nat.le_of_ble_eq_true rfl) ⟨Nat.le_of_ble_eq_true rfl, Nat.le_of_ble_eq_true rfl⟩ ⟨Nat.le_of_ble_eq_true rfl, Nat.le_of_ble_eq_true rfl⟩ dX2_freeCells_2) ?_
  exact x_iR E (Option.some.inj hf) dX2_freeCells_5
theorem ok_X2_sumOfValues : yV yX2_sumOfValues cX2_sumOfValues 3 (some .int) 0 := ⟨q435, q3, q433, q434, by decide +kernel, by decide +kernel, by decide +kernel⟩
set_option maxRecDepth 100000 in
set_option maxHeartbeats 4000000 in
theorem k_X2_sumOfValues_4 {p : Program} {l : Launch} {e : Env} {s : State} {m : MethodId} {args : Array Value} {below : List Frame} {meth : Method} {c : Code} {D : va_G} {I J O : ClassId} (E : fx p s m args meth c cX2_sumOfValues RX2 3 (some .int) D I J O) (a0 a1 a2 a3 a4 a5 a6 : Nat)  (r : Int32) : ∀ fu : Nat, ∀ (v1 : Int32) (v2 : Int32) (x : SlC), f_X2_sumOfValues_4 fu v1 v2 x = some r → va_P D vwCl (wSl I a0 a1 a2 a3 a4 a5 a6 x) s.heap → ∀ ls : Array Slot, lv_has ls 3 [(0, .ref a0), (1, .int v1), (2, .int v2)] → W p l e (rmB 2 42 0 0) s m args below meth c s.heap [] 0 0 (MQ below (qRi r) args s 0 0 (fun _ => False)) (F0 m 4 ls []) := by
  have hx := E.1
  have hb := E.2.1
  intro fu
  induction fu with
  | zero =>
    intro v1 v2 x hf hP ls hl
    rw [f_X2_sumOfValues_4.eq_1] at hf
    cases hf
  | succ fu ih =>
    intro v1 v2 x hf hP ls hl
    rw [f_X2_sumOfValues_4.eq_2] at hf
    refine lv_iload_n hx hb dX2_sumOfValues_4 rfl (lv_at hl 2 rfl) ?_
    refine lv_aload_n hx hb dX2_sumOfValues_5 rfl (lv_at hl 0 rfl) ?_
    refine x_get E hP 0 rfl rfl in2 0 (by decide) q35 rfl rfl dX2_sumOfValues_6 ?_
    refine lv_icmp_ge (tgt := 34) hx hb dX2_sumOfValues_9 (by decide) (fun hc => ?_) (fun hc => ?_)
    · rw [if_pos hc] at hf
      refine lv_iload_n hx hb dX2_sumOfValues_34 rfl (lv_at hl 1 rfl) ?_
      exact x_iR E (Option.some.inj hf) dX2_sumOfValues_35
    · rw [if_neg hc] at hf
      refine lv_aload_n hx hb dX2_sumOfValues_12 rfl (lv_at hl 0 rfl) ?_
      refine lv_iload_n hx hb dX2_sumOfValues_13 rfl (lv_at hl 2 rfl) ?_
      obtain ⟨z1, h, hf⟩ := bd_s hf
      refine x_ci (x_rV E (As := [.int v2]) (rest := []) (mt_X2_sizeAt l D I J O a0 a1 a2 a3 a4 a5 a6 v2 x z1 h) blR (x_recv E hP 0 2 rfl rfl rfl) (x_pcR E hP) ok_X2_sizeAt q281 rfl hl.1 rfl (Nat.le_of_ble_eq_true rfl) ⟨Nat.le_of_ble_eq_true rfl, Nat.le_of_ble_eq_true rfl⟩ ⟨Nat.le_of_ble_eq_true rfl, Nat.le_of_ble_eq_true rfl⟩ dX2_sumOfValues_14) ?_
      refine lv_if_le (tgt := 28) hx hb dX2_sumOfValues_17 (by decide) (fun hc => ?_) (fun hc => ?_)
      · rw [if_pos hc] at hf
        refine lv_iinc (v := v2 + 1) (lv' := [(2, .int (v2 + 1)), (0, .ref a0), (1, .int v1)]) hx hb dX2_sumOfValues_28 hl (k := 2) rfl rfl (by decide) rfl (fun ls hl => ?_)
        refine lv_goto (tgt := 4) hx hb dX2_sumOfValues_31 (by decide) ?_
        exact ih v1 (v2 + 1) x hf hP _ (lv_sub hl [1, 2, 0] rfl)
      · rw [if_neg hc] at hf
        refine lv_iload_n hx hb dX2_sumOfValues_20 rfl (lv_at hl 1 rfl) ?_
        refine lv_aload_n hx hb dX2_sumOfValues_21 rfl (lv_at hl 0 rfl) ?_
        refine lv_iload_n hx hb dX2_sumOfValues_22 rfl (lv_at hl 2 rfl) ?_
        obtain ⟨z2, h, hf⟩ := bd_s hf
        refine x_ci (x_rV E (As := [.int v2]) (rest := [.int v1]) (mt_X2_valueAt l D I J O a0 a1 a2 a3 a4 a5 a6 v2 x z2 h) blR (x_recv E hP 0 2 rfl rfl rfl) (x_pcR E hP) ok_X2_valueAt q280 rfl hl.1 rfl (Nat.le_of_ble_eq_true rfl) ⟨Nat.le_of_ble_eq_true rfl, Nat.le_of_ble_eq_true rfl⟩ ⟨Nat.le_of_ble_eq_true rfl, Nat.le_of_ble_eq_true rfl⟩ dX2_sumOfValues_23) ?_
        refine lv_iadd hx hb dX2_sumOfValues_26 ?_
        refine lv_istore_n (lv' := [(1, .int (v1 + z2)), (0, .ref a0), (2, .int v2)]) hx hb dX2_sumOfValues_27 rfl hl (by decide) rfl (fun ls hl => ?_)
        refine lv_iinc (v := v2 + 1) (lv' := [(2, .int (v2 + 1)), (1, .int (v1 + z2)), (0, .ref a0)]) hx hb dX2_sumOfValues_28 hl (k := 2) rfl rfl (by decide) rfl (fun ls hl => ?_)
        refine lv_goto (tgt := 4) hx hb dX2_sumOfValues_31 (by decide) ?_
        exact ih (v1 + z2) (v2 + 1) x hf hP _ (lv_sub hl [2, 1, 0] rfl)
set_option maxRecDepth 100000 in
set_option maxHeartbeats 4000000 in
theorem mt_X2_sumOfValues (l : Launch) (D : va_G) (I J O : ClassId) (a0 a1 a2 a3 a4 a5 a6 : Nat)  (x : SlC) (r : Int32) (hf : f_X2_sumOfValues x = some r) : mR l yX2_sumOfValues cX2_sumOfValues 3 (some .int) 2 42 D I J O [.ref a0] (wSl I a0 a1 a2 a3 a4 a5 a6 x) (qRi r) := by
  refine mR_open (own := RX2) rfl (by decide +kernel) (Nat.le_of_ble_eq_true rfl) (fun p e s m below meth c ls E hP hl => ?_)
  have hx := E.1
  have hb := E.2.1
  have hl : lv_has ls 3 [(0, .ref a0)] := hl
  unfold f_X2_sumOfValues at hf
  refine lv_iconst (v := 0) hx hb dX2_sumOfValues_0 (by decide) ?_
  refine lv_istore_n (lv' := [(1, .int 0), (0, .ref a0)]) hx hb dX2_sumOfValues_1 rfl hl (by decide) rfl (fun ls hl => ?_)
  refine lv_iconst (v := 0) hx hb dX2_sumOfValues_2 (by decide) ?_
  refine lv_istore_n (lv' := [(2, .int 0), (1, .int 0), (0, .ref a0)]) hx hb dX2_sumOfValues_3 rfl hl (by decide) rfl (fun ls hl => ?_)
  exact k_X2_sumOfValues_4 E a0 a1 a2 a3 a4 a5 a6 r FU 0 0 x hf hP _ (lv_sub hl [2, 1, 0] rfl)
theorem ok_X2_longestGap : yV yX2_longestGap cX2_longestGap 4 (some .int) 0 := ⟨q665, q3, q663, q664, by decide +kernel, by decide +kernel, by decide +kernel⟩
set_option maxRecDepth 100000 in
set_option maxHeartbeats 4000000 in
theorem k_X2_longestGap_30 {p : Program} {l : Launch} {e : Env} {s : State} {m : MethodId} {args : Array Value} {below : List Frame} {meth : Method} {c : Code} {D : va_G} {I J O : ClassId} (E : fx p s m args meth c cX2_longestGap RX2 4 (some .int) D I J O) (a0 a1 a2 a3 a4 a5 a6 : Nat)  (r : Int32) (k6 : Int32 → Int32 → Int32 → SlC → Option (Int32)) (hk6 : ∀ (v1 : Int32) (v2 : Int32) (v3 : Int32) (x : SlC), k6 v1 v2 v3 x = some r → va_P D vwCl (wSl I a0 a1 a2 a3 a4 a5 a6 x) s.heap → ∀ ls : Array Slot, lv_has ls 4 [(0, .ref a0), (1, .int v1), (2, .int v2), (3, .int v3)] → W p l e (rmB 2 42 0 0) s m args below meth c s.heap [] 0 0 (MQ below (qRi r) args s 0 0 (fun _ => False)) (F0 m 6 ls [])) : ∀ (v1 : Int32) (v3 : Int32) (t0 : Int32) (x : SlC), f_X2_longestGap_30 k6 v1 v3 t0 x = some r → va_P D vwCl (wSl I a0 a1 a2 a3 a4 a5 a6 x) s.heap → ∀ ls : Array Slot, lv_has ls 4 [(0, .ref a0), (1, .int v1), (3, .int v3)] → W p l e (rmB 2 42 0 0) s m args below meth c s.heap [] 0 0 (MQ below (qRi r) args s 0 0 (fun _ => False)) (F0 m 30 ls [.int t0]) := by
  have hx := E.1
  have hb := E.2.1
  intro v1 v3 t0 x hf hP ls hl
  unfold f_X2_longestGap_30 at hf
  refine lv_istore_n (lv' := [(2, .int t0), (0, .ref a0), (1, .int v1), (3, .int v3)]) hx hb dX2_longestGap_30 rfl hl (by decide) rfl (fun ls hl => ?_)
  refine lv_iload_n hx hb dX2_longestGap_31 rfl (lv_at hl 2 rfl) ?_
  refine lv_iload_n hx hb dX2_longestGap_32 rfl (lv_at hl 0 rfl) ?_
  refine x_max E hl.1 q666 q412 q14 q_max (Nat.le_of_ble_eq_true rfl) (Nat.le_of_ble_eq_true rfl) (Nat.le_of_ble_eq_true rfl) (Nat.le_of_ble_eq_true rfl) dX2_longestGap_33 ?_
  refine lv_istore_n (lv' := [(1, .int (if v1 < t0 then t0 else v1)), (2, .int t0), (0, .ref a0), (3, .int v3)]) hx hb dX2_longestGap_36 rfl hl (by decide) rfl (fun ls hl => ?_)
  refine lv_iinc (v := v3 + 1) (lv' := [(3, .int (v3 + 1)), (1, .int (if v1 < t0 then t0 else v1)), (2, .int t0), (0, .ref a0)]) hx hb dX2_longestGap_37 hl (k := 3) rfl rfl (by decide) rfl (fun ls hl => ?_)
  refine lv_goto (tgt := 6) hx hb dX2_longestGap_40 (by decide) ?_
  exact hk6 (if v1 < t0 then t0 else v1) t0 (v3 + 1) x hf hP _ (lv_sub hl [3, 1, 2, 0] rfl)
set_option maxRecDepth 100000 in
set_option maxHeartbeats 4000000 in
theorem k_X2_longestGap_6 {p : Program} {l : Launch} {e : Env} {s : State} {m : MethodId} {args : Array Value} {below : List Frame} {meth : Method} {c : Code} {D : va_G} {I J O : ClassId} (E : fx p s m args meth c cX2_longestGap RX2 4 (some .int) D I J O) (a0 a1 a2 a3 a4 a5 a6 : Nat)  (r : Int32) : ∀ fu : Nat, ∀ (v1 : Int32) (v2 : Int32) (v3 : Int32) (x : SlC), f_X2_longestGap_6 fu v1 v2 v3 x = some r → va_P D vwCl (wSl I a0 a1 a2 a3 a4 a5 a6 x) s.heap → ∀ ls : Array Slot, lv_has ls 4 [(0, .ref a0), (1, .int v1), (2, .int v2), (3, .int v3)] → W p l e (rmB 2 42 0 0) s m args below meth c s.heap [] 0 0 (MQ below (qRi r) args s 0 0 (fun _ => False)) (F0 m 6 ls []) := by
  have hx := E.1
  have hb := E.2.1
  intro fu
  induction fu with
  | zero =>
    intro v1 v2 v3 x hf hP ls hl
    rw [f_X2_longestGap_6.eq_1] at hf
    cases hf
  | succ fu ih =>
    intro v1 v2 v3 x hf hP ls hl
    rw [f_X2_longestGap_6.eq_2] at hf
    refine lv_iload_n hx hb dX2_longestGap_6 rfl (lv_at hl 3 rfl) ?_
    refine lv_aload_n hx hb dX2_longestGap_7 rfl (lv_at hl 0 rfl) ?_
    refine x_get E hP 0 rfl rfl in2 0 (by decide) q35 rfl rfl dX2_longestGap_8 ?_
    refine lv_icmp_ge (tgt := 43) hx hb dX2_longestGap_11 (by decide) (fun hc => ?_) (fun hc => ?_)
    · rw [if_pos hc] at hf
      refine lv_iload_n hx hb dX2_longestGap_43 rfl (lv_at hl 1 rfl) ?_
      exact x_iR E (Option.some.inj hf) dX2_longestGap_44
    · rw [if_neg hc] at hf
      refine lv_aload_n hx hb dX2_longestGap_14 rfl (lv_at hl 0 rfl) ?_
      refine lv_iload_n hx hb dX2_longestGap_15 rfl (lv_at hl 3 rfl) ?_
      obtain ⟨z1, h, hf⟩ := bd_s hf
      refine x_ci (x_rV E (As := [.int v3]) (rest := []) (mt_X2_ownerOf l D I J O a0 a1 a2 a3 a4 a5 a6 v3 x z1 h) blR (x_recv E hP 0 2 rfl rfl rfl) (x_pcR E hP) ok_X2_ownerOf q428 rfl hl.1 rfl (Nat.le_of_ble_eq_true rfl) ⟨Nat.le_of_ble_eq_true rfl, Nat.le_of_ble_eq_true rfl⟩ ⟨Nat.le_of_ble_eq_true rfl, Nat.le_of_ble_eq_true rfl⟩ dX2_longestGap_16) ?_
      refine lv_iconst (v := (-1)) hx hb dX2_longestGap_19 (by decide) ?_
      refine lv_icmp_ne (tgt := 29) hx hb dX2_longestGap_20 (by decide) (fun hc => ?_) (fun hc => ?_)
      · rw [if_neg hc] at hf
        refine lv_iconst (v := 0) hx hb dX2_longestGap_29 (by decide) ?_
        exact k_X2_longestGap_30 E a0 a1 a2 a3 a4 a5 a6 r (f_X2_longestGap_6 fu) ih v1 v3 0 x hf hP _ (lv_sub hl [0, 1, 3] rfl)
      · rw [if_pos hc] at hf
        refine lv_iload_n hx hb dX2_longestGap_23 rfl (lv_at hl 2 rfl) ?_
        refine lv_iconst (v := 1) hx hb dX2_longestGap_24 (by decide) ?_
        refine lv_iadd hx hb dX2_longestGap_25 ?_
        refine lv_goto (tgt := 30) hx hb dX2_longestGap_26 (by decide) ?_
        exact k_X2_longestGap_30 E a0 a1 a2 a3 a4 a5 a6 r (f_X2_longestGap_6 fu) ih v1 v3 (v2 + 1) x hf hP _ (lv_sub hl [0, 1, 3] rfl)
set_option maxRecDepth 100000 in
set_option maxHeartbeats 4000000 in
theorem mt_X2_longestGap (l : Launch) (D : va_G) (I J O : ClassId) (a0 a1 a2 a3 a4 a5 a6 : Nat)  (x : SlC) (r : Int32) (hf : f_X2_longestGap x = some r) : mR l yX2_longestGap cX2_longestGap 4 (some .int) 2 42 D I J O [.ref a0] (wSl I a0 a1 a2 a3 a4 a5 a6 x) (qRi r) := by
  refine mR_open (own := RX2) rfl (by decide +kernel) (Nat.le_of_ble_eq_true rfl) (fun p e s m below meth c ls E hP hl => ?_)
  have hx := E.1
  have hb := E.2.1
  have hl : lv_has ls 4 [(0, .ref a0)] := hl
  unfold f_X2_longestGap at hf
  refine lv_iconst (v := 0) hx hb dX2_longestGap_0 (by decide) ?_
  refine lv_istore_n (lv' := [(1, .int 0), (0, .ref a0)]) hx hb dX2_longestGap_1 rfl hl (by decide) rfl (fun ls hl => ?_)
  refine lv_iconst (v := 0) hx hb dX2_longestGap_2 (by decide) ?_
  refine lv_istore_n (lv' := [(2, .int 0), (1, .int 0), (0, .ref a0)]) hx hb dX2_longestGap_3 rfl hl (by decide) rfl (fun ls hl => ?_)
  refine lv_iconst (v := 0) hx hb dX2_longestGap_4 (by decide) ?_
  refine lv_istore_n (lv' := [(3, .int 0), (2, .int 0), (1, .int 0), (0, .ref a0)]) hx hb dX2_longestGap_5 rfl hl (by decide) rfl (fun ls hl => ?_)
  exact k_X2_longestGap_6 E a0 a1 a2 a3 a4 a5 a6 r FU 0 0 0 x hf hP _ (lv_sub hl [3, 2, 1, 0] rfl)
theorem ok_X2_beginOfLongestGap : yV yX2_beginOfLongestGap cX2_beginOfLongestGap 5 (some .int) 0 := ⟨q670, q3, q668, q669, by decide +kernel, by decide +kernel, by decide +kernel⟩
set_option maxRecDepth 100000 in
set_option maxHeartbeats 4000000 in
theorem k_X2_beginOfLongestGap_35 {p : Program} {l : Launch} {e : Env} {s : State} {m : MethodId} {args : Array Value} {below : List Frame} {meth : Method} {c : Code} {D : va_G} {I J O : ClassId} (E : fx p s m args meth c cX2_beginOfLongestGap RX2 5 (some .int) D I J O) (a0 a1 a2 a3 a4 a5 a6 : Nat)  (r : Int32) (k9 : Int32 → Int32 → Int32 → Int32 → SlC → Option (Int32)) (hk9 : ∀ (v1 : Int32) (v2 : Int32) (v3 : Int32) (v4 : Int32) (x : SlC), k9 v1 v2 v3 v4 x = some r → va_P D vwCl (wSl I a0 a1 a2 a3 a4 a5 a6 x) s.heap → ∀ ls : Array Slot, lv_has ls 5 [(0, .ref a0), (1, .int v1), (2, .int v2), (3, .int v3), (4, .int v4)] → W p l e (rmB 2 42 0 0) s m args below meth c s.heap [] 0 0 (MQ below (qRi r) args s 0 0 (fun _ => False)) (F0 m 9 ls [])) : ∀ (v1 : Int32) (v2 : Int32) (v4 : Int32) (t0 : Int32) (x : SlC), f_X2_beginOfLongestGap_35 k9 v1 v2 v4 t0 x = some r → va_P D vwCl (wSl I a0 a1 a2 a3 a4 a5 a6 x) s.heap → ∀ ls : Array Slot, lv_has ls 5 [(0, .ref a0), (1, .int v1), (2, .int v2), (4, .int v4)] → W p l e (rmB 2 42 0 0) s m args below meth c s.heap [] 0 0 (MQ below (qRi r) args s 0 0 (fun _ => False)) (F0 m 35 ls [.int t0]) := by
  have hx := E.1
  have hb := E.2.1
  intro v1 v2 v4 t0 x hf hP ls hl
  unfold f_X2_beginOfLongestGap_35 at hf
  refine lv_istore_n (lv' := [(3, .int t0), (0, .ref a0), (1, .int v1), (2, .int v2), (4, .int v4)]) hx hb dX2_beginOfLongestGap_35 rfl hl (by decide) rfl (fun ls hl => ?_)
  refine lv_iload_n hx hb dX2_beginOfLongestGap_36 rfl (lv_at hl 0 rfl) ?_
  refine lv_iload_n hx hb dX2_beginOfLongestGap_37 rfl (lv_at hl 2 rfl) ?_
  refine lv_icmp_le (tgt := 50) hx hb dX2_beginOfLongestGap_38 (by decide) (fun hc => ?_) (fun hc => ?_)
  · rw [if_pos hc] at hf
    refine lv_iinc (v := v4 + 1) (lv' := [(4, .int (v4 + 1)), (3, .int t0), (0, .ref a0), (1, .int v1), (2, .int v2)]) hx hb dX2_beginOfLongestGap_50 hl (k := 4) rfl rfl (by decide) rfl (fun ls hl => ?_)
    refine lv_goto (tgt := 9) hx hb dX2_beginOfLongestGap_53 (by decide) ?_
    exact hk9 v1 v2 t0 (v4 + 1) x hf hP _ (lv_sub hl [2, 3, 4, 1, 0] rfl)
  · rw [if_neg hc] at hf
    refine lv_iload_n hx hb dX2_beginOfLongestGap_41 rfl (lv_at hl 0 rfl) ?_
    refine lv_istore_n (lv' := [(1, .int t0), (3, .int t0), (0, .ref a0), (2, .int v2), (4, .int v4)]) hx hb dX2_beginOfLongestGap_42 rfl hl (by decide) rfl (fun ls hl => ?_)
    refine lv_iload hx hb dX2_beginOfLongestGap_43 (lv_at hl 4 rfl) ?_
    refine lv_iload_n hx hb dX2_beginOfLongestGap_45 rfl (lv_at hl 1 rfl) ?_
    refine lv_isub hx hb dX2_beginOfLongestGap_46 ?_
    refine lv_iconst (v := 1) hx hb dX2_beginOfLongestGap_47 (by decide) ?_
    refine lv_iadd hx hb dX2_beginOfLongestGap_48 ?_
    refine lv_istore_n (lv' := [(2, .int ((v4 - t0) + 1)), (1, .int t0), (3, .int t0), (0, .ref a0), (4, .int v4)]) hx hb dX2_beginOfLongestGap_49 rfl hl (by decide) rfl (fun ls hl => ?_)
    refine lv_iinc (v := v4 + 1) (lv' := [(4, .int (v4 + 1)), (2, .int ((v4 - t0) + 1)), (1, .int t0), (3, .int t0), (0, .ref a0)]) hx hb dX2_beginOfLongestGap_50 hl (k := 4) rfl rfl (by decide) rfl (fun ls hl => ?_)
    refine lv_goto (tgt := 9) hx hb dX2_beginOfLongestGap_53 (by decide) ?_
    exact hk9 t0 ((v4 - t0) + 1) t0 (v4 + 1) x hf hP _ (lv_sub hl [4, 2, 1, 3, 0] rfl)
set_option maxRecDepth 100000 in
set_option maxHeartbeats 4000000 in
theorem k_X2_beginOfLongestGap_9 {p : Program} {l : Launch} {e : Env} {s : State} {m : MethodId} {args : Array Value} {below : List Frame} {meth : Method} {c : Code} {D : va_G} {I J O : ClassId} (E : fx p s m args meth c cX2_beginOfLongestGap RX2 5 (some .int) D I J O) (a0 a1 a2 a3 a4 a5 a6 : Nat)  (r : Int32) : ∀ fu : Nat, ∀ (v1 : Int32) (v2 : Int32) (v3 : Int32) (v4 : Int32) (x : SlC), f_X2_beginOfLongestGap_9 fu v1 v2 v3 v4 x = some r → va_P D vwCl (wSl I a0 a1 a2 a3 a4 a5 a6 x) s.heap → ∀ ls : Array Slot, lv_has ls 5 [(0, .ref a0), (1, .int v1), (2, .int v2), (3, .int v3), (4, .int v4)] → W p l e (rmB 2 42 0 0) s m args below meth c s.heap [] 0 0 (MQ below (qRi r) args s 0 0 (fun _ => False)) (F0 m 9 ls []) := by
  have hx := E.1
  have hb := E.2.1
  intro fu
  induction fu with
  | zero =>
    intro v1 v2 v3 v4 x hf hP ls hl
    rw [f_X2_beginOfLongestGap_9.eq_1] at hf
    cases hf
  | succ fu ih =>
    intro v1 v2 v3 v4 x hf hP ls hl
    rw [f_X2_beginOfLongestGap_9.eq_2] at hf
    refine lv_iload hx hb dX2_beginOfLongestGap_9 (lv_at hl 4 rfl) ?_
    refine lv_aload_n hx hb dX2_beginOfLongestGap_11 rfl (lv_at hl 0 rfl) ?_
    refine x_get E hP 0 rfl rfl in2 0 (by decide) q35 rfl rfl dX2_beginOfLongestGap_12 ?_
    refine lv_icmp_ge (tgt := 56) hx hb dX2_beginOfLongestGap_15 (by decide) (fun hc => ?_) (fun hc => ?_)
    · rw [if_pos hc] at hf
      refine lv_iload_n hx hb dX2_beginOfLongestGap_56 rfl (lv_at hl 2 rfl) ?_
      exact x_iR E (Option.some.inj hf) dX2_beginOfLongestGap_57
    · rw [if_neg hc] at hf
      refine lv_aload_n hx hb dX2_beginOfLongestGap_18 rfl (lv_at hl 0 rfl) ?_
      refine lv_iload hx hb dX2_beginOfLongestGap_19 (lv_at hl 4 rfl) ?_
      obtain ⟨z1, h, hf⟩ := bd_s hf
      refine x_ci (x_rV E (As := [.int v4]) (rest := []) (mt_X2_ownerOf l D I J O a0 a1 a2 a3 a4 a5 a6 v4 x z1 h) blR (x_recv E hP 0 2 rfl rfl rfl) (x_pcR E hP) ok_X2_ownerOf q428 rfl hl.1 rfl (Nat.le_of_ble_eq_true rfl) ⟨Nat.le_of_ble_eq_true rfl, Nat.le_of_ble_eq_true rfl⟩ ⟨Nat.le_of_ble_eq_true rfl, Nat.le_of_ble_eq_true rfl⟩ dX2_beginOfLongestGap_21) ?_
      refine lv_iconst (v := (-1)) hx hb dX2_beginOfLongestGap_24 (by decide) ?_
      refine lv_icmp_ne (tgt := 34) hx hb dX2_beginOfLongestGap_25 (by decide) (fun hc => ?_) (fun hc => ?_)
      · rw [if_neg hc] at hf
        refine lv_iconst (v := 0) hx hb dX2_beginOfLongestGap_34 (by decide) ?_
        exact k_X2_beginOfLongestGap_35 E a0 a1 a2 a3 a4 a5 a6 r (f_X2_beginOfLongestGap_9 fu) ih v1 v2 v4 0 x hf hP _ (lv_sub hl [0, 1, 2, 4] rfl)
      · rw [if_pos hc] at hf
        refine lv_iload_n hx hb dX2_beginOfLongestGap_28 rfl (lv_at hl 3 rfl) ?_
        refine lv_iconst (v := 1) hx hb dX2_beginOfLongestGap_29 (by decide) ?_
        refine lv_iadd hx hb dX2_beginOfLongestGap_30 ?_
        refine lv_goto (tgt := 35) hx hb dX2_beginOfLongestGap_31 (by decide) ?_
        exact k_X2_beginOfLongestGap_35 E a0 a1 a2 a3 a4 a5 a6 r (f_X2_beginOfLongestGap_9 fu) ih v1 v2 v4 (v3 + 1) x hf hP _ (lv_sub hl [0, 1, 2, 4] rfl)
set_option maxRecDepth 100000 in
set_option maxHeartbeats 4000000 in
theorem mt_X2_beginOfLongestGap (l : Launch) (D : va_G) (I J O : ClassId) (a0 a1 a2 a3 a4 a5 a6 : Nat)  (x : SlC) (r : Int32) (hf : f_X2_beginOfLongestGap x = some r) : mR l yX2_beginOfLongestGap cX2_beginOfLongestGap 5 (some .int) 2 42 D I J O [.ref a0] (wSl I a0 a1 a2 a3 a4 a5 a6 x) (qRi r) := by
  refine mR_open (own := RX2) rfl (by decide +kernel) (Nat.le_of_ble_eq_true rfl) (fun p e s m below meth c ls E hP hl => ?_)
  have hx := E.1
  have hb := E.2.1
  have hl : lv_has ls 5 [(0, .ref a0)] := hl
  unfold f_X2_beginOfLongestGap at hf
  refine lv_iconst (v := 0) hx hb dX2_beginOfLongestGap_0 (by decide) ?_
  refine lv_istore_n (lv' := [(1, .int 0), (0, .ref a0)]) hx hb dX2_beginOfLongestGap_1 rfl hl (by decide) rfl (fun ls hl => ?_)
  refine lv_iconst (v := (-1)) hx hb dX2_beginOfLongestGap_2 (by decide) ?_
  refine lv_istore_n (lv' := [(2, .int (-1)), (1, .int 0), (0, .ref a0)]) hx hb dX2_beginOfLongestGap_3 rfl hl (by decide) rfl (fun ls hl => ?_)
  refine lv_iconst (v := 0) hx hb dX2_beginOfLongestGap_4 (by decide) ?_
  refine lv_istore_n (lv' := [(3, .int 0), (2, .int (-1)), (1, .int 0), (0, .ref a0)]) hx hb dX2_beginOfLongestGap_5 rfl hl (by decide) rfl (fun ls hl => ?_)
  refine lv_iconst (v := 0) hx hb dX2_beginOfLongestGap_6 (by decide) ?_
  refine lv_istore (lv' := [(4, .int 0), (3, .int 0), (2, .int (-1)), (1, .int 0), (0, .ref a0)]) hx hb dX2_beginOfLongestGap_7 hl (by decide) rfl (fun ls hl => ?_)
  exact k_X2_beginOfLongestGap_9 E a0 a1 a2 a3 a4 a5 a6 r FU 0 (-1) 0 0 x hf hP _ (lv_sub hl [4, 3, 2, 1, 0] rfl)
