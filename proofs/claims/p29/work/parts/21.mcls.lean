theorem ok_X5_put : yV yX5_put cX5_put 4 (some .int) 3 := ⟨q454, q1, q452, q453, by decide +kernel, by decide +kernel, by decide +kernel⟩
set_option maxRecDepth 100000 in
set_option maxHeartbeats 4000000 in
theorem mt_X5_put (l : Launch) (D : va_G) (I J O : ClassId) (h0 : Nat) (n t : Nat → Nat) (b0 b1 hh ha : Nat) (ad : Nat → Nat → Nat) (sz : Nat) (p0 : Int32) (p1 : Int32) (p2 : Int32) (x : ClC) (r : Int32) (y0 : ClC) (hf : f_X5_put p0 p1 p2 x = some (.inr (r, y0))) : mM l yX5_put cX5_put 4 (some .int) 4 94 0 0 D I J O sz [.ref h0, .int p0, .int p1, .int p2] (wCl I h0 n t b0 b1 hh x ++ wHi I O hh ha ad x.2.2.1) (qMi D sz (wCl I h0 n t b0 b1 hh x ++ wHi I O hh ha ad x.2.2.1) r (fun ad9 : Nat → Nat → Nat => wCl I h0 n t b0 b1 hh y0 ++ wHi I O hh ha ad9 y0.2.2.1)) := by
  refine mM_open (own := RX5) rfl (by decide +kernel) (Nat.le_of_ble_eq_true rfl) (fun p e s m below meth c ls E hnm hsz hw hl => ?_)
  obtain ⟨ws0, hws⟩ : ∃ ws0 : va_W, ws0 = wCl I h0 n t b0 b1 hh x ++ wHi I O hh ha ad x.2.2.1 := ⟨_, rfl⟩
  have hw : fy D (va_A ws0 sz) s.heap s.heap [] (wCl I h0 n t b0 b1 hh x ++ wHi I O hh ha ad x.2.2.1) := by rw [hws]; exact hw
  rw [← hws]
  have hx := E.1
  have hb := E.2.1
  have hl : lv_has ls 4 [(0, .ref h0), (1, .int p0), (2, .int p1), (3, .int p2)] := hl
  unfold f_X5_put at hf
  refine lv_iload_n hx hb dX5_put_0 rfl (lv_at hl 1 rfl) ?_
  refine lv_iload_n hx hb dX5_put_1 rfl (lv_at hl 2 rfl) ?_
  refine lv_iload_n hx hb dX5_put_2 rfl (lv_at hl 3 rfl) ?_
  obtain ⟨z1, h, hf⟩ := bd_s hf
  refine x_ci (x_rS E (As := [.int p0, .int p1, .int p2]) (rest := []) (mt_X5_isThing l D I J O p0 p1 p2 z1 h) blR (x_pcR E x_none) ok_X5_isThing q455 rfl hl.1 rfl (Nat.le_of_ble_eq_true rfl) ⟨Nat.le_of_ble_eq_true rfl, Nat.le_of_ble_eq_true rfl⟩ ⟨Nat.le_of_ble_eq_true rfl, Nat.le_of_ble_eq_true rfl⟩ dX5_put_3) ?_
  refine lv_if_ne (tgt := 19) hx hb dX5_put_6 (by decide) (fun hc => ?_) (fun hc => ?_)
  · rw [if_neg hc] at hf
    refine lv_aload_n hx hb dX5_put_19 rfl (lv_at hl 0 rfl) ?_
    refine x_get E hw.1 0 rfl rfl in5 0 (by decide) q131 rfl rfl dX5_put_20 ?_
    refine x_getN E hw.1 1 rfl rfl in3 0 (by decide) E.2.2.2.2.2.1.2.2.1 rfl rfl dX5_put_23 ?_
    refine lv_iload_n hx hb dX5_put_26 rfl (lv_at hl 2 rfl) ?_
    obtain ⟨z2, h, hf⟩ := bd_s hf
    refine x_ci (x_rV E (As := [.int p1]) (rest := []) (mt_X2_lowestFor l D I J O (n 1) (n 2) (n 3) (n 4) (n 5) (n 6) (n 7) p1 x.1.1 z2 h) blR (x_recv E hw.1 2 2 rfl rfl rfl) (x_pcR E (x_pick hw.1 [2, 3, 4, 5, 6, 7, 8] rfl)) ok_X2_lowestFor q465 rfl hl.1 rfl (Nat.le_of_ble_eq_true rfl) ⟨Nat.le_of_ble_eq_true rfl, Nat.le_of_ble_eq_true rfl⟩ ⟨Nat.le_of_ble_eq_true rfl, Nat.le_of_ble_eq_true rfl⟩ dX5_put_27) ?_
    refine lv_iconst (v := (-1)) hx hb dX5_put_30 (by decide) ?_
    refine lv_icmp_ne (tgt := 44) hx hb dX5_put_31 (by decide) (fun hc => ?_) (fun hc => ?_)
    · rw [if_neg hc] at hf
      refine lv_aload_n hx hb dX5_put_44 rfl (lv_at hl 0 rfl) ?_
      refine x_get E hw.1 0 rfl rfl in5 2 (by decide) q133 rfl rfl dX5_put_45 ?_
      refine lv_aload_n hx hb dX5_put_48 rfl (lv_at hl 0 rfl) ?_
      refine x_get E hw.1 0 rfl rfl in5 0 (by decide) q131 rfl rfl dX5_put_49 ?_
      obtain ⟨z3, h, hf⟩ := bd_s hf
      refine x_mvP hw [1, 2, 3, 4, 5, 6, 7, 8, 9, 10, 11, 12] rfl rfl (x_rV E (As := [.ref (n 0)]) (rest := []) (mt_X0_save l D I J O hh ha ad n s.heap.size x.2.2.1 x.1 z3 h) blM (x_recv E (x_lastpl hw.1) 0 0 rfl rfl rfl) (x_pcMP E hw [1, 2, 3, 4, 5, 6, 7, 8, 9, 10, 11, 12] rfl rfl) ok_X0_save q148 rfl hl.1 rfl (Nat.le_of_ble_eq_true rfl) ⟨Nat.le_of_ble_eq_true rfl, Nat.le_of_ble_eq_true rfl⟩ ⟨Nat.le_of_ble_eq_true rfl, Nat.le_of_ble_eq_true rfl⟩ dX5_put_52) (fun _ => rfl) (fun ad4 H locs hw => ?_)
      have hw : fy D (va_A ws0 sz) s.heap H locs (wCl I h0 n t b0 b1 hh (x.1, x.2.1, z3, x.2.2.2) ++ wHi I O hh ha ad4 z3) := hw
      refine lv_aload_n hx hb dX5_put_55 rfl (lv_at hl 0 rfl) ?_
      refine x_get E hw.1 0 rfl rfl in5 0 (by decide) q131 rfl rfl dX5_put_56 ?_
      refine x_getN E hw.1 1 rfl rfl in3 0 (by decide) E.2.2.2.2.2.1.2.2.1 rfl rfl dX5_put_59 ?_
      refine lv_aload_n hx hb dX5_put_62 rfl (lv_at hl 0 rfl) ?_
      refine x_get E hw.1 0 rfl rfl in5 0 (by decide) q131 rfl rfl dX5_put_63 ?_
      refine lv_aload_n hx hb dX5_put_66 rfl (lv_at hl 0 rfl) ?_
      refine x_get E hw.1 0 rfl rfl in5 0 (by decide) q131 rfl rfl dX5_put_67 ?_
      refine x_getN E hw.1 1 rfl rfl in3 1 (by decide) E.2.2.2.2.2.1.2.2.2.1 rfl rfl dX5_put_70 ?_
      obtain ⟨z5, h, hf⟩ := bd_s hf
      refine x_ci (x_rV E (As := []) (rest := [.ref (n 0), .ref (n 1)]) (mt_X1_size l D I J O (n 8) (n 9) (n 10) x.1.2.1 z5 h) blR (x_recv E hw.1 9 1 rfl rfl rfl) (x_pcR E (x_pick hw.1 [9, 10, 11] rfl)) ok_X1_size q467 rfl hl.1 rfl (Nat.le_of_ble_eq_true rfl) ⟨Nat.le_of_ble_eq_true rfl, Nat.le_of_ble_eq_true rfl⟩ ⟨Nat.le_of_ble_eq_true rfl, Nat.le_of_ble_eq_true rfl⟩ dX5_put_73) ?_
      refine lv_iload_n hx hb dX5_put_76 rfl (lv_at hl 1 rfl) ?_
      refine lv_iload_n hx hb dX5_put_77 rfl (lv_at hl 2 rfl) ?_
      refine lv_iload_n hx hb dX5_put_78 rfl (lv_at hl 3 rfl) ?_
      obtain ⟨z6, h, hf⟩ := bd_s hf
      refine x_mi hw [1, 2, 3, 4, 5, 6, 7, 8, 9, 10, 11, 12] rfl rfl (x_rV E (As := [.int z5, .int p0, .int p1, .int p2]) (rest := [.ref (n 1)]) (mt_X3_addAt l D I J O n H.size z5 p0 p1 p2 x.1 z6.1 z6.2 h) blM (x_recv E hw.1 1 3 rfl rfl rfl) (x_pcMQ E hw [1, 2, 3, 4, 5, 6, 7, 8, 9, 10, 11, 12] rfl rfl) ok_X3_addAt q468 rfl hl.1 rfl (Nat.le_of_ble_eq_true rfl) ⟨Nat.le_of_ble_eq_true rfl, Nat.le_of_ble_eq_true rfl⟩ ⟨Nat.le_of_ble_eq_true rfl, Nat.le_of_ble_eq_true rfl⟩ dX5_put_79) (fun _ => rfl) (fun _ H locs hw => ?_)
      have hw : fy D (va_A ws0 sz) s.heap H locs (wCl I h0 n t b0 b1 hh (z6.2, x.2.1, z3, x.2.2.2) ++ wHi I O hh ha ad4 z3) := hw
      obtain ⟨z7, h, hf⟩ := bd_s hf
      refine x_ci (x_rV E (As := [.int z6.1]) (rest := []) (mt_X2_handleOf l D I J O (n 1) (n 2) (n 3) (n 4) (n 5) (n 6) (n 7) z6.1 z6.2.1 z7 h) blR (x_recv E hw.1 2 2 rfl rfl rfl) (x_pcR E (x_pick hw.1 [2, 3, 4, 5, 6, 7, 8] rfl)) ok_X2_handleOf q395 rfl hl.1 rfl (Nat.le_of_ble_eq_true rfl) ⟨Nat.le_of_ble_eq_true rfl, Nat.le_of_ble_eq_true rfl⟩ ⟨Nat.le_of_ble_eq_true rfl, Nat.le_of_ble_eq_true rfl⟩ dX5_put_82) ?_
      obtain ⟨he0, hr⟩ := Prod.mk.inj (Sum.inr.inj (Option.some.inj hf))
      have he1 := hr
      subst he1
      exact x_iM E ad4 hw he0 dX5_put_85
    · rw [if_pos hc] at hf
      cases hf
  · rw [if_pos hc] at hf
    cases hf
set_option maxRecDepth 100000 in
set_option maxHeartbeats 4000000 in
theorem mx_X5_put (l : Launch) (hfl : l.stackTraces = false) (D : va_G) (I J O : ClassId) (h0 : Nat) (n t : Nat → Nat) (b0 b1 hh ha : Nat) (ad : Nat → Nat → Nat) (sz : Nat) (p0 : Int32) (p1 : Int32) (p2 : Int32) (x : ClC) (ex : Nat) (hf : f_X5_put p0 p1 p2 x = some (.inl ex)) : mX l yX5_put cX5_put 4 (some .int) 6 94 D I J O sz [.ref h0, .int p0, .int p1, .int p2] (wCl I h0 n t b0 b1 hh x ++ wHi I O hh ha ad x.2.2.1) (exn ex) := by
  refine mX_open (own := RX5) rfl (by decide +kernel) (Nat.le_of_ble_eq_true rfl) (fun p e s m below meth c ls E htab hX hsz hP hl => ?_)
  have hx := E.1
  have hb := E.2.1
  have hl : lv_has ls 4 [(0, .ref h0), (1, .int p0), (2, .int p1), (3, .int p2)] := hl
  unfold f_X5_put at hf
  refine lv_iload_n hx hb dX5_put_0 rfl (lv_at hl 1 rfl) ?_
  refine lv_iload_n hx hb dX5_put_1 rfl (lv_at hl 2 rfl) ?_
  refine lv_iload_n hx hb dX5_put_2 rfl (lv_at hl 3 rfl) ?_
  obtain ⟨z1, h, hf⟩ := bd_s hf
  refine x_ci (x_rS E (As := [.int p0, .int p1, .int p2]) (rest := []) (mt_X5_isThing l D I J O p0 p1 p2 z1 h) blR (x_pcR E x_none) ok_X5_isThing q455 rfl hl.1 rfl (Nat.le_of_ble_eq_true rfl) ⟨Nat.le_of_ble_eq_true rfl, Nat.le_of_ble_eq_true rfl⟩ ⟨Nat.le_of_ble_eq_true rfl, Nat.le_of_ble_eq_true rfl⟩ dX5_put_3) ?_
  refine lv_if_ne (tgt := 19) hx hb dX5_put_6 (by decide) (fun hc => ?_) (fun hc => ?_)
  · rw [if_neg hc] at hf
    refine lv_aload_n hx hb dX5_put_19 rfl (lv_at hl 0 rfl) ?_
    refine x_get E hP 0 rfl rfl in5 0 (by decide) q131 rfl rfl dX5_put_20 ?_
    refine x_getN E hP 1 rfl rfl in3 0 (by decide) E.2.2.2.2.2.1.2.2.1 rfl rfl dX5_put_23 ?_
    refine lv_iload_n hx hb dX5_put_26 rfl (lv_at hl 2 rfl) ?_
    obtain ⟨z2, h, hf⟩ := bd_s hf
    refine x_ci (x_rV E (As := [.int p1]) (rest := []) (mt_X2_lowestFor l D I J O (n 1) (n 2) (n 3) (n 4) (n 5) (n 6) (n 7) p1 x.1.1 z2 h) blR (x_recv E hP 2 2 rfl rfl rfl) (x_pcR E (x_pick hP [2, 3, 4, 5, 6, 7, 8] rfl)) ok_X2_lowestFor q465 rfl hl.1 rfl (Nat.le_of_ble_eq_true rfl) ⟨Nat.le_of_ble_eq_true rfl, Nat.le_of_ble_eq_true rfl⟩ ⟨Nat.le_of_ble_eq_true rfl, Nat.le_of_ble_eq_true rfl⟩ dX5_put_27) ?_
    refine lv_iconst (v := (-1)) hx hb dX5_put_30 (by decide) ?_
    refine lv_icmp_ne (tgt := 44) hx hb dX5_put_31 (by decide) (fun hc => ?_) (fun hc => ?_)
    · rw [if_neg hc] at hf
      refine lv_aload_n hx hb dX5_put_44 rfl (lv_at hl 0 rfl) ?_
      refine x_get E hP 0 rfl rfl in5 2 (by decide) q133 rfl rfl dX5_put_45 ?_
      refine lv_aload_n hx hb dX5_put_48 rfl (lv_at hl 0 rfl) ?_
      refine x_get E hP 0 rfl rfl in5 0 (by decide) q131 rfl rfl dX5_put_49 ?_
      obtain ⟨z3, h, hf⟩ := bd_s hf
      obtain ⟨z4, h, hf⟩ := bd_s hf
      obtain ⟨z5, h, hf⟩ := bd_s hf
      obtain ⟨z6, h, hf⟩ := bd_s hf
      cases hf
    · rw [if_pos hc] at hf
      have he := Sum.inl.inj (Option.some.inj hf)
      subst he
      exact x_thr (en := "java/lang/IllegalStateException") (text := "there is no room") E htab hfl hX hl.1 hsz (by decide +kernel) q299 q11 (by decide) xg2 xn2 xo2 hX.2.2.1.2.1 dX5_put_34 dX5_put_37 dX5_put_38 dX5_put_40 dX5_put_43 (Nat.le_of_ble_eq_true rfl) (Nat.le_of_ble_eq_true rfl)
  · rw [if_pos hc] at hf
    have he := Sum.inl.inj (Option.some.inj hf)
    subst he
    exact x_thr (en := "java/lang/IllegalArgumentException") (text := "value, size or kind is out of range") E htab hfl hX hl.1 hsz (by decide +kernel) q375 q10 (by decide) xg1 xn1 xo1 hX.2.2.1.1 dX5_put_9 dX5_put_12 dX5_put_13 dX5_put_15 dX5_put_18 (Nat.le_of_ble_eq_true rfl) (Nat.le_of_ble_eq_true rfl)
theorem ok_X5_putBehind : yV yX5_putBehind cX5_putBehind 6 (some .int) 4 := ⟨q472, q1, q470, q471, by decide +kernel, by decide +kernel, by decide +kernel⟩
set_option maxRecDepth 100000 in
set_option maxHeartbeats 4000000 in
theorem mt_X5_putBehind (l : Launch) (D : va_G) (I J O : ClassId) (h0 : Nat) (n t : Nat → Nat) (b0 b1 hh ha : Nat) (ad : Nat → Nat → Nat) (sz : Nat) (p0 : Int32) (p1 : Int32) (p2 : Int32) (p3 : Int32) (x : ClC) (r : Int32) (y0 : ClC) (hf : f_X5_putBehind p0 p1 p2 p3 x = some (.inr (r, y0))) : mM l yX5_putBehind cX5_putBehind 6 (some .int) 4 94 0 0 D I J O sz [.ref h0, .int p0, .int p1, .int p2, .int p3] (wCl I h0 n t b0 b1 hh x ++ wHi I O hh ha ad x.2.2.1) (qMi D sz (wCl I h0 n t b0 b1 hh x ++ wHi I O hh ha ad x.2.2.1) r (fun ad9 : Nat → Nat → Nat => wCl I h0 n t b0 b1 hh y0 ++ wHi I O hh ha ad9 y0.2.2.1)) := by
  refine mM_open (own := RX5) rfl (by decide +kernel) (Nat.le_of_ble_eq_true rfl) (fun p e s m below meth c ls E hnm hsz hw hl => ?_)
  obtain ⟨ws0, hws⟩ : ∃ ws0 : va_W, ws0 = wCl I h0 n t b0 b1 hh x ++ wHi I O hh ha ad x.2.2.1 := ⟨_, rfl⟩
  have hw : fy D (va_A ws0 sz) s.heap s.heap [] (wCl I h0 n t b0 b1 hh x ++ wHi I O hh ha ad x.2.2.1) := by rw [hws]; exact hw
  rw [← hws]
  have hx := E.1
  have hb := E.2.1
  have hl : lv_has ls 6 [(0, .ref h0), (1, .int p0), (2, .int p1), (3, .int p2), (4, .int p3)] := hl
  unfold f_X5_putBehind at hf
  refine lv_aload_n hx hb dX5_putBehind_0 rfl (lv_at hl 0 rfl) ?_
  refine x_get E hw.1 0 rfl rfl in5 0 (by decide) q131 rfl rfl dX5_putBehind_1 ?_
  refine x_getN E hw.1 1 rfl rfl in3 0 (by decide) E.2.2.2.2.2.1.2.2.1 rfl rfl dX5_putBehind_4 ?_
  refine lv_iload_n hx hb dX5_putBehind_7 rfl (lv_at hl 1 rfl) ?_
  obtain ⟨z1, h, hf⟩ := bd_s hf
  refine x_ci (x_rV E (As := [.int p0]) (rest := []) (mt_X2_whyRefused l D I J O (n 1) (n 2) (n 3) (n 4) (n 5) (n 6) (n 7) p0 x.1.1 z1 h) blR (x_recv E hw.1 2 2 rfl rfl rfl) (x_pcR E (x_pick hw.1 [2, 3, 4, 5, 6, 7, 8] rfl)) ok_X2_whyRefused q473 rfl hl.1 rfl (Nat.le_of_ble_eq_true rfl) ⟨Nat.le_of_ble_eq_true rfl, Nat.le_of_ble_eq_true rfl⟩ ⟨Nat.le_of_ble_eq_true rfl, Nat.le_of_ble_eq_true rfl⟩ dX5_putBehind_8) ?_
  refine lv_if_eq (tgt := 24) hx hb dX5_putBehind_11 (by decide) (fun hc => ?_) (fun hc => ?_)
  · rw [if_pos hc] at hf
    refine lv_iload_n hx hb dX5_putBehind_24 rfl (lv_at hl 2 rfl) ?_
    refine lv_iload_n hx hb dX5_putBehind_25 rfl (lv_at hl 3 rfl) ?_
    refine lv_iload hx hb dX5_putBehind_26 (lv_at hl 4 rfl) ?_
    obtain ⟨z2, h, hf⟩ := bd_s hf
    refine x_ci (x_rS E (As := [.int p1, .int p2, .int p3]) (rest := []) (mt_X5_isThing l D I J O p1 p2 p3 z2 h) blR (x_pcR E x_none) ok_X5_isThing q455 rfl hl.1 rfl (Nat.le_of_ble_eq_true rfl) ⟨Nat.le_of_ble_eq_true rfl, Nat.le_of_ble_eq_true rfl⟩ ⟨Nat.le_of_ble_eq_true rfl, Nat.le_of_ble_eq_true rfl⟩ dX5_putBehind_28) ?_
    refine lv_if_ne (tgt := 44) hx hb dX5_putBehind_31 (by decide) (fun hc => ?_) (fun hc => ?_)
    · rw [if_neg hc] at hf
      refine lv_aload_n hx hb dX5_putBehind_44 rfl (lv_at hl 0 rfl) ?_
      refine x_get E hw.1 0 rfl rfl in5 0 (by decide) q131 rfl rfl dX5_putBehind_45 ?_
      refine x_getN E hw.1 1 rfl rfl in3 0 (by decide) E.2.2.2.2.2.1.2.2.1 rfl rfl dX5_putBehind_48 ?_
      refine lv_iload_n hx hb dX5_putBehind_51 rfl (lv_at hl 3 rfl) ?_
      obtain ⟨z3, h, hf⟩ := bd_s hf
      refine x_ci (x_rV E (As := [.int p2]) (rest := []) (mt_X2_lowestFor l D I J O (n 1) (n 2) (n 3) (n 4) (n 5) (n 6) (n 7) p2 x.1.1 z3 h) blR (x_recv E hw.1 2 2 rfl rfl rfl) (x_pcR E (x_pick hw.1 [2, 3, 4, 5, 6, 7, 8] rfl)) ok_X2_lowestFor q465 rfl hl.1 rfl (Nat.le_of_ble_eq_true rfl) ⟨Nat.le_of_ble_eq_true rfl, Nat.le_of_ble_eq_true rfl⟩ ⟨Nat.le_of_ble_eq_true rfl, Nat.le_of_ble_eq_true rfl⟩ dX5_putBehind_52) ?_
      refine lv_iconst (v := (-1)) hx hb dX5_putBehind_55 (by decide) ?_
      refine lv_icmp_ne (tgt := 69) hx hb dX5_putBehind_56 (by decide) (fun hc => ?_) (fun hc => ?_)
      · rw [if_neg hc] at hf
        refine lv_aload_n hx hb dX5_putBehind_69 rfl (lv_at hl 0 rfl) ?_
        refine x_get E hw.1 0 rfl rfl in5 2 (by decide) q133 rfl rfl dX5_putBehind_70 ?_
        refine lv_aload_n hx hb dX5_putBehind_73 rfl (lv_at hl 0 rfl) ?_
        refine x_get E hw.1 0 rfl rfl in5 0 (by decide) q131 rfl rfl dX5_putBehind_74 ?_
        obtain ⟨z4, h, hf⟩ := bd_s hf
        refine x_mvP hw [1, 2, 3, 4, 5, 6, 7, 8, 9, 10, 11, 12] rfl rfl (x_rV E (As := [.ref (n 0)]) (rest := []) (mt_X0_save l D I J O hh ha ad n s.heap.size x.2.2.1 x.1 z4 h) blM (x_recv E (x_lastpl hw.1) 0 0 rfl rfl rfl) (x_pcMP E hw [1, 2, 3, 4, 5, 6, 7, 8, 9, 10, 11, 12] rfl rfl) ok_X0_save q148 rfl hl.1 rfl (Nat.le_of_ble_eq_true rfl) ⟨Nat.le_of_ble_eq_true rfl, Nat.le_of_ble_eq_true rfl⟩ ⟨Nat.le_of_ble_eq_true rfl, Nat.le_of_ble_eq_true rfl⟩ dX5_putBehind_77) (fun _ => rfl) (fun ad5 H locs hw => ?_)
        have hw : fy D (va_A ws0 sz) s.heap H locs (wCl I h0 n t b0 b1 hh (x.1, x.2.1, z4, x.2.2.2) ++ wHi I O hh ha ad5 z4) := hw
        refine lv_aload_n hx hb dX5_putBehind_80 rfl (lv_at hl 0 rfl) ?_
        refine x_get E hw.1 0 rfl rfl in5 0 (by decide) q131 rfl rfl dX5_putBehind_81 ?_
        refine x_getN E hw.1 1 rfl rfl in3 1 (by decide) E.2.2.2.2.2.1.2.2.2.1 rfl rfl dX5_putBehind_84 ?_
        refine lv_iload_n hx hb dX5_putBehind_87 rfl (lv_at hl 1 rfl) ?_
        refine lv_sipush (v := 1000) hx hb dX5_putBehind_88 (by decide) ?_
        refine lv_idiv hx hb dX5_putBehind_91 (by decide) ?_
        obtain ⟨z6, h, hf⟩ := bd_s hf
        refine x_ci (x_rV E (As := [.int (p0 / 1000)]) (rest := []) (mt_X1_indexOf l D I J O (n 8) (n 9) (n 10) (p0 / 1000) x.1.2.1 z6 h) blR (x_recv E hw.1 9 1 rfl rfl rfl) (x_pcR E (x_pick hw.1 [9, 10, 11] rfl)) ok_X1_indexOf q497 rfl hl.1 rfl (Nat.le_of_ble_eq_true rfl) ⟨Nat.le_of_ble_eq_true rfl, Nat.le_of_ble_eq_true rfl⟩ ⟨Nat.le_of_ble_eq_true rfl, Nat.le_of_ble_eq_true rfl⟩ dX5_putBehind_92) ?_
        refine lv_iconst (v := 1) hx hb dX5_putBehind_95 (by decide) ?_
        refine lv_iadd hx hb dX5_putBehind_96 ?_
        refine lv_istore (lv' := [(5, .int (z6 + 1)), (0, .ref h0), (1, .int p0), (2, .int p1), (3, .int p2), (4, .int p3)]) hx hb dX5_putBehind_97 hl (by decide) rfl (fun ls hl => ?_)
        refine lv_aload_n hx hb dX5_putBehind_99 rfl (lv_at hl 1 rfl) ?_
        refine x_get E hw.1 0 rfl rfl in5 0 (by decide) q131 rfl rfl dX5_putBehind_100 ?_
        refine x_getN E hw.1 1 rfl rfl in3 0 (by decide) E.2.2.2.2.2.1.2.2.1 rfl rfl dX5_putBehind_103 ?_
        refine lv_aload_n hx hb dX5_putBehind_106 rfl (lv_at hl 1 rfl) ?_
        refine x_get E hw.1 0 rfl rfl in5 0 (by decide) q131 rfl rfl dX5_putBehind_107 ?_
        refine lv_iload hx hb dX5_putBehind_110 (lv_at hl 0 rfl) ?_
        refine lv_iload_n hx hb dX5_putBehind_112 rfl (lv_at hl 3 rfl) ?_
        refine lv_iload_n hx hb dX5_putBehind_113 rfl (lv_at hl 4 rfl) ?_
        refine lv_iload hx hb dX5_putBehind_114 (lv_at hl 5 rfl) ?_
        obtain ⟨z7, h, hf⟩ := bd_s hf
        refine x_mi hw [1, 2, 3, 4, 5, 6, 7, 8, 9, 10, 11, 12] rfl rfl (x_rV E (As := [.int (z6 + 1), .int p1, .int p2, .int p3]) (rest := [.ref (n 1)]) (mt_X3_addAt l D I J O n H.size (z6 + 1) p1 p2 p3 x.1 z7.1 z7.2 h) blM (x_recv E hw.1 1 3 rfl rfl rfl) (x_pcMQ E hw [1, 2, 3, 4, 5, 6, 7, 8, 9, 10, 11, 12] rfl rfl) ok_X3_addAt q468 rfl hl.1 rfl (Nat.le_of_ble_eq_true rfl) ⟨Nat.le_of_ble_eq_true rfl, Nat.le_of_ble_eq_true rfl⟩ ⟨Nat.le_of_ble_eq_true rfl, Nat.le_of_ble_eq_true rfl⟩ dX5_putBehind_116) (fun _ => rfl) (fun _ H locs hw => ?_)
        have hw : fy D (va_A ws0 sz) s.heap H locs (wCl I h0 n t b0 b1 hh (z7.2, x.2.1, z4, x.2.2.2) ++ wHi I O hh ha ad5 z4) := hw
        obtain ⟨z8, h, hf⟩ := bd_s hf
        refine x_ci (x_rV E (As := [.int z7.1]) (rest := []) (mt_X2_handleOf l D I J O (n 1) (n 2) (n 3) (n 4) (n 5) (n 6) (n 7) z7.1 z7.2.1 z8 h) blR (x_recv E hw.1 2 2 rfl rfl rfl) (x_pcR E (x_pick hw.1 [2, 3, 4, 5, 6, 7, 8] rfl)) ok_X2_handleOf q395 rfl hl.1 rfl (Nat.le_of_ble_eq_true rfl) ⟨Nat.le_of_ble_eq_true rfl, Nat.le_of_ble_eq_true rfl⟩ ⟨Nat.le_of_ble_eq_true rfl, Nat.le_of_ble_eq_true rfl⟩ dX5_putBehind_119) ?_
        obtain ⟨he0, hr⟩ := Prod.mk.inj (Sum.inr.inj (Option.some.inj hf))
        have he1 := hr
        subst he1
        exact x_iM E ad5 hw he0 dX5_putBehind_122
      · rw [if_pos hc] at hf
        cases hf
    · rw [if_pos hc] at hf
      cases hf
  · rw [if_neg hc] at hf
    cases hf
set_option maxRecDepth 100000 in
set_option maxHeartbeats 4000000 in
theorem mx_X5_putBehind (l : Launch) (hfl : l.stackTraces = false) (D : va_G) (I J O : ClassId) (h0 : Nat) (n t : Nat → Nat) (b0 b1 hh ha : Nat) (ad : Nat → Nat → Nat) (sz : Nat) (p0 : Int32) (p1 : Int32) (p2 : Int32) (p3 : Int32) (x : ClC) (ex : Nat) (hf : f_X5_putBehind p0 p1 p2 p3 x = some (.inl ex)) : mX l yX5_putBehind cX5_putBehind 6 (some .int) 6 94 D I J O sz [.ref h0, .int p0, .int p1, .int p2, .int p3] (wCl I h0 n t b0 b1 hh x ++ wHi I O hh ha ad x.2.2.1) (exn ex) := by
  refine mX_open (own := RX5) rfl (by decide +kernel) (Nat.le_of_ble_eq_true rfl) (fun p e s m below meth c ls E htab hX hsz hP hl => ?_)
  have hx := E.1
  have hb := E.2.1
  have hl : lv_has ls 6 [(0, .ref h0), (1, .int p0), (2, .int p1), (3, .int p2), (4, .int p3)] := hl
  unfold f_X5_putBehind at hf
  refine lv_aload_n hx hb dX5_putBehind_0 rfl (lv_at hl 0 rfl) ?_
  refine x_get E hP 0 rfl rfl in5 0 (by decide) q131 rfl rfl dX5_putBehind_1 ?_
  refine x_getN E hP 1 rfl rfl in3 0 (by decide) E.2.2.2.2.2.1.2.2.1 rfl rfl dX5_putBehind_4 ?_
  refine lv_iload_n hx hb dX5_putBehind_7 rfl (lv_at hl 1 rfl) ?_
  obtain ⟨z1, h, hf⟩ := bd_s hf
  refine x_ci (x_rV E (As := [.int p0]) (rest := []) (mt_X2_whyRefused l D I J O (n 1) (n 2) (n 3) (n 4) (n 5) (n 6) (n 7) p0 x.1.1 z1 h) blR (x_recv E hP 2 2 rfl rfl rfl) (x_pcR E (x_pick hP [2, 3, 4, 5, 6, 7, 8] rfl)) ok_X2_whyRefused q473 rfl hl.1 rfl (Nat.le_of_ble_eq_true rfl) ⟨Nat.le_of_ble_eq_true rfl, Nat.le_of_ble_eq_true rfl⟩ ⟨Nat.le_of_ble_eq_true rfl, Nat.le_of_ble_eq_true rfl⟩ dX5_putBehind_8) ?_
  refine lv_if_eq (tgt := 24) hx hb dX5_putBehind_11 (by decide) (fun hc => ?_) (fun hc => ?_)
  · rw [if_pos hc] at hf
    refine lv_iload_n hx hb dX5_putBehind_24 rfl (lv_at hl 2 rfl) ?_
    refine lv_iload_n hx hb dX5_putBehind_25 rfl (lv_at hl 3 rfl) ?_
    refine lv_iload hx hb dX5_putBehind_26 (lv_at hl 4 rfl) ?_
    obtain ⟨z2, h, hf⟩ := bd_s hf
    refine x_ci (x_rS E (As := [.int p1, .int p2, .int p3]) (rest := []) (mt_X5_isThing l D I J O p1 p2 p3 z2 h) blR (x_pcR E x_none) ok_X5_isThing q455 rfl hl.1 rfl (Nat.le_of_ble_eq_true rfl) ⟨Nat.le_of_ble_eq_true rfl, Nat.le_of_ble_eq_true rfl⟩ ⟨Nat.le_of_ble_eq_true rfl, Nat.le_of_ble_eq_true rfl⟩ dX5_putBehind_28) ?_
    refine lv_if_ne (tgt := 44) hx hb dX5_putBehind_31 (by decide) (fun hc => ?_) (fun hc => ?_)
    · rw [if_neg hc] at hf
      refine lv_aload_n hx hb dX5_putBehind_44 rfl (lv_at hl 0 rfl) ?_
      refine x_get E hP 0 rfl rfl in5 0 (by decide) q131 rfl rfl dX5_putBehind_45 ?_
      refine x_getN E hP 1 rfl rfl in3 0 (by decide) E.2.2.2.2.2.1.2.2.1 rfl rfl dX5_putBehind_48 ?_
      refine lv_iload_n hx hb dX5_putBehind_51 rfl (lv_at hl 3 rfl) ?_
      obtain ⟨z3, h, hf⟩ := bd_s hf
      refine x_ci (x_rV E (As := [.int p2]) (rest := []) (mt_X2_lowestFor l D I J O (n 1) (n 2) (n 3) (n 4) (n 5) (n 6) (n 7) p2 x.1.1 z3 h) blR (x_recv E hP 2 2 rfl rfl rfl) (x_pcR E (x_pick hP [2, 3, 4, 5, 6, 7, 8] rfl)) ok_X2_lowestFor q465 rfl hl.1 rfl (Nat.le_of_ble_eq_true rfl) ⟨Nat.le_of_ble_eq_true rfl, Nat.le_of_ble_eq_true rfl⟩ ⟨Nat.le_of_ble_eq_true rfl, Nat.le_of_ble_eq_true rfl⟩ dX5_putBehind_52) ?_
      refine lv_iconst (v := (-1)) hx hb dX5_putBehind_55 (by decide) ?_
      refine lv_icmp_ne (tgt := 69) hx hb dX5_putBehind_56 (by decide) (fun hc => ?_) (fun hc => ?_)
      · rw [if_neg hc] at hf
        refine lv_aload_n hx hb dX5_putBehind_69 rfl (lv_at hl 0 rfl) ?_
        refine x_get E hP 0 rfl rfl in5 2 (by decide) q133 rfl rfl dX5_putBehind_70 ?_
        refine lv_aload_n hx hb dX5_putBehind_73 rfl (lv_at hl 0 rfl) ?_
        refine x_get E hP 0 rfl rfl in5 0 (by decide) q131 rfl rfl dX5_putBehind_74 ?_
        obtain ⟨z4, h, hf⟩ := bd_s hf
        obtain ⟨z5, h, hf⟩ := bd_s hf
        obtain ⟨z6, h, hf⟩ := bd_s hf
        obtain ⟨z7, h, hf⟩ := bd_s hf
        cases hf
      · rw [if_pos hc] at hf
        have he := Sum.inl.inj (Option.some.inj hf)
        subst he
        exact x_thr (en := "java/lang/IllegalStateException") (text := "there is no room") E htab hfl hX hl.1 hsz (by decide +kernel) q299 q11 (by decide) xg2 xn2 xo2 hX.2.2.1.2.1 dX5_putBehind_59 dX5_putBehind_62 dX5_putBehind_63 dX5_putBehind_65 dX5_putBehind_68 (Nat.le_of_ble_eq_true rfl) (Nat.le_of_ble_eq_true rfl)
    · rw [if_pos hc] at hf
      have he := Sum.inl.inj (Option.some.inj hf)
      subst he
      exact x_thr (en := "java/lang/IllegalArgumentException") (text := "value, size or kind is out of range") E htab hfl hX hl.1 hsz (by decide +kernel) q375 q10 (by decide) xg1 xn1 xo1 hX.2.2.1.1 dX5_putBehind_34 dX5_putBehind_37 dX5_putBehind_38 dX5_putBehind_40 dX5_putBehind_43 (Nat.le_of_ble_eq_true rfl) (Nat.le_of_ble_eq_true rfl)
  · rw [if_neg hc] at hf
    have he := Sum.inl.inj (Option.some.inj hf)
    subst he
    exact x_thr (en := "java/lang/IndexOutOfBoundsException") (text := "the handle is refused") E htab hfl hX hl.1 hsz (by decide +kernel) q481 q13 (by decide) xg3 xn3 xo3 hX.2.2.1.2.2 dX5_putBehind_14 dX5_putBehind_17 dX5_putBehind_18 dX5_putBehind_20 dX5_putBehind_23 (Nat.le_of_ble_eq_true rfl) (Nat.le_of_ble_eq_true rfl)
theorem ok_X5_remove : yV yX5_remove cX5_remove 4 (some .int) 1 := ⟨q501, q1, q499, q500, by decide +kernel, by decide +kernel, by decide +kernel⟩
set_option maxRecDepth 100000 in
set_option maxHeartbeats 4000000 in
theorem mt_X5_remove (l : Launch) (D : va_G) (I J O : ClassId) (h0 : Nat) (n t : Nat → Nat) (b0 b1 hh ha : Nat) (ad : Nat → Nat → Nat) (sz : Nat) (p0 : Int32) (x : ClC) (r : Int32) (y0 : ClC) (hf : f_X5_remove p0 x = some (.inr (r, y0))) : mM l yX5_remove cX5_remove 4 (some .int) 5 107 0 0 D I J O sz [.ref h0, .int p0] (wCl I h0 n t b0 b1 hh x ++ wHi I O hh ha ad x.2.2.1) (qMi D sz (wCl I h0 n t b0 b1 hh x ++ wHi I O hh ha ad x.2.2.1) r (fun ad9 : Nat → Nat → Nat => wCl I h0 n t b0 b1 hh y0 ++ wHi I O hh ha ad9 y0.2.2.1)) := by
  refine mM_open (own := RX5) rfl (by decide +kernel) (Nat.le_of_ble_eq_true rfl) (fun p e s m below meth c ls E hnm hsz hw hl => ?_)
  obtain ⟨ws0, hws⟩ : ∃ ws0 : va_W, ws0 = wCl I h0 n t b0 b1 hh x ++ wHi I O hh ha ad x.2.2.1 := ⟨_, rfl⟩
  have hw : fy D (va_A ws0 sz) s.heap s.heap [] (wCl I h0 n t b0 b1 hh x ++ wHi I O hh ha ad x.2.2.1) := by rw [hws]; exact hw
  rw [← hws]
  have hx := E.1
  have hb := E.2.1
  have hl : lv_has ls 4 [(0, .ref h0), (1, .int p0)] := hl
  unfold f_X5_remove at hf
  refine lv_aload_n hx hb dX5_remove_0 rfl (lv_at hl 0 rfl) ?_
  refine x_get E hw.1 0 rfl rfl in5 0 (by decide) q131 rfl rfl dX5_remove_1 ?_
  refine x_getN E hw.1 1 rfl rfl in3 0 (by decide) E.2.2.2.2.2.1.2.2.1 rfl rfl dX5_remove_4 ?_
  refine lv_iload_n hx hb dX5_remove_7 rfl (lv_at hl 1 rfl) ?_
  obtain ⟨z1, h, hf⟩ := bd_s hf
  refine x_ci (x_rV E (As := [.int p0]) (rest := []) (mt_X2_whyRefused l D I J O (n 1) (n 2) (n 3) (n 4) (n 5) (n 6) (n 7) p0 x.1.1 z1 h) blR (x_recv E hw.1 2 2 rfl rfl rfl) (x_pcR E (x_pick hw.1 [2, 3, 4, 5, 6, 7, 8] rfl)) ok_X2_whyRefused q473 rfl hl.1 rfl (Nat.le_of_ble_eq_true rfl) ⟨Nat.le_of_ble_eq_true rfl, Nat.le_of_ble_eq_true rfl⟩ ⟨Nat.le_of_ble_eq_true rfl, Nat.le_of_ble_eq_true rfl⟩ dX5_remove_8) ?_
  refine lv_if_eq (tgt := 24) hx hb dX5_remove_11 (by decide) (fun hc => ?_) (fun hc => ?_)
  · rw [if_pos hc] at hf
    refine lv_iload_n hx hb dX5_remove_24 rfl (lv_at hl 1 rfl) ?_
    refine lv_sipush (v := 1000) hx hb dX5_remove_25 (by decide) ?_
    refine lv_idiv hx hb dX5_remove_28 (by decide) ?_
    refine lv_istore_n (lv' := [(2, .int (p0 / 1000)), (0, .ref h0), (1, .int p0)]) hx hb dX5_remove_29 rfl hl (by decide) rfl (fun ls hl => ?_)
    refine lv_aload_n hx hb dX5_remove_30 rfl (lv_at hl 1 rfl) ?_
    refine x_get E hw.1 0 rfl rfl in5 0 (by decide) q131 rfl rfl dX5_remove_31 ?_
    refine x_getN E hw.1 1 rfl rfl in3 0 (by decide) E.2.2.2.2.2.1.2.2.1 rfl rfl dX5_remove_34 ?_
    refine lv_iload_n hx hb dX5_remove_37 rfl (lv_at hl 0 rfl) ?_
    obtain ⟨z2, h, hf⟩ := bd_s hf
    refine x_ci (x_rV E (As := [.int (p0 / 1000)]) (rest := []) (mt_X2_valueAt l D I J O (n 1) (n 2) (n 3) (n 4) (n 5) (n 6) (n 7) (p0 / 1000) x.1.1 z2 h) blR (x_recv E hw.1 2 2 rfl rfl rfl) (x_pcR E (x_pick hw.1 [2, 3, 4, 5, 6, 7, 8] rfl)) ok_X2_valueAt q502 rfl hl.1 rfl (Nat.le_of_ble_eq_true rfl) ⟨Nat.le_of_ble_eq_true rfl, Nat.le_of_ble_eq_true rfl⟩ ⟨Nat.le_of_ble_eq_true rfl, Nat.le_of_ble_eq_true rfl⟩ dX5_remove_38) ?_
    refine lv_istore_n (lv' := [(3, .int z2), (2, .int (p0 / 1000)), (0, .ref h0), (1, .int p0)]) hx hb dX5_remove_41 rfl hl (by decide) rfl (fun ls hl => ?_)
    refine lv_aload_n hx hb dX5_remove_42 rfl (lv_at hl 2 rfl) ?_
    refine x_get E hw.1 0 rfl rfl in5 2 (by decide) q133 rfl rfl dX5_remove_43 ?_
    refine lv_aload_n hx hb dX5_remove_46 rfl (lv_at hl 2 rfl) ?_
    refine x_get E hw.1 0 rfl rfl in5 0 (by decide) q131 rfl rfl dX5_remove_47 ?_
    obtain ⟨z3, h, hf⟩ := bd_s hf
    refine x_mvP hw [1, 2, 3, 4, 5, 6, 7, 8, 9, 10, 11, 12] rfl rfl (x_rV E (As := [.ref (n 0)]) (rest := []) (mt_X0_save l D I J O hh ha ad n s.heap.size x.2.2.1 x.1 z3 h) blM (x_recv E (x_lastpl hw.1) 0 0 rfl rfl rfl) (x_pcMP E hw [1, 2, 3, 4, 5, 6, 7, 8, 9, 10, 11, 12] rfl rfl) ok_X0_save q148 rfl hl.1 rfl (Nat.le_of_ble_eq_true rfl) ⟨Nat.le_of_ble_eq_true rfl, Nat.le_of_ble_eq_true rfl⟩ ⟨Nat.le_of_ble_eq_true rfl, Nat.le_of_ble_eq_true rfl⟩ dX5_remove_50) (fun _ => rfl) (fun ad4 H locs hw => ?_)
    have hw : fy D (va_A ws0 sz) s.heap H locs (wCl I h0 n t b0 b1 hh (x.1, x.2.1, z3, x.2.2.2) ++ wHi I O hh ha ad4 z3) := hw
    refine lv_aload_n hx hb dX5_remove_53 rfl (lv_at hl 2 rfl) ?_
    refine x_get E hw.1 0 rfl rfl in5 0 (by decide) q131 rfl rfl dX5_remove_54 ?_
    refine lv_iload_n hx hb dX5_remove_57 rfl (lv_at hl 1 rfl) ?_
    obtain ⟨z5, h, hf⟩ := bd_s hf
    refine x_mv hw [1, 2, 3, 4, 5, 6, 7, 8, 9, 10, 11, 12] rfl rfl (x_rV E (As := [.int (p0 / 1000)]) (rest := []) (mt_X3_drop l D I J O n H.size (p0 / 1000) x.1 z5 h) blM (x_recv E hw.1 1 3 rfl rfl rfl) (x_pcMQ E hw [1, 2, 3, 4, 5, 6, 7, 8, 9, 10, 11, 12] rfl rfl) ok_X3_drop q503 rfl hl.1 rfl (Nat.le_of_ble_eq_true rfl) ⟨Nat.le_of_ble_eq_true rfl, Nat.le_of_ble_eq_true rfl⟩ ⟨Nat.le_of_ble_eq_true rfl, Nat.le_of_ble_eq_true rfl⟩ dX5_remove_58) (fun _ => rfl) (fun _ H locs hw => ?_)
    have hw : fy D (va_A ws0 sz) s.heap H locs (wCl I h0 n t b0 b1 hh (z5, x.2.1, z3, x.2.2.2) ++ wHi I O hh ha ad4 z3) := hw
    refine lv_iload_n hx hb dX5_remove_61 rfl (lv_at hl 0 rfl) ?_
    obtain ⟨he0, hr⟩ := Prod.mk.inj (Sum.inr.inj (Option.some.inj hf))
    have he1 := hr
    subst he1
    exact x_iM E ad4 hw he0 dX5_remove_62
  · rw [if_neg hc] at hf
    cases hf
set_option maxRecDepth 100000 in
set_option maxHeartbeats 4000000 in
theorem mx_X5_remove (l : Launch) (hfl : l.stackTraces = false) (D : va_G) (I J O : ClassId) (h0 : Nat) (n t : Nat → Nat) (b0 b1 hh ha : Nat) (ad : Nat → Nat → Nat) (sz : Nat) (p0 : Int32) (x : ClC) (ex : Nat) (hf : f_X5_remove p0 x = some (.inl ex)) : mX l yX5_remove cX5_remove 4 (some .int) 6 107 D I J O sz [.ref h0, .int p0] (wCl I h0 n t b0 b1 hh x ++ wHi I O hh ha ad x.2.2.1) (exn ex) := by
  refine mX_open (own := RX5) rfl (by decide +kernel) (Nat.le_of_ble_eq_true rfl) (fun p e s m below meth c ls E htab hX hsz hP hl => ?_)
  have hx := E.1
  have hb := E.2.1
  have hl : lv_has ls 4 [(0, .ref h0), (1, .int p0)] := hl
  unfold f_X5_remove at hf
  refine lv_aload_n hx hb dX5_remove_0 rfl (lv_at hl 0 rfl) ?_
  refine x_get E hP 0 rfl rfl in5 0 (by decide) q131 rfl rfl dX5_remove_1 ?_
  refine x_getN E hP 1 rfl rfl in3 0 (by decide) E.2.2.2.2.2.1.2.2.1 rfl rfl dX5_remove_4 ?_
  refine lv_iload_n hx hb dX5_remove_7 rfl (lv_at hl 1 rfl) ?_
  obtain ⟨z1, h, hf⟩ := bd_s hf
  refine x_ci (x_rV E (As := [.int p0]) (rest := []) (mt_X2_whyRefused l D I J O (n 1) (n 2) (n 3) (n 4) (n 5) (n 6) (n 7) p0 x.1.1 z1 h) blR (x_recv E hP 2 2 rfl rfl rfl) (x_pcR E (x_pick hP [2, 3, 4, 5, 6, 7, 8] rfl)) ok_X2_whyRefused q473 rfl hl.1 rfl (Nat.le_of_ble_eq_true rfl) ⟨Nat.le_of_ble_eq_true rfl, Nat.le_of_ble_eq_true rfl⟩ ⟨Nat.le_of_ble_eq_true rfl, Nat.le_of_ble_eq_true rfl⟩ dX5_remove_8) ?_
  refine lv_if_eq (tgt := 24) hx hb dX5_remove_11 (by decide) (fun hc => ?_) (fun hc => ?_)
  · rw [if_pos hc] at hf
    refine lv_iload_n hx hb dX5_remove_24 rfl (lv_at hl 1 rfl) ?_
    refine lv_sipush (v := 1000) hx hb dX5_remove_25 (by decide) ?_
    refine lv_idiv hx hb dX5_remove_28 (by decide) ?_
    refine lv_istore_n (lv' := [(2, .int (p0 / 1000)), (0, .ref h0), (1, .int p0)]) hx hb dX5_remove_29 rfl hl (by decide) rfl (fun ls hl => ?_)
    refine lv_aload_n hx hb dX5_remove_30 rfl (lv_at hl 1 rfl) ?_
    refine x_get E hP 0 rfl rfl in5 0 (by decide) q131 rfl rfl dX5_remove_31 ?_
    refine x_getN E hP 1 rfl rfl in3 0 (by decide) E.2.2.2.2.2.1.2.2.1 rfl rfl dX5_remove_34 ?_
    refine lv_iload_n hx hb dX5_remove_37 rfl (lv_at hl 0 rfl) ?_
    obtain ⟨z2, h, hf⟩ := bd_s hf
    refine x_ci (x_rV E (As := [.int (p0 / 1000)]) (rest := []) (mt_X2_valueAt l D I J O (n 1) (n 2) (n 3) (n 4) (n 5) (n 6) (n 7) (p0 / 1000) x.1.1 z2 h) blR (x_recv E hP 2 2 rfl rfl rfl) (x_pcR E (x_pick hP [2, 3, 4, 5, 6, 7, 8] rfl)) ok_X2_valueAt q502 rfl hl.1 rfl (Nat.le_of_ble_eq_true rfl) ⟨Nat.le_of_ble_eq_true rfl, Nat.le_of_ble_eq_true rfl⟩ ⟨Nat.le_of_ble_eq_true rfl, Nat.le_of_ble_eq_true rfl⟩ dX5_remove_38) ?_
    refine lv_istore_n (lv' := [(3, .int z2), (2, .int (p0 / 1000)), (0, .ref h0), (1, .int p0)]) hx hb dX5_remove_41 rfl hl (by decide) rfl (fun ls hl => ?_)
    refine lv_aload_n hx hb dX5_remove_42 rfl (lv_at hl 2 rfl) ?_
    refine x_get E hP 0 rfl rfl in5 2 (by decide) q133 rfl rfl dX5_remove_43 ?_
    refine lv_aload_n hx hb dX5_remove_46 rfl (lv_at hl 2 rfl) ?_
    refine x_get E hP 0 rfl rfl in5 0 (by decide) q131 rfl rfl dX5_remove_47 ?_
    obtain ⟨z3, h, hf⟩ := bd_s hf
    obtain ⟨z4, h, hf⟩ := bd_s hf
    cases hf
  · rw [if_neg hc] at hf
    have he := Sum.inl.inj (Option.some.inj hf)
    subst he
    exact x_thr (en := "java/lang/IndexOutOfBoundsException") (text := "the handle is refused") E htab hfl hX hl.1 hsz (by decide +kernel) q481 q13 (by decide) xg3 xn3 xo3 hX.2.2.1.2.2 dX5_remove_14 dX5_remove_17 dX5_remove_18 dX5_remove_20 dX5_remove_23 (Nat.le_of_ble_eq_true rfl) (Nat.le_of_ble_eq_true rfl)
theorem ok_X5_change : yV yX5_change cX5_change 5 (some .int) 2 := ⟨q507, q1, q505, q506, by decide +kernel, by decide +kernel, by decide +kernel⟩
set_option maxRecDepth 100000 in
set_option maxHeartbeats 4000000 in
theorem mt_X5_change (l : Launch) (D : va_G) (I J O : ClassId) (h0 : Nat) (n t : Nat → Nat) (b0 b1 hh ha : Nat) (ad : Nat → Nat → Nat) (sz : Nat) (p0 : Int32) (p1 : Int32) (x : ClC) (r : Int32) (y0 : ClC) (hf : f_X5_change p0 p1 x = some (.inr (r, y0))) : mM l yX5_change cX5_change 5 (some .int) 4 82 0 0 D I J O sz [.ref h0, .int p0, .int p1] (wCl I h0 n t b0 b1 hh x ++ wHi I O hh ha ad x.2.2.1) (qMi D sz (wCl I h0 n t b0 b1 hh x ++ wHi I O hh ha ad x.2.2.1) r (fun ad9 : Nat → Nat → Nat => wCl I h0 n t b0 b1 hh y0 ++ wHi I O hh ha ad9 y0.2.2.1)) := by
  refine mM_open (own := RX5) rfl (by decide +kernel) (Nat.le_of_ble_eq_true rfl) (fun p e s m below meth c ls E hnm hsz hw hl => ?_)
  obtain ⟨ws0, hws⟩ : ∃ ws0 : va_W, ws0 = wCl I h0 n t b0 b1 hh x ++ wHi I O hh ha ad x.2.2.1 := ⟨_, rfl⟩
  have hw : fy D (va_A ws0 sz) s.heap s.heap [] (wCl I h0 n t b0 b1 hh x ++ wHi I O hh ha ad x.2.2.1) := by rw [hws]; exact hw
  rw [← hws]
  have hx := E.1
  have hb := E.2.1
  have hl : lv_has ls 5 [(0, .ref h0), (1, .int p0), (2, .int p1)] := hl
  unfold f_X5_change at hf
  refine lv_aload_n hx hb dX5_change_0 rfl (lv_at hl 0 rfl) ?_
  refine x_get E hw.1 0 rfl rfl in5 0 (by decide) q131 rfl rfl dX5_change_1 ?_
  refine x_getN E hw.1 1 rfl rfl in3 0 (by decide) E.2.2.2.2.2.1.2.2.1 rfl rfl dX5_change_4 ?_
  refine lv_iload_n hx hb dX5_change_7 rfl (lv_at hl 1 rfl) ?_
  obtain ⟨z1, h, hf⟩ := bd_s hf
  refine x_ci (x_rV E (As := [.int p0]) (rest := []) (mt_X2_whyRefused l D I J O (n 1) (n 2) (n 3) (n 4) (n 5) (n 6) (n 7) p0 x.1.1 z1 h) blR (x_recv E hw.1 2 2 rfl rfl rfl) (x_pcR E (x_pick hw.1 [2, 3, 4, 5, 6, 7, 8] rfl)) ok_X2_whyRefused q473 rfl hl.1 rfl (Nat.le_of_ble_eq_true rfl) ⟨Nat.le_of_ble_eq_true rfl, Nat.le_of_ble_eq_true rfl⟩ ⟨Nat.le_of_ble_eq_true rfl, Nat.le_of_ble_eq_true rfl⟩ dX5_change_8) ?_
  refine lv_if_eq (tgt := 24) hx hb dX5_change_11 (by decide) (fun hc => ?_) (fun hc => ?_)
  · rw [if_pos hc] at hf
    refine lv_iload_n hx hb dX5_change_24 rfl (lv_at hl 2 rfl) ?_
    obtain ⟨z2, h, hf⟩ := bd_s hf
    refine x_ci (x_rS E (As := [.int p1]) (rest := []) (mt_X5_isValue l D I J O p1 z2 h) blR (x_pcR E x_none) ok_X5_isValue q458 rfl hl.1 rfl (Nat.le_of_ble_eq_true rfl) ⟨Nat.le_of_ble_eq_true rfl, Nat.le_of_ble_eq_true rfl⟩ ⟨Nat.le_of_ble_eq_true rfl, Nat.le_of_ble_eq_true rfl⟩ dX5_change_25) ?_
    refine lv_if_ne (tgt := 41) hx hb dX5_change_28 (by decide) (fun hc => ?_) (fun hc => ?_)
    · rw [if_neg hc] at hf
      refine lv_iload_n hx hb dX5_change_41 rfl (lv_at hl 1 rfl) ?_
      refine lv_sipush (v := 1000) hx hb dX5_change_42 (by decide) ?_
      refine lv_idiv hx hb dX5_change_45 (by decide) ?_
      refine lv_istore_n (lv' := [(3, .int (p0 / 1000)), (0, .ref h0), (1, .int p0), (2, .int p1)]) hx hb dX5_change_46 rfl hl (by decide) rfl (fun ls hl => ?_)
      refine lv_aload_n hx hb dX5_change_47 rfl (lv_at hl 1 rfl) ?_
      refine x_get E hw.1 0 rfl rfl in5 0 (by decide) q131 rfl rfl dX5_change_48 ?_
      refine x_getN E hw.1 1 rfl rfl in3 0 (by decide) E.2.2.2.2.2.1.2.2.1 rfl rfl dX5_change_51 ?_
      refine lv_iload_n hx hb dX5_change_54 rfl (lv_at hl 0 rfl) ?_
      obtain ⟨z3, h, hf⟩ := bd_s hf
      refine x_ci (x_rV E (As := [.int (p0 / 1000)]) (rest := []) (mt_X2_valueAt l D I J O (n 1) (n 2) (n 3) (n 4) (n 5) (n 6) (n 7) (p0 / 1000) x.1.1 z3 h) blR (x_recv E hw.1 2 2 rfl rfl rfl) (x_pcR E (x_pick hw.1 [2, 3, 4, 5, 6, 7, 8] rfl)) ok_X2_valueAt q502 rfl hl.1 rfl (Nat.le_of_ble_eq_true rfl) ⟨Nat.le_of_ble_eq_true rfl, Nat.le_of_ble_eq_true rfl⟩ ⟨Nat.le_of_ble_eq_true rfl, Nat.le_of_ble_eq_true rfl⟩ dX5_change_55) ?_
      refine lv_istore (lv' := [(4, .int z3), (3, .int (p0 / 1000)), (0, .ref h0), (1, .int p0), (2, .int p1)]) hx hb dX5_change_58 hl (by decide) rfl (fun ls hl => ?_)
      refine lv_aload_n hx hb dX5_change_60 rfl (lv_at hl 2 rfl) ?_
      refine x_get E hw.1 0 rfl rfl in5 2 (by decide) q133 rfl rfl dX5_change_61 ?_
      refine lv_aload_n hx hb dX5_change_64 rfl (lv_at hl 2 rfl) ?_
      refine x_get E hw.1 0 rfl rfl in5 0 (by decide) q131 rfl rfl dX5_change_65 ?_
      obtain ⟨z4, h, hf⟩ := bd_s hf
      refine x_mvP hw [1, 2, 3, 4, 5, 6, 7, 8, 9, 10, 11, 12] rfl rfl (x_rV E (As := [.ref (n 0)]) (rest := []) (mt_X0_save l D I J O hh ha ad n s.heap.size x.2.2.1 x.1 z4 h) blM (x_recv E (x_lastpl hw.1) 0 0 rfl rfl rfl) (x_pcMP E hw [1, 2, 3, 4, 5, 6, 7, 8, 9, 10, 11, 12] rfl rfl) ok_X0_save q148 rfl hl.1 rfl (Nat.le_of_ble_eq_true rfl) ⟨Nat.le_of_ble_eq_true rfl, Nat.le_of_ble_eq_true rfl⟩ ⟨Nat.le_of_ble_eq_true rfl, Nat.le_of_ble_eq_true rfl⟩ dX5_change_68) (fun _ => rfl) (fun ad5 H locs hw => ?_)
      have hw : fy D (va_A ws0 sz) s.heap H locs (wCl I h0 n t b0 b1 hh (x.1, x.2.1, z4, x.2.2.2) ++ wHi I O hh ha ad5 z4) := hw
      refine lv_aload_n hx hb dX5_change_71 rfl (lv_at hl 2 rfl) ?_
      refine x_get E hw.1 0 rfl rfl in5 0 (by decide) q131 rfl rfl dX5_change_72 ?_
      refine x_getN E hw.1 1 rfl rfl in3 0 (by decide) E.2.2.2.2.2.1.2.2.1 rfl rfl dX5_change_75 ?_
      refine lv_iload_n hx hb dX5_change_78 rfl (lv_at hl 1 rfl) ?_
      refine lv_iload_n hx hb dX5_change_79 rfl (lv_at hl 4 rfl) ?_
      obtain ⟨z6, h, hf⟩ := bd_s hf
      refine x_mv hw [2, 3, 4, 5, 6, 7, 8] rfl rfl (x_rV E (As := [.int (p0 / 1000), .int p1]) (rest := []) (mt_X2_setValue l D I J O (n 1) (n 2) (n 3) (n 4) (n 5) (n 6) (n 7) H.size (p0 / 1000) p1 x.1.1 z6 h) blM (x_recv E hw.1 2 2 rfl rfl rfl) (x_pcMQ E hw [2, 3, 4, 5, 6, 7, 8] rfl rfl) ok_X2_setValue q509 rfl hl.1 rfl (Nat.le_of_ble_eq_true rfl) ⟨Nat.le_of_ble_eq_true rfl, Nat.le_of_ble_eq_true rfl⟩ ⟨Nat.le_of_ble_eq_true rfl, Nat.le_of_ble_eq_true rfl⟩ dX5_change_80) (fun _ => rfl) (fun _ H locs hw => ?_)
      have hw : fy D (va_A ws0 sz) s.heap H locs (wCl I h0 n t b0 b1 hh ((z6, x.1.2), x.2.1, z4, x.2.2.2) ++ wHi I O hh ha ad5 z4) := hw
      refine lv_iload hx hb dX5_change_83 (lv_at hl 0 rfl) ?_
      obtain ⟨he0, hr⟩ := Prod.mk.inj (Sum.inr.inj (Option.some.inj hf))
      have he1 := hr
      subst he1
      exact x_iM E ad5 hw he0 dX5_change_85
    · rw [if_pos hc] at hf
      cases hf
  · rw [if_neg hc] at hf
    cases hf
set_option maxRecDepth 100000 in
set_option maxHeartbeats 4000000 in
theorem mx_X5_change (l : Launch) (hfl : l.stackTraces = false) (D : va_G) (I J O : ClassId) (h0 : Nat) (n t : Nat → Nat) (b0 b1 hh ha : Nat) (ad : Nat → Nat → Nat) (sz : Nat) (p0 : Int32) (p1 : Int32) (x : ClC) (ex : Nat) (hf : f_X5_change p0 p1 x = some (.inl ex)) : mX l yX5_change cX5_change 5 (some .int) 6 82 D I J O sz [.ref h0, .int p0, .int p1] (wCl I h0 n t b0 b1 hh x ++ wHi I O hh ha ad x.2.2.1) (exn ex) := by
  refine mX_open (own := RX5) rfl (by decide +kernel) (Nat.le_of_ble_eq_true rfl) (fun p e s m below meth c ls E htab hX hsz hP hl => ?_)
  have hx := E.1
  have hb := E.2.1
  have hl : lv_has ls 5 [(0, .ref h0), (1, .int p0), (2, .int p1)] := hl
  unfold f_X5_change at hf
  refine lv_aload_n hx hb dX5_change_0 rfl (lv_at hl 0 rfl) ?_
  refine x_get E hP 0 rfl rfl in5 0 (by decide) q131 rfl rfl dX5_change_1 ?_
  refine x_getN E hP 1 rfl rfl in3 0 (by decide) E.2.2.2.2.2.1.2.2.1 rfl rfl dX5_change_4 ?_
  refine lv_iload_n hx hb dX5_change_7 rfl (lv_at hl 1 rfl) ?_
  obtain ⟨z1, h, hf⟩ := bd_s hf
  refine x_ci (x_rV E (As := [.int p0]) (rest := []) (mt_X2_whyRefused l D I J O (n 1) (n 2) (n 3) (n 4) (n 5) (n 6) (n 7) p0 x.1.1 z1 h) blR (x_recv E hP 2 2 rfl rfl rfl) (x_pcR E (x_pick hP [2, 3, 4, 5, 6, 7, 8] rfl)) ok_X2_whyRefused q473 rfl hl.1 rfl (Nat.le_of_ble_eq_true rfl) ⟨Nat.le_of_ble_eq_true rfl, Nat.le_of_ble_eq_true rfl⟩ ⟨Nat.le_of_ble_eq_true rfl, Nat.le_of_ble_eq_true rfl⟩ dX5_change_8) ?_
  refine lv_if_eq (tgt := 24) hx hb dX5_change_11 (by decide) (fun hc => ?_) (fun hc => ?_)
  · rw [if_pos hc] at hf
    refine lv_iload_n hx hb dX5_change_24 rfl (lv_at hl 2 rfl) ?_
    obtain ⟨z2, h, hf⟩ := bd_s hf
    refine x_ci (x_rS E (As := [.int p1]) (rest := []) (mt_X5_isValue l D I J O p1 z2 h) blR (x_pcR E x_none) ok_X5_isValue q458 rfl hl.1 rfl (Nat.le_of_ble_eq_true rfl) ⟨Nat.le_of_ble_eq_true rfl, Nat.le_of_ble_eq_true rfl⟩ ⟨Nat.le_of_ble_eq_true rfl, Nat.le_of_ble_eq_true rfl⟩ dX5_change_25) ?_
    refine lv_if_ne (tgt := 41) hx hb dX5_change_28 (by decide) (fun hc => ?_) (fun hc => ?_)
    · rw [if_neg hc] at hf
      refine lv_iload_n hx hb dX5_change_41 rfl (lv_at hl 1 rfl) ?_
      refine lv_sipush (v := 1000) hx hb dX5_change_42 (by decide) ?_
      refine lv_idiv hx hb dX5_change_45 (by decide) ?_
      refine lv_istore_n (lv' := [(3, .int (p0 / 1000)), (0, .ref h0), (1, .int p0), (2, .int p1)]) hx hb dX5_change_46 rfl hl (by decide) rfl (fun ls hl => ?_)
      refine lv_aload_n hx hb dX5_change_47 rfl (lv_at hl 1 rfl) ?_
      refine x_get E hP 0 rfl rfl in5 0 (by decide) q131 rfl rfl dX5_change_48 ?_
      refine x_getN E hP 1 rfl rfl in3 0 (by decide) E.2.2.2.2.2.1.2.2.1 rfl rfl dX5_change_51 ?_
      refine lv_iload_n hx hb dX5_change_54 rfl (lv_at hl 0 rfl) ?_
      obtain ⟨z3, h, hf⟩ := bd_s hf
      refine x_ci (x_rV E (As := [.int (p0 / 1000)]) (rest := []) (mt_X2_valueAt l D I J O (n 1) (n 2) (n 3) (n 4) (n 5) (n 6) (n 7) (p0 / 1000) x.1.1 z3 h) blR (x_recv E hP 2 2 rfl rfl rfl) (x_pcR E (x_pick hP [2, 3, 4, 5, 6, 7, 8] rfl)) ok_X2_valueAt q502 rfl hl.1 rfl (Nat.le_of_ble_eq_true rfl) ⟨Nat.le_of_ble_eq_true rfl, Nat.le_of_ble_eq_true rfl⟩ ⟨Nat.le_of_ble_eq_true rfl, Nat.le_of_ble_eq_true rfl⟩ dX5_change_55) ?_
      refine lv_istore (lv' := [(4, .int z3), (3, .int (p0 / 1000)), (0, .ref h0), (1, .int p0), (2, .int p1)]) hx hb dX5_change_58 hl (by decide) rfl (fun ls hl => ?_)
      refine lv_aload_n hx hb dX5_change_60 rfl (lv_at hl 2 rfl) ?_
      refine x_get E hP 0 rfl rfl in5 2 (by decide) q133 rfl rfl dX5_change_61 ?_
      refine lv_aload_n hx hb dX5_change_64 rfl (lv_at hl 2 rfl) ?_
      refine x_get E hP 0 rfl rfl in5 0 (by decide) q131 rfl rfl dX5_change_65 ?_
      obtain ⟨z4, h, hf⟩ := bd_s hf
      obtain ⟨z5, h, hf⟩ := bd_s hf
      cases hf
    · rw [if_pos hc] at hf
      have he := Sum.inl.inj (Option.some.inj hf)
      subst he
      exact x_thr (en := "java/lang/IllegalArgumentException") (text := "the value is out of range") E htab hfl hX hl.1 hsz (by decide +kernel) q375 q10 (by decide) xg1 xn1 xo1 hX.2.2.1.1 dX5_change_31 dX5_change_34 dX5_change_35 dX5_change_37 dX5_change_40 (Nat.le_of_ble_eq_true rfl) (Nat.le_of_ble_eq_true rfl)
  · rw [if_neg hc] at hf
    have he := Sum.inl.inj (Option.some.inj hf)
    subst he
    exact x_thr (en := "java/lang/IndexOutOfBoundsException") (text := "the handle is refused") E htab hfl hX hl.1 hsz (by decide +kernel) q481 q13 (by decide) xg3 xn3 xo3 hX.2.2.1.2.2 dX5_change_14 dX5_change_17 dX5_change_18 dX5_change_20 dX5_change_23 (Nat.le_of_ble_eq_true rfl) (Nat.le_of_ble_eq_true rfl)
theorem ok_X5_restart : yV yX5_restart cX5_restart 3 (some .int) 1 := ⟨q516, q1, q514, q515, by decide +kernel, by decide +kernel, by decide +kernel⟩
set_option maxRecDepth 100000 in
set_option maxHeartbeats 4000000 in
theorem mt_X5_restart (l : Launch) (D : va_G) (I J O : ClassId) (h0 : Nat) (n t : Nat → Nat) (b0 b1 hh ha : Nat) (ad : Nat → Nat → Nat) (sz : Nat) (p0 : Int32) (x : ClC) (r : Int32) (y0 : ClC) (hf : f_X5_restart p0 x = some (.inr (r, y0))) : mM l yX5_restart cX5_restart 3 (some .int) 4 89 0 0 D I J O sz [.ref h0, .int p0] (wCl I h0 n t b0 b1 hh x ++ wHi I O hh ha ad x.2.2.1) (qMi D sz (wCl I h0 n t b0 b1 hh x ++ wHi I O hh ha ad x.2.2.1) r (fun ad9 : Nat → Nat → Nat => wCl I h0 n t b0 b1 hh y0 ++ wHi I O hh ha ad9 y0.2.2.1)) := by
  refine mM_open (own := RX5) rfl (by decide +kernel) (Nat.le_of_ble_eq_true rfl) (fun p e s m below meth c ls E hnm hsz hw hl => ?_)
  obtain ⟨ws0, hws⟩ : ∃ ws0 : va_W, ws0 = wCl I h0 n t b0 b1 hh x ++ wHi I O hh ha ad x.2.2.1 := ⟨_, rfl⟩
  have hw : fy D (va_A ws0 sz) s.heap s.heap [] (wCl I h0 n t b0 b1 hh x ++ wHi I O hh ha ad x.2.2.1) := by rw [hws]; exact hw
  rw [← hws]
  have hx := E.1
  have hb := E.2.1
  have hl : lv_has ls 3 [(0, .ref h0), (1, .int p0)] := hl
  unfold f_X5_restart at hf
  refine lv_iload_n hx hb dX5_restart_0 rfl (lv_at hl 1 rfl) ?_
  obtain ⟨z1, h, hf⟩ := bd_s hf
  refine x_ci (x_rS E (As := [.int p0]) (rest := []) (mt_X5_isWalker l D I J O p0 z1 h) blR (x_pcR E x_none) ok_X5_isWalker q517 rfl hl.1 rfl (Nat.le_of_ble_eq_true rfl) ⟨Nat.le_of_ble_eq_true rfl, Nat.le_of_ble_eq_true rfl⟩ ⟨Nat.le_of_ble_eq_true rfl, Nat.le_of_ble_eq_true rfl⟩ dX5_restart_1) ?_
  refine lv_if_ne (tgt := 17) hx hb dX5_restart_4 (by decide) (fun hc => ?_) (fun hc => ?_)
  · rw [if_neg hc] at hf
    refine lv_aload_n hx hb dX5_restart_17 rfl (lv_at hl 0 rfl) ?_
    refine x_get E hw.1 0 rfl rfl in5 0 (by decide) q131 rfl rfl dX5_restart_18 ?_
    refine x_getN E hw.1 1 rfl rfl in3 1 (by decide) E.2.2.2.2.2.1.2.2.2.1 rfl rfl dX5_restart_21 ?_
    refine lv_iload_n hx hb dX5_restart_24 rfl (lv_at hl 1 rfl) ?_
    obtain ⟨z2, h, hf⟩ := bd_s hf
    refine x_ci (x_rV E (As := [.int p0]) (rest := []) (mt_X1_standOf l D I J O (n 8) (n 9) (n 10) p0 x.1.2.1 z2 h) blR (x_recv E hw.1 9 1 rfl rfl rfl) (x_pcR E (x_pick hw.1 [9, 10, 11] rfl)) ok_X1_standOf q521 rfl hl.1 rfl (Nat.le_of_ble_eq_true rfl) ⟨Nat.le_of_ble_eq_true rfl, Nat.le_of_ble_eq_true rfl⟩ ⟨Nat.le_of_ble_eq_true rfl, Nat.le_of_ble_eq_true rfl⟩ dX5_restart_25) ?_
    refine lv_istore_n (lv' := [(2, .int z2), (0, .ref h0), (1, .int p0)]) hx hb dX5_restart_28 rfl hl (by decide) rfl (fun ls hl => ?_)
    refine lv_aload_n hx hb dX5_restart_29 rfl (lv_at hl 1 rfl) ?_
    refine x_get E hw.1 0 rfl rfl in5 2 (by decide) q133 rfl rfl dX5_restart_30 ?_
    refine lv_aload_n hx hb dX5_restart_33 rfl (lv_at hl 1 rfl) ?_
    refine x_get E hw.1 0 rfl rfl in5 0 (by decide) q131 rfl rfl dX5_restart_34 ?_
    obtain ⟨z3, h, hf⟩ := bd_s hf
    refine x_mvP hw [1, 2, 3, 4, 5, 6, 7, 8, 9, 10, 11, 12] rfl rfl (x_rV E (As := [.ref (n 0)]) (rest := []) (mt_X0_save l D I J O hh ha ad n s.heap.size x.2.2.1 x.1 z3 h) blM (x_recv E (x_lastpl hw.1) 0 0 rfl rfl rfl) (x_pcMP E hw [1, 2, 3, 4, 5, 6, 7, 8, 9, 10, 11, 12] rfl rfl) ok_X0_save q148 rfl hl.1 rfl (Nat.le_of_ble_eq_true rfl) ⟨Nat.le_of_ble_eq_true rfl, Nat.le_of_ble_eq_true rfl⟩ ⟨Nat.le_of_ble_eq_true rfl, Nat.le_of_ble_eq_true rfl⟩ dX5_restart_37) (fun _ => rfl) (fun ad4 H locs hw => ?_)
    have hw : fy D (va_A ws0 sz) s.heap H locs (wCl I h0 n t b0 b1 hh (x.1, x.2.1, z3, x.2.2.2) ++ wHi I O hh ha ad4 z3) := hw
    refine lv_aload_n hx hb dX5_restart_40 rfl (lv_at hl 1 rfl) ?_
    refine x_get E hw.1 0 rfl rfl in5 0 (by decide) q131 rfl rfl dX5_restart_41 ?_
    refine x_getN E hw.1 1 rfl rfl in3 1 (by decide) E.2.2.2.2.2.1.2.2.2.1 rfl rfl dX5_restart_44 ?_
    refine lv_iload_n hx hb dX5_restart_47 rfl (lv_at hl 2 rfl) ?_
    obtain ⟨z5, h, hf⟩ := bd_s hf
    refine x_mv hw [9, 10, 11] rfl rfl (x_rV E (As := [.int p0]) (rest := []) (mt_X1_sendAhead l D I J O (n 8) (n 9) (n 10) H.size p0 x.1.2.1 z5 h) blM (x_recv E hw.1 9 1 rfl rfl rfl) (x_pcMQ E hw [9, 10, 11] rfl rfl) ok_X1_sendAhead q530 rfl hl.1 rfl (Nat.le_of_ble_eq_true rfl) ⟨Nat.le_of_ble_eq_true rfl, Nat.le_of_ble_eq_true rfl⟩ ⟨Nat.le_of_ble_eq_true rfl, Nat.le_of_ble_eq_true rfl⟩ dX5_restart_48) (fun _ => rfl) (fun _ H locs hw => ?_)
    have hw : fy D (va_A ws0 sz) s.heap H locs (wCl I h0 n t b0 b1 hh ((x.1.1, z5, x.1.2.2), x.2.1, z3, x.2.2.2) ++ wHi I O hh ha ad4 z3) := hw
    refine lv_iload_n hx hb dX5_restart_51 rfl (lv_at hl 0 rfl) ?_
    obtain ⟨he0, hr⟩ := Prod.mk.inj (Sum.inr.inj (Option.some.inj hf))
    have he1 := hr
    subst he1
    exact x_iM E ad4 hw he0 dX5_restart_52
  · rw [if_pos hc] at hf
    cases hf
set_option maxRecDepth 100000 in
set_option maxHeartbeats 4000000 in
theorem mx_X5_restart (l : Launch) (hfl : l.stackTraces = false) (D : va_G) (I J O : ClassId) (h0 : Nat) (n t : Nat → Nat) (b0 b1 hh ha : Nat) (ad : Nat → Nat → Nat) (sz : Nat) (p0 : Int32) (x : ClC) (ex : Nat) (hf : f_X5_restart p0 x = some (.inl ex)) : mX l yX5_restart cX5_restart 3 (some .int) 6 89 D I J O sz [.ref h0, .int p0] (wCl I h0 n t b0 b1 hh x ++ wHi I O hh ha ad x.2.2.1) (exn ex) := by
  refine mX_open (own := RX5) rfl (by decide +kernel) (Nat.le_of_ble_eq_true rfl) (fun p e s m below meth c ls E htab hX hsz hP hl => ?_)
  have hx := E.1
  have hb := E.2.1
  have hl : lv_has ls 3 [(0, .ref h0), (1, .int p0)] := hl
  unfold f_X5_restart at hf
  refine lv_iload_n hx hb dX5_restart_0 rfl (lv_at hl 1 rfl) ?_
  obtain ⟨z1, h, hf⟩ := bd_s hf
  refine x_ci (x_rS E (As := [.int p0]) (rest := []) (mt_X5_isWalker l D I J O p0 z1 h) blR (x_pcR E x_none) ok_X5_isWalker q517 rfl hl.1 rfl (Nat.le_of_ble_eq_true rfl) ⟨Nat.le_of_ble_eq_true rfl, Nat.le_of_ble_eq_true rfl⟩ ⟨Nat.le_of_ble_eq_true rfl, Nat.le_of_ble_eq_true rfl⟩ dX5_restart_1) ?_
  refine lv_if_ne (tgt := 17) hx hb dX5_restart_4 (by decide) (fun hc => ?_) (fun hc => ?_)
  · rw [if_neg hc] at hf
    refine lv_aload_n hx hb dX5_restart_17 rfl (lv_at hl 0 rfl) ?_
    refine x_get E hP 0 rfl rfl in5 0 (by decide) q131 rfl rfl dX5_restart_18 ?_
    refine x_getN E hP 1 rfl rfl in3 1 (by decide) E.2.2.2.2.2.1.2.2.2.1 rfl rfl dX5_restart_21 ?_
    refine lv_iload_n hx hb dX5_restart_24 rfl (lv_at hl 1 rfl) ?_
    obtain ⟨z2, h, hf⟩ := bd_s hf
    refine x_ci (x_rV E (As := [.int p0]) (rest := []) (mt_X1_standOf l D I J O (n 8) (n 9) (n 10) p0 x.1.2.1 z2 h) blR (x_recv E hP 9 1 rfl rfl rfl) (x_pcR E (x_pick hP [9, 10, 11] rfl)) ok_X1_standOf q521 rfl hl.1 rfl (Nat.le_of_ble_eq_true rfl) ⟨Nat.le_of_ble_eq_true rfl, Nat.le_of_ble_eq_true rfl⟩ ⟨Nat.le_of_ble_eq_true rfl, Nat.le_of_ble_eq_true rfl⟩ dX5_restart_25) ?_
    refine lv_istore_n (lv' := [(2, .int z2), (0, .ref h0), (1, .int p0)]) hx hb dX5_restart_28 rfl hl (by decide) rfl (fun ls hl => ?_)
    refine lv_aload_n hx hb dX5_restart_29 rfl (lv_at hl 1 rfl) ?_
    refine x_get E hP 0 rfl rfl in5 2 (by decide) q133 rfl rfl dX5_restart_30 ?_
    refine lv_aload_n hx hb dX5_restart_33 rfl (lv_at hl 1 rfl) ?_
    refine x_get E hP 0 rfl rfl in5 0 (by decide) q131 rfl rfl dX5_restart_34 ?_
    obtain ⟨z3, h, hf⟩ := bd_s hf
    obtain ⟨z4, h, hf⟩ := bd_s hf
    cases hf
  · rw [if_pos hc] at hf
    have he := Sum.inl.inj (Option.some.inj hf)
    subst he
    exact x_thr (en := "java/lang/IndexOutOfBoundsException") (text := "there is no such walker") E htab hfl hX hl.1 hsz (by decide +kernel) q481 q13 (by decide) xg3 xn3 xo3 hX.2.2.1.2.2 dX5_restart_7 dX5_restart_10 dX5_restart_11 dX5_restart_13 dX5_restart_16 (Nat.le_of_ble_eq_true rfl) (Nat.le_of_ble_eq_true rfl)
theorem ok_X5_goOn : yV yX5_goOn cX5_goOn 2 (some .int) 1 := ⟨q541, q1, q539, q540, by decide +kernel, by decide +kernel, by decide +kernel⟩
set_option maxRecDepth 100000 in
set_option maxHeartbeats 4000000 in
theorem mt_X5_goOn (l : Launch) (D : va_G) (I J O : ClassId) (h0 : Nat) (n t : Nat → Nat) (b0 b1 hh ha : Nat) (ad : Nat → Nat → Nat) (sz : Nat) (p0 : Int32) (x : ClC) (r : Int32) (y0 : ClC) (hf : f_X5_goOn p0 x = some (.inr (r, y0))) : mM l yX5_goOn cX5_goOn 2 (some .int) 4 90 0 0 D I J O sz [.ref h0, .int p0] (wCl I h0 n t b0 b1 hh x ++ wHi I O hh ha ad x.2.2.1) (qMi D sz (wCl I h0 n t b0 b1 hh x ++ wHi I O hh ha ad x.2.2.1) r (fun ad9 : Nat → Nat → Nat => wCl I h0 n t b0 b1 hh y0 ++ wHi I O hh ha ad9 y0.2.2.1)) := by
  refine mM_open (own := RX5) rfl (by decide +kernel) (Nat.le_of_ble_eq_true rfl) (fun p e s m below meth c ls E hnm hsz hw hl => ?_)
  obtain ⟨ws0, hws⟩ : ∃ ws0 : va_W, ws0 = wCl I h0 n t b0 b1 hh x ++ wHi I O hh ha ad x.2.2.1 := ⟨_, rfl⟩
  have hw : fy D (va_A ws0 sz) s.heap s.heap [] (wCl I h0 n t b0 b1 hh x ++ wHi I O hh ha ad x.2.2.1) := by rw [hws]; exact hw
  rw [← hws]
  have hx := E.1
  have hb := E.2.1
  have hl : lv_has ls 2 [(0, .ref h0), (1, .int p0)] := hl
  unfold f_X5_goOn at hf
  refine lv_iload_n hx hb dX5_goOn_0 rfl (lv_at hl 1 rfl) ?_
  obtain ⟨z1, h, hf⟩ := bd_s hf
  refine x_ci (x_rS E (As := [.int p0]) (rest := []) (mt_X5_isWalker l D I J O p0 z1 h) blR (x_pcR E x_none) ok_X5_isWalker q517 rfl hl.1 rfl (Nat.le_of_ble_eq_true rfl) ⟨Nat.le_of_ble_eq_true rfl, Nat.le_of_ble_eq_true rfl⟩ ⟨Nat.le_of_ble_eq_true rfl, Nat.le_of_ble_eq_true rfl⟩ dX5_goOn_1) ?_
  refine lv_if_ne (tgt := 17) hx hb dX5_goOn_4 (by decide) (fun hc => ?_) (fun hc => ?_)
  · rw [if_neg hc] at hf
    refine lv_aload_n hx hb dX5_goOn_17 rfl (lv_at hl 0 rfl) ?_
    refine x_get E hw.1 0 rfl rfl in5 2 (by decide) q133 rfl rfl dX5_goOn_18 ?_
    refine lv_aload_n hx hb dX5_goOn_21 rfl (lv_at hl 0 rfl) ?_
    refine x_get E hw.1 0 rfl rfl in5 0 (by decide) q131 rfl rfl dX5_goOn_22 ?_
    obtain ⟨z2, h, hf⟩ := bd_s hf
    refine x_mvP hw [1, 2, 3, 4, 5, 6, 7, 8, 9, 10, 11, 12] rfl rfl (x_rV E (As := [.ref (n 0)]) (rest := []) (mt_X0_save l D I J O hh ha ad n s.heap.size x.2.2.1 x.1 z2 h) blM (x_recv E (x_lastpl hw.1) 0 0 rfl rfl rfl) (x_pcMP E hw [1, 2, 3, 4, 5, 6, 7, 8, 9, 10, 11, 12] rfl rfl) ok_X0_save q148 rfl hl.1 rfl (Nat.le_of_ble_eq_true rfl) ⟨Nat.le_of_ble_eq_true rfl, Nat.le_of_ble_eq_true rfl⟩ ⟨Nat.le_of_ble_eq_true rfl, Nat.le_of_ble_eq_true rfl⟩ dX5_goOn_25) (fun _ => rfl) (fun ad3 H locs hw => ?_)
    have hw : fy D (va_A ws0 sz) s.heap H locs (wCl I h0 n t b0 b1 hh (x.1, x.2.1, z2, x.2.2.2) ++ wHi I O hh ha ad3 z2) := hw
    refine lv_aload_n hx hb dX5_goOn_28 rfl (lv_at hl 0 rfl) ?_
    refine x_get E hw.1 0 rfl rfl in5 0 (by decide) q131 rfl rfl dX5_goOn_29 ?_
    refine x_getN E hw.1 1 rfl rfl in3 1 (by decide) E.2.2.2.2.2.1.2.2.2.1 rfl rfl dX5_goOn_32 ?_
    refine lv_iload_n hx hb dX5_goOn_35 rfl (lv_at hl 1 rfl) ?_
    obtain ⟨z4, h, hf⟩ := bd_s hf
    refine x_mv hw [9, 10, 11] rfl rfl (x_rV E (As := [.int p0]) (rest := []) (mt_X1_sendOn l D I J O (n 8) (n 9) (n 10) H.size p0 x.1.2.1 z4 h) blM (x_recv E hw.1 9 1 rfl rfl rfl) (x_pcMQ E hw [9, 10, 11] rfl rfl) ok_X1_sendOn q542 rfl hl.1 rfl (Nat.le_of_ble_eq_true rfl) ⟨Nat.le_of_ble_eq_true rfl, Nat.le_of_ble_eq_true rfl⟩ ⟨Nat.le_of_ble_eq_true rfl, Nat.le_of_ble_eq_true rfl⟩ dX5_goOn_36) (fun _ => rfl) (fun _ H locs hw => ?_)
    have hw : fy D (va_A ws0 sz) s.heap H locs (wCl I h0 n t b0 b1 hh ((x.1.1, z4, x.1.2.2), x.2.1, z2, x.2.2.2) ++ wHi I O hh ha ad3 z2) := hw
    refine lv_aload_n hx hb dX5_goOn_39 rfl (lv_at hl 0 rfl) ?_
    refine x_get E hw.1 0 rfl rfl in5 0 (by decide) q131 rfl rfl dX5_goOn_40 ?_
    refine x_getN E hw.1 1 rfl rfl in3 0 (by decide) E.2.2.2.2.2.1.2.2.1 rfl rfl dX5_goOn_43 ?_
    refine lv_aload_n hx hb dX5_goOn_46 rfl (lv_at hl 0 rfl) ?_
    refine x_get E hw.1 0 rfl rfl in5 0 (by decide) q131 rfl rfl dX5_goOn_47 ?_
    refine x_getN E hw.1 1 rfl rfl in3 1 (by decide) E.2.2.2.2.2.1.2.2.2.1 rfl rfl dX5_goOn_50 ?_
    refine lv_iload_n hx hb dX5_goOn_53 rfl (lv_at hl 1 rfl) ?_
    obtain ⟨z5, h, hf⟩ := bd_s hf
    refine x_ci (x_rV E (As := [.int p0]) (rest := [.ref (n 1)]) (mt_X1_thingUnder l D I J O (n 8) (n 9) (n 10) p0 z4 z5 h) blR (x_recv E hw.1 9 1 rfl rfl rfl) (x_pcR E (x_pick hw.1 [9, 10, 11] rfl)) ok_X1_thingUnder q550 rfl hl.1 rfl (Nat.le_of_ble_eq_true rfl) ⟨Nat.le_of_ble_eq_true rfl, Nat.le_of_ble_eq_true rfl⟩ ⟨Nat.le_of_ble_eq_true rfl, Nat.le_of_ble_eq_true rfl⟩ dX5_goOn_54) ?_
    obtain ⟨z6, h, hf⟩ := bd_s hf
    refine x_ci (x_rV E (As := [.int z5]) (rest := []) (mt_X2_handleOf l D I J O (n 1) (n 2) (n 3) (n 4) (n 5) (n 6) (n 7) z5 x.1.1 z6 h) blR (x_recv E hw.1 2 2 rfl rfl rfl) (x_pcR E (x_pick hw.1 [2, 3, 4, 5, 6, 7, 8] rfl)) ok_X2_handleOf q395 rfl hl.1 rfl (Nat.le_of_ble_eq_true rfl) ⟨Nat.le_of_ble_eq_true rfl, Nat.le_of_ble_eq_true rfl⟩ ⟨Nat.le_of_ble_eq_true rfl, Nat.le_of_ble_eq_true rfl⟩ dX5_goOn_57) ?_
    obtain ⟨he0, hr⟩ := Prod.mk.inj (Sum.inr.inj (Option.some.inj hf))
    have he1 := hr
    subst he1
    exact x_iM E ad3 hw he0 dX5_goOn_60
  · rw [if_pos hc] at hf
    cases hf
set_option maxRecDepth 100000 in
set_option maxHeartbeats 4000000 in
theorem mx_X5_goOn (l : Launch) (hfl : l.stackTraces = false) (D : va_G) (I J O : ClassId) (h0 : Nat) (n t : Nat → Nat) (b0 b1 hh ha : Nat) (ad : Nat → Nat → Nat) (sz : Nat) (p0 : Int32) (x : ClC) (ex : Nat) (hf : f_X5_goOn p0 x = some (.inl ex)) : mX l yX5_goOn cX5_goOn 2 (some .int) 6 90 D I J O sz [.ref h0, .int p0] (wCl I h0 n t b0 b1 hh x ++ wHi I O hh ha ad x.2.2.1) (exn ex) := by
  refine mX_open (own := RX5) rfl (by decide +kernel) (Nat.le_of_ble_eq_true rfl) (fun p e s m below meth c ls E htab hX hsz hP hl => ?_)
  have hx := E.1
  have hb := E.2.1
  have hl : lv_has ls 2 [(0, .ref h0), (1, .int p0)] := hl
  unfold f_X5_goOn at hf
  refine lv_iload_n hx hb dX5_goOn_0 rfl (lv_at hl 1 rfl) ?_
  obtain ⟨z1, h, hf⟩ := bd_s hf
  refine x_ci (x_rS E (As := [.int p0]) (rest := []) (mt_X5_isWalker l D I J O p0 z1 h) blR (x_pcR E x_none) ok_X5_isWalker q517 rfl hl.1 rfl (Nat.le_of_ble_eq_true rfl) ⟨Nat.le_of_ble_eq_true rfl, Nat.le_of_ble_eq_true rfl⟩ ⟨Nat.le_of_ble_eq_true rfl, Nat.le_of_ble_eq_true rfl⟩ dX5_goOn_1) ?_
  refine lv_if_ne (tgt := 17) hx hb dX5_goOn_4 (by decide) (fun hc => ?_) (fun hc => ?_)
  · rw [if_neg hc] at hf
    refine lv_aload_n hx hb dX5_goOn_17 rfl (lv_at hl 0 rfl) ?_
    refine x_get E hP 0 rfl rfl in5 2 (by decide) q133 rfl rfl dX5_goOn_18 ?_
    refine lv_aload_n hx hb dX5_goOn_21 rfl (lv_at hl 0 rfl) ?_
    refine x_get E hP 0 rfl rfl in5 0 (by decide) q131 rfl rfl dX5_goOn_22 ?_
    obtain ⟨z2, h, hf⟩ := bd_s hf
    obtain ⟨z3, h, hf⟩ := bd_s hf
    obtain ⟨z4, h, hf⟩ := bd_s hf
    obtain ⟨z5, h, hf⟩ := bd_s hf
    cases hf
  · rw [if_pos hc] at hf
    have he := Sum.inl.inj (Option.some.inj hf)
    subst he
    exact x_thr (en := "java/lang/IndexOutOfBoundsException") (text := "there is no such walker") E htab hfl hX hl.1 hsz (by decide +kernel) q481 q13 (by decide) xg3 xn3 xo3 hX.2.2.1.2.2 dX5_goOn_7 dX5_goOn_10 dX5_goOn_11 dX5_goOn_13 dX5_goOn_16 (Nat.le_of_ble_eq_true rfl) (Nat.le_of_ble_eq_true rfl)
theorem ok_X5_take : yV yX5_take cX5_take 4 (some .int) 1 := ⟨q557, q1, q555, q556, by decide +kernel, by decide +kernel, by decide +kernel⟩
set_option maxRecDepth 100000 in
set_option maxHeartbeats 4000000 in
theorem mt_X5_take (l : Launch) (D : va_G) (I J O : ClassId) (h0 : Nat) (n t : Nat → Nat) (b0 b1 hh ha : Nat) (ad : Nat → Nat → Nat) (sz : Nat) (p0 : Int32) (x : ClC) (r : Int32) (y0 : ClC) (hf : f_X5_take p0 x = some (.inr (r, y0))) : mM l yX5_take cX5_take 4 (some .int) 5 107 0 0 D I J O sz [.ref h0, .int p0] (wCl I h0 n t b0 b1 hh x ++ wHi I O hh ha ad x.2.2.1) (qMi D sz (wCl I h0 n t b0 b1 hh x ++ wHi I O hh ha ad x.2.2.1) r (fun ad9 : Nat → Nat → Nat => wCl I h0 n t b0 b1 hh y0 ++ wHi I O hh ha ad9 y0.2.2.1)) := by
  refine mM_open (own := RX5) rfl (by decide +kernel) (Nat.le_of_ble_eq_true rfl) (fun p e s m below meth c ls E hnm hsz hw hl => ?_)
  obtain ⟨ws0, hws⟩ : ∃ ws0 : va_W, ws0 = wCl I h0 n t b0 b1 hh x ++ wHi I O hh ha ad x.2.2.1 := ⟨_, rfl⟩
  have hw : fy D (va_A ws0 sz) s.heap s.heap [] (wCl I h0 n t b0 b1 hh x ++ wHi I O hh ha ad x.2.2.1) := by rw [hws]; exact hw
  rw [← hws]
  have hx := E.1
  have hb := E.2.1
  have hl : lv_has ls 4 [(0, .ref h0), (1, .int p0)] := hl
  unfold f_X5_take at hf
  refine lv_iload_n hx hb dX5_take_0 rfl (lv_at hl 1 rfl) ?_
  obtain ⟨z1, h, hf⟩ := bd_s hf
  refine x_ci (x_rS E (As := [.int p0]) (rest := []) (mt_X5_isWalker l D I J O p0 z1 h) blR (x_pcR E x_none) ok_X5_isWalker q517 rfl hl.1 rfl (Nat.le_of_ble_eq_true rfl) ⟨Nat.le_of_ble_eq_true rfl, Nat.le_of_ble_eq_true rfl⟩ ⟨Nat.le_of_ble_eq_true rfl, Nat.le_of_ble_eq_true rfl⟩ dX5_take_1) ?_
  refine lv_if_ne (tgt := 17) hx hb dX5_take_4 (by decide) (fun hc => ?_) (fun hc => ?_)
  · rw [if_neg hc] at hf
    refine lv_aload_n hx hb dX5_take_17 rfl (lv_at hl 0 rfl) ?_
    refine x_get E hw.1 0 rfl rfl in5 0 (by decide) q131 rfl rfl dX5_take_18 ?_
    refine x_getN E hw.1 1 rfl rfl in3 1 (by decide) E.2.2.2.2.2.1.2.2.2.1 rfl rfl dX5_take_21 ?_
    refine lv_iload_n hx hb dX5_take_24 rfl (lv_at hl 1 rfl) ?_
    obtain ⟨z2, h, hf⟩ := bd_s hf
    refine x_ci (x_rV E (As := [.int p0]) (rest := []) (mt_X1_thingUnder l D I J O (n 8) (n 9) (n 10) p0 x.1.2.1 z2 h) blR (x_recv E hw.1 9 1 rfl rfl rfl) (x_pcR E (x_pick hw.1 [9, 10, 11] rfl)) ok_X1_thingUnder q550 rfl hl.1 rfl (Nat.le_of_ble_eq_true rfl) ⟨Nat.le_of_ble_eq_true rfl, Nat.le_of_ble_eq_true rfl⟩ ⟨Nat.le_of_ble_eq_true rfl, Nat.le_of_ble_eq_true rfl⟩ dX5_take_25) ?_
    refine lv_istore_n (lv' := [(2, .int z2), (0, .ref h0), (1, .int p0)]) hx hb dX5_take_28 rfl hl (by decide) rfl (fun ls hl => ?_)
    refine lv_iload_n hx hb dX5_take_29 rfl (lv_at hl 0 rfl) ?_
    refine lv_iconst (v := (-1)) hx hb dX5_take_30 (by decide) ?_
    refine lv_icmp_ne (tgt := 44) hx hb dX5_take_31 (by decide) (fun hc => ?_) (fun hc => ?_)
    · rw [if_neg hc] at hf
      refine lv_aload_n hx hb dX5_take_44 rfl (lv_at hl 1 rfl) ?_
      refine x_get E hw.1 0 rfl rfl in5 0 (by decide) q131 rfl rfl dX5_take_45 ?_
      refine x_getN E hw.1 1 rfl rfl in3 0 (by decide) E.2.2.2.2.2.1.2.2.1 rfl rfl dX5_take_48 ?_
      refine lv_iload_n hx hb dX5_take_51 rfl (lv_at hl 0 rfl) ?_
      obtain ⟨z3, h, hf⟩ := bd_s hf
      refine x_ci (x_rV E (As := [.int z2]) (rest := []) (mt_X2_valueAt l D I J O (n 1) (n 2) (n 3) (n 4) (n 5) (n 6) (n 7) z2 x.1.1 z3 h) blR (x_recv E hw.1 2 2 rfl rfl rfl) (x_pcR E (x_pick hw.1 [2, 3, 4, 5, 6, 7, 8] rfl)) ok_X2_valueAt q502 rfl hl.1 rfl (Nat.le_of_ble_eq_true rfl) ⟨Nat.le_of_ble_eq_true rfl, Nat.le_of_ble_eq_true rfl⟩ ⟨Nat.le_of_ble_eq_true rfl, Nat.le_of_ble_eq_true rfl⟩ dX5_take_52) ?_
      refine lv_istore_n (lv' := [(3, .int z3), (2, .int z2), (0, .ref h0), (1, .int p0)]) hx hb dX5_take_55 rfl hl (by decide) rfl (fun ls hl => ?_)
      refine lv_aload_n hx hb dX5_take_56 rfl (lv_at hl 2 rfl) ?_
      refine x_get E hw.1 0 rfl rfl in5 2 (by decide) q133 rfl rfl dX5_take_57 ?_
      refine lv_aload_n hx hb dX5_take_60 rfl (lv_at hl 2 rfl) ?_
      refine x_get E hw.1 0 rfl rfl in5 0 (by decide) q131 rfl rfl dX5_take_61 ?_
      obtain ⟨z4, h, hf⟩ := bd_s hf
      refine x_mvP hw [1, 2, 3, 4, 5, 6, 7, 8, 9, 10, 11, 12] rfl rfl (x_rV E (As := [.ref (n 0)]) (rest := []) (mt_X0_save l D I J O hh ha ad n s.heap.size x.2.2.1 x.1 z4 h) blM (x_recv E (x_lastpl hw.1) 0 0 rfl rfl rfl) (x_pcMP E hw [1, 2, 3, 4, 5, 6, 7, 8, 9, 10, 11, 12] rfl rfl) ok_X0_save q148 rfl hl.1 rfl (Nat.le_of_ble_eq_true rfl) ⟨Nat.le_of_ble_eq_true rfl, Nat.le_of_ble_eq_true rfl⟩ ⟨Nat.le_of_ble_eq_true rfl, Nat.le_of_ble_eq_true rfl⟩ dX5_take_64) (fun _ => rfl) (fun ad5 H locs hw => ?_)
      have hw : fy D (va_A ws0 sz) s.heap H locs (wCl I h0 n t b0 b1 hh (x.1, x.2.1, z4, x.2.2.2) ++ wHi I O hh ha ad5 z4) := hw
      refine lv_aload_n hx hb dX5_take_67 rfl (lv_at hl 2 rfl) ?_
      refine x_get E hw.1 0 rfl rfl in5 0 (by decide) q131 rfl rfl dX5_take_68 ?_
      refine lv_iload_n hx hb dX5_take_71 rfl (lv_at hl 1 rfl) ?_
      obtain ⟨z6, h, hf⟩ := bd_s hf
      refine x_mv hw [1, 2, 3, 4, 5, 6, 7, 8, 9, 10, 11, 12] rfl rfl (x_rV E (As := [.int z2]) (rest := []) (mt_X3_drop l D I J O n H.size z2 x.1 z6 h) blM (x_recv E hw.1 1 3 rfl rfl rfl) (x_pcMQ E hw [1, 2, 3, 4, 5, 6, 7, 8, 9, 10, 11, 12] rfl rfl) ok_X3_drop q503 rfl hl.1 rfl (Nat.le_of_ble_eq_true rfl) ⟨Nat.le_of_ble_eq_true rfl, Nat.le_of_ble_eq_true rfl⟩ ⟨Nat.le_of_ble_eq_true rfl, Nat.le_of_ble_eq_true rfl⟩ dX5_take_72) (fun _ => rfl) (fun _ H locs hw => ?_)
      have hw : fy D (va_A ws0 sz) s.heap H locs (wCl I h0 n t b0 b1 hh (z6, x.2.1, z4, x.2.2.2) ++ wHi I O hh ha ad5 z4) := hw
      refine lv_iload_n hx hb dX5_take_75 rfl (lv_at hl 0 rfl) ?_
      obtain ⟨he0, hr⟩ := Prod.mk.inj (Sum.inr.inj (Option.some.inj hf))
      have he1 := hr
      subst he1
      exact x_iM E ad5 hw he0 dX5_take_76
    · rw [if_pos hc] at hf
      cases hf
  · rw [if_pos hc] at hf
    cases hf
set_option maxRecDepth 100000 in
set_option maxHeartbeats 4000000 in
theorem mx_X5_take (l : Launch) (hfl : l.stackTraces = false) (D : va_G) (I J O : ClassId) (h0 : Nat) (n t : Nat → Nat) (b0 b1 hh ha : Nat) (ad : Nat → Nat → Nat) (sz : Nat) (p0 : Int32) (x : ClC) (ex : Nat) (hf : f_X5_take p0 x = some (.inl ex)) : mX l yX5_take cX5_take 4 (some .int) 6 107 D I J O sz [.ref h0, .int p0] (wCl I h0 n t b0 b1 hh x ++ wHi I O hh ha ad x.2.2.1) (exn ex) := by
  refine mX_open (own := RX5) rfl (by decide +kernel) (Nat.le_of_ble_eq_true rfl) (fun p e s m below meth c ls E htab hX hsz hP hl => ?_)
  have hx := E.1
  have hb := E.2.1
  have hl : lv_has ls 4 [(0, .ref h0), (1, .int p0)] := hl
  unfold f_X5_take at hf
  refine lv_iload_n hx hb dX5_take_0 rfl (lv_at hl 1 rfl) ?_
  obtain ⟨z1, h, hf⟩ := bd_s hf
  refine x_ci (x_rS E (As := [.int p0]) (rest := []) (mt_X5_isWalker l D I J O p0 z1 h) blR (x_pcR E x_none) ok_X5_isWalker q517 rfl hl.1 rfl (Nat.le_of_ble_eq_true rfl) ⟨Nat.le_of_ble_eq_true rfl, Nat.le_of_ble_eq_true rfl⟩ ⟨Nat.le_of_ble_eq_true rfl, Nat.le_of_ble_eq_true rfl⟩ dX5_take_1) ?_
  refine lv_if_ne (tgt := 17) hx hb dX5_take_4 (by decide) (fun hc => ?_) (fun hc => ?_)
  · rw [if_neg hc] at hf
    refine lv_aload_n hx hb dX5_take_17 rfl (lv_at hl 0 rfl) ?_
    refine x_get E hP 0 rfl rfl in5 0 (by decide) q131 rfl rfl dX5_take_18 ?_
    refine x_getN E hP 1 rfl rfl in3 1 (by decide) E.2.2.2.2.2.1.2.2.2.1 rfl rfl dX5_take_21 ?_
    refine lv_iload_n hx hb dX5_take_24 rfl (lv_at hl 1 rfl) ?_
    obtain ⟨z2, h, hf⟩ := bd_s hf
    refine x_ci (x_rV E (As := [.int p0]) (rest := []) (mt_X1_thingUnder l D I J O (n 8) (n 9) (n 10) p0 x.1.2.1 z2 h) blR (x_recv E hP 9 1 rfl rfl rfl) (x_pcR E (x_pick hP [9, 10, 11] rfl)) ok_X1_thingUnder q550 rfl hl.1 rfl (Nat.le_of_ble_eq_true rfl) ⟨Nat.le_of_ble_eq_true rfl, Nat.le_of_ble_eq_true rfl⟩ ⟨Nat.le_of_ble_eq_true rfl, Nat.le_of_ble_eq_true rfl⟩ dX5_take_25) ?_
    refine lv_istore_n (lv' := [(2, .int z2), (0, .ref h0), (1, .int p0)]) hx hb dX5_take_28 rfl hl (by decide) rfl (fun ls hl => ?_)
    refine lv_iload_n hx hb dX5_take_29 rfl (lv_at hl 0 rfl) ?_
    refine lv_iconst (v := (-1)) hx hb dX5_take_30 (by decide) ?_
    refine lv_icmp_ne (tgt := 44) hx hb dX5_take_31 (by decide) (fun hc => ?_) (fun hc => ?_)
    · rw [if_neg hc] at hf
      refine lv_aload_n hx hb dX5_take_44 rfl (lv_at hl 1 rfl) ?_
      refine x_get E hP 0 rfl rfl in5 0 (by decide) q131 rfl rfl dX5_take_45 ?_
      refine x_getN E hP 1 rfl rfl in3 0 (by decide) E.2.2.2.2.2.1.2.2.1 rfl rfl dX5_take_48 ?_
      refine lv_iload_n hx hb dX5_take_51 rfl (lv_at hl 0 rfl) ?_
      obtain ⟨z3, h, hf⟩ := bd_s hf
      refine x_ci (x_rV E (As := [.int z2]) (rest := []) (mt_X2_valueAt l D I J O (n 1) (n 2) (n 3) (n 4) (n 5) (n 6) (n 7) z2 x.1.1 z3 h) blR (x_recv E hP 2 2 rfl rfl rfl) (x_pcR E (x_pick hP [2, 3, 4, 5, 6, 7, 8] rfl)) ok_X2_valueAt q502 rfl hl.1 rfl (Nat.le_of_ble_eq_true rfl) ⟨Nat.le_of_ble_eq_true rfl, Nat.le_of_ble_eq_true rfl⟩ ⟨Nat.le_of_ble_eq_true rfl, Nat.le_of_ble_eq_true rfl⟩ dX5_take_52) ?_
      refine lv_istore_n (lv' := [(3, .int z3), (2, .int z2), (0, .ref h0), (1, .int p0)]) hx hb dX5_take_55 rfl hl (by decide) rfl (fun ls hl => ?_)
      refine lv_aload_n hx hb dX5_take_56 rfl (lv_at hl 2 rfl) ?_
      refine x_get E hP 0 rfl rfl in5 2 (by decide) q133 rfl rfl dX5_take_57 ?_
      refine lv_aload_n hx hb dX5_take_60 rfl (lv_at hl 2 rfl) ?_
      refine x_get E hP 0 rfl rfl in5 0 (by decide) q131 rfl rfl dX5_take_61 ?_
      obtain ⟨z4, h, hf⟩ := bd_s hf
      obtain ⟨z5, h, hf⟩ := bd_s hf
      cases hf
    · rw [if_pos hc] at hf
      have he := Sum.inl.inj (Option.some.inj hf)
      subst he
      exact x_thr (en := "java/lang/IllegalStateException") (text := "the walker does not stand on a thing") E htab hfl hX hl.1 hsz (by decide +kernel) q299 q11 (by decide) xg2 xn2 xo2 hX.2.2.1.2.1 dX5_take_34 dX5_take_37 dX5_take_38 dX5_take_40 dX5_take_43 (Nat.le_of_ble_eq_true rfl) (Nat.le_of_ble_eq_true rfl)
  · rw [if_pos hc] at hf
    have he := Sum.inl.inj (Option.some.inj hf)
    subst he
    exact x_thr (en := "java/lang/IndexOutOfBoundsException") (text := "there is no such walker") E htab hfl hX hl.1 hsz (by decide +kernel) q481 q13 (by decide) xg3 xn3 xo3 hX.2.2.1.2.2 dX5_take_7 dX5_take_10 dX5_take_11 dX5_take_13 dX5_take_16 (Nat.le_of_ble_eq_true rfl) (Nat.le_of_ble_eq_true rfl)
theorem ok_X5_fire : yV yX5_fire cX5_fire 1 (some .int) 0 := ⟨q147, q1, q145, q146, by decide +kernel, by decide +kernel, by decide +kernel⟩
set_option maxRecDepth 100000 in
set_option maxHeartbeats 4000000 in
theorem mt_X5_fire (l : Launch) (D : va_G) (I J O : ClassId) (h0 : Nat) (n t : Nat → Nat) (b0 b1 hh ha : Nat) (ad : Nat → Nat → Nat) (sz : Nat)  (x : ClC) (r : Int32) (y0 : ClC) (hf : f_X5_fire x = some (r, y0)) : mM l yX5_fire cX5_fire 1 (some .int) 6 133 0 0 D I J O sz [.ref h0] (wCl I h0 n t b0 b1 hh x ++ wHi I O hh ha ad x.2.2.1) (qMi D sz (wCl I h0 n t b0 b1 hh x ++ wHi I O hh ha ad x.2.2.1) r (fun ad9 : Nat → Nat → Nat => wCl I h0 n t b0 b1 hh y0 ++ wHi I O hh ha ad9 y0.2.2.1)) := by
  refine mM_open (own := RX5) rfl (by decide +kernel) (Nat.le_of_ble_eq_true rfl) (fun p e s m below meth c ls E hnm hsz hw hl => ?_)
  obtain ⟨ws0, hws⟩ : ∃ ws0 : va_W, ws0 = wCl I h0 n t b0 b1 hh x ++ wHi I O hh ha ad x.2.2.1 := ⟨_, rfl⟩
  have hw : fy D (va_A ws0 sz) s.heap s.heap [] (wCl I h0 n t b0 b1 hh x ++ wHi I O hh ha ad x.2.2.1) := by rw [hws]; exact hw
  rw [← hws]
  have hx := E.1
  have hb := E.2.1
  have hl : lv_has ls 1 [(0, .ref h0)] := hl
  unfold f_X5_fire at hf
  refine lv_aload_n hx hb dX5_fire_0 rfl (lv_at hl 0 rfl) ?_
  refine x_get E hw.1 0 rfl rfl in5 2 (by decide) q133 rfl rfl dX5_fire_1 ?_
  refine lv_aload_n hx hb dX5_fire_4 rfl (lv_at hl 0 rfl) ?_
  refine x_get E hw.1 0 rfl rfl in5 0 (by decide) q131 rfl rfl dX5_fire_5 ?_
  obtain ⟨z1, h, hf⟩ := bd_s hf
  refine x_mvP hw [1, 2, 3, 4, 5, 6, 7, 8, 9, 10, 11, 12] rfl rfl (x_rV E (As := [.ref (n 0)]) (rest := []) (mt_X0_save l D I J O hh ha ad n s.heap.size x.2.2.1 x.1 z1 h) blM (x_recv E (x_lastpl hw.1) 0 0 rfl rfl rfl) (x_pcMP E hw [1, 2, 3, 4, 5, 6, 7, 8, 9, 10, 11, 12] rfl rfl) ok_X0_save q148 rfl hl.1 rfl (Nat.le_of_ble_eq_true rfl) ⟨Nat.le_of_ble_eq_true rfl, Nat.le_of_ble_eq_true rfl⟩ ⟨Nat.le_of_ble_eq_true rfl, Nat.le_of_ble_eq_true rfl⟩ dX5_fire_8) (fun _ => rfl) (fun ad2 H locs hw => ?_)
  have hw : fy D (va_A ws0 sz) s.heap H locs (wCl I h0 n t b0 b1 hh (x.1, x.2.1, z1, x.2.2.2) ++ wHi I O hh ha ad2 z1) := hw
  refine lv_aload_n hx hb dX5_fire_11 rfl (lv_at hl 0 rfl) ?_
  refine x_get E hw.1 0 rfl rfl in5 0 (by decide) q131 rfl rfl dX5_fire_12 ?_
  obtain ⟨z3, h, hf⟩ := bd_s hf
  refine x_mi hw [1, 2, 3, 4, 5, 6, 7, 8, 9, 10, 11, 12] rfl rfl (x_rV E (As := []) (rest := []) (mt_X3_fireThings l D I J O n H.size x.1 z3.1 z3.2 h) blM (x_recv E hw.1 1 3 rfl rfl rfl) (x_pcMQ E hw [1, 2, 3, 4, 5, 6, 7, 8, 9, 10, 11, 12] rfl rfl) ok_X3_fireThings q172 rfl hl.1 rfl (Nat.le_of_ble_eq_true rfl) ⟨Nat.le_of_ble_eq_true rfl, Nat.le_of_ble_eq_true rfl⟩ ⟨Nat.le_of_ble_eq_true rfl, Nat.le_of_ble_eq_true rfl⟩ dX5_fire_15) (fun _ => rfl) (fun _ H locs hw => ?_)
  have hw : fy D (va_A ws0 sz) s.heap H locs (wCl I h0 n t b0 b1 hh (z3.2, x.2.1, z1, x.2.2.2) ++ wHi I O hh ha ad2 z1) := hw
  obtain ⟨he0, hr⟩ := Prod.mk.inj (Option.some.inj hf)
  have he1 := hr
  subst he1
  exact x_iM E ad2 hw he0 dX5_fire_18
theorem ok_X5_together : yV yX5_together cX5_together 1 (some .int) 0 := ⟨q267, q1, q265, q266, by decide +kernel, by decide +kernel, by decide +kernel⟩
set_option maxRecDepth 100000 in
set_option maxHeartbeats 4000000 in
theorem mt_X5_together (l : Launch) (D : va_G) (I J O : ClassId) (h0 : Nat) (n t : Nat → Nat) (b0 b1 hh ha : Nat) (ad : Nat → Nat → Nat) (sz : Nat)  (x : ClC) (r : Int32) (y0 : ClC) (hf : f_X5_together x = some (r, y0)) : mM l yX5_together cX5_together 1 (some .int) 5 120 0 0 D I J O sz [.ref h0] (wCl I h0 n t b0 b1 hh x ++ wHi I O hh ha ad x.2.2.1) (qMi D sz (wCl I h0 n t b0 b1 hh x ++ wHi I O hh ha ad x.2.2.1) r (fun ad9 : Nat → Nat → Nat => wCl I h0 n t b0 b1 hh y0 ++ wHi I O hh ha ad9 y0.2.2.1)) := by
  refine mM_open (own := RX5) rfl (by decide +kernel) (Nat.le_of_ble_eq_true rfl) (fun p e s m below meth c ls E hnm hsz hw hl => ?_)
  obtain ⟨ws0, hws⟩ : ∃ ws0 : va_W, ws0 = wCl I h0 n t b0 b1 hh x ++ wHi I O hh ha ad x.2.2.1 := ⟨_, rfl⟩
  have hw : fy D (va_A ws0 sz) s.heap s.heap [] (wCl I h0 n t b0 b1 hh x ++ wHi I O hh ha ad x.2.2.1) := by rw [hws]; exact hw
  rw [← hws]
  have hx := E.1
  have hb := E.2.1
  have hl : lv_has ls 1 [(0, .ref h0)] := hl
  unfold f_X5_together at hf
  refine lv_aload_n hx hb dX5_together_0 rfl (lv_at hl 0 rfl) ?_
  refine x_get E hw.1 0 rfl rfl in5 2 (by decide) q133 rfl rfl dX5_together_1 ?_
  refine lv_aload_n hx hb dX5_together_4 rfl (lv_at hl 0 rfl) ?_
  refine x_get E hw.1 0 rfl rfl in5 0 (by decide) q131 rfl rfl dX5_together_5 ?_
  obtain ⟨z1, h, hf⟩ := bd_s hf
  refine x_mvP hw [1, 2, 3, 4, 5, 6, 7, 8, 9, 10, 11, 12] rfl rfl (x_rV E (As := [.ref (n 0)]) (rest := []) (mt_X0_save l D I J O hh ha ad n s.heap.size x.2.2.1 x.1 z1 h) blM (x_recv E (x_lastpl hw.1) 0 0 rfl rfl rfl) (x_pcMP E hw [1, 2, 3, 4, 5, 6, 7, 8, 9, 10, 11, 12] rfl rfl) ok_X0_save q148 rfl hl.1 rfl (Nat.le_of_ble_eq_true rfl) ⟨Nat.le_of_ble_eq_true rfl, Nat.le_of_ble_eq_true rfl⟩ ⟨Nat.le_of_ble_eq_true rfl, Nat.le_of_ble_eq_true rfl⟩ dX5_together_8) (fun _ => rfl) (fun ad2 H locs hw => ?_)
  have hw : fy D (va_A ws0 sz) s.heap H locs (wCl I h0 n t b0 b1 hh (x.1, x.2.1, z1, x.2.2.2) ++ wHi I O hh ha ad2 z1) := hw
  refine lv_aload_n hx hb dX5_together_11 rfl (lv_at hl 0 rfl) ?_
  refine x_get E hw.1 0 rfl rfl in5 0 (by decide) q131 rfl rfl dX5_together_12 ?_
  obtain ⟨z3, h, hf⟩ := bd_s hf
  refine x_mi hw [1, 2, 3, 4, 5, 6, 7, 8, 9, 10, 11, 12] rfl rfl (x_rV E (As := []) (rest := []) (mt_X3_moveThings l D I J O n H.size x.1 z3.1 z3.2 h) blM (x_recv E hw.1 1 3 rfl rfl rfl) (x_pcMQ E hw [1, 2, 3, 4, 5, 6, 7, 8, 9, 10, 11, 12] rfl rfl) ok_X3_moveThings q268 rfl hl.1 rfl (Nat.le_of_ble_eq_true rfl) ⟨Nat.le_of_ble_eq_true rfl, Nat.le_of_ble_eq_true rfl⟩ ⟨Nat.le_of_ble_eq_true rfl, Nat.le_of_ble_eq_true rfl⟩ dX5_together_15) (fun _ => rfl) (fun _ H locs hw => ?_)
  have hw : fy D (va_A ws0 sz) s.heap H locs (wCl I h0 n t b0 b1 hh (z3.2, x.2.1, z1, x.2.2.2) ++ wHi I O hh ha ad2 z1) := hw
  obtain ⟨he0, hr⟩ := Prod.mk.inj (Option.some.inj hf)
  have he1 := hr
  subst he1
  exact x_iM E ad2 hw he0 dX5_together_18
theorem ok_X5_append : yV yX5_append cX5_append 2 (some .int) 1 := ⟨q562, q1, q560, q561, by decide +kernel, by decide +kernel, by decide +kernel⟩
set_option maxRecDepth 100000 in
set_option maxHeartbeats 4000000 in
theorem mt_X5_append (l : Launch) (D : va_G) (I J O : ClassId) (h0 : Nat) (n t : Nat → Nat) (b0 b1 hh ha : Nat) (ad : Nat → Nat → Nat) (sz : Nat) (p0 : Int32) (x : ClC) (r : Int32) (y0 : ClC) (hf : f_X5_append p0 x = some (.inr (r, y0))) : mM l yX5_append cX5_append 2 (some .int) 1 21 0 0 D I J O sz [.ref h0, .int p0] (wCl I h0 n t b0 b1 hh x ++ wHi I O hh ha ad x.2.2.1) (qMi D sz (wCl I h0 n t b0 b1 hh x ++ wHi I O hh ha ad x.2.2.1) r (fun ad9 : Nat → Nat → Nat => wCl I h0 n t b0 b1 hh y0 ++ wHi I O hh ha ad9 y0.2.2.1)) := by
  refine mM_open (own := RX5) rfl (by decide +kernel) (Nat.le_of_ble_eq_true rfl) (fun p e s m below meth c ls E hnm hsz hw hl => ?_)
  obtain ⟨ws0, hws⟩ : ∃ ws0 : va_W, ws0 = wCl I h0 n t b0 b1 hh x ++ wHi I O hh ha ad x.2.2.1 := ⟨_, rfl⟩
  have hw : fy D (va_A ws0 sz) s.heap s.heap [] (wCl I h0 n t b0 b1 hh x ++ wHi I O hh ha ad x.2.2.1) := by rw [hws]; exact hw
  rw [← hws]
  have hx := E.1
  have hb := E.2.1
  have hl : lv_has ls 2 [(0, .ref h0), (1, .int p0)] := hl
  unfold f_X5_append at hf
  refine lv_iload_n hx hb dX5_append_0 rfl (lv_at hl 1 rfl) ?_
  refine lv_bipush (v := 33) hx hb dX5_append_1 (by decide) ?_
  refine lv_icmp_lt (tgt := 12) hx hb dX5_append_3 (by decide) (fun hc => ?_) (fun hc => ?_)
  · rw [if_pos hc] at hf
    cases hf
  · rw [if_neg hc] at hf
    refine lv_iload_n hx hb dX5_append_6 rfl (lv_at hl 1 rfl) ?_
    refine lv_bipush (v := 126) hx hb dX5_append_7 (by decide) ?_
    refine lv_icmp_le (tgt := 22) hx hb dX5_append_9 (by decide) (fun hc => ?_) (fun hc => ?_)
    · rw [if_pos hc] at hf
      refine lv_aload_n hx hb dX5_append_22 rfl (lv_at hl 0 rfl) ?_
      refine x_get E hw.1 0 rfl rfl in5 3 (by decide) q134 rfl rfl dX5_append_23 ?_
      obtain ⟨z1, h, hf⟩ := bd_s hf
      refine x_ci (x_rV E (As := []) (rest := []) (mt_X4_isFull l D I J O b0 b1 x.2.2.2 z1 h) blR (x_recv E hw.1 25 4 rfl rfl rfl) (x_pcR E (x_pick hw.1 [25, 26] rfl)) ok_X4_isFull q564 rfl hl.1 rfl (Nat.le_of_ble_eq_true rfl) ⟨Nat.le_of_ble_eq_true rfl, Nat.le_of_ble_eq_true rfl⟩ ⟨Nat.le_of_ble_eq_true rfl, Nat.le_of_ble_eq_true rfl⟩ dX5_append_26) ?_
      refine lv_if_eq (tgt := 42) hx hb dX5_append_29 (by decide) (fun hc => ?_) (fun hc => ?_)
      · rw [if_pos hc] at hf
        refine lv_aload_n hx hb dX5_append_42 rfl (lv_at hl 0 rfl) ?_
        refine x_get E hw.1 0 rfl rfl in5 3 (by decide) q134 rfl rfl dX5_append_43 ?_
        refine lv_iload_n hx hb dX5_append_46 rfl (lv_at hl 1 rfl) ?_
        obtain ⟨z2, h, hf⟩ := bd_s hf
        refine x_mv hw [25, 26] rfl rfl (x_rV E (As := [.int p0]) (rest := []) (mt_X4_add l D I J O b0 b1 s.heap.size p0 x.2.2.2 z2 h) blM (x_recv E hw.1 25 4 rfl rfl rfl) (x_pcMQ E hw [25, 26] rfl rfl) ok_X4_add q569 rfl hl.1 rfl (Nat.le_of_ble_eq_true rfl) ⟨Nat.le_of_ble_eq_true rfl, Nat.le_of_ble_eq_true rfl⟩ ⟨Nat.le_of_ble_eq_true rfl, Nat.le_of_ble_eq_true rfl⟩ dX5_append_47) (fun _ => rfl) (fun _ H locs hw => ?_)
        have hw : fy D (va_A ws0 sz) s.heap H locs (wCl I h0 n t b0 b1 hh (x.1, x.2.1, x.2.2.1, z2) ++ wHi I O hh ha ad x.2.2.1) := hw
        refine lv_aload_n hx hb dX5_append_50 rfl (lv_at hl 0 rfl) ?_
        refine x_get E hw.1 0 rfl rfl in5 3 (by decide) q134 rfl rfl dX5_append_51 ?_
        obtain ⟨z3, h, hf⟩ := bd_s hf
        refine x_ci (x_rV E (As := []) (rest := []) (mt_X4_size l D I J O b0 b1 z2 z3 h) blR (x_recv E hw.1 25 4 rfl rfl rfl) (x_pcR E (x_pick hw.1 [25, 26] rfl)) ok_X4_size q573 rfl hl.1 rfl (Nat.le_of_ble_eq_true rfl) ⟨Nat.le_of_ble_eq_true rfl, Nat.le_of_ble_eq_true rfl⟩ ⟨Nat.le_of_ble_eq_true rfl, Nat.le_of_ble_eq_true rfl⟩ dX5_append_54) ?_
        obtain ⟨he0, hr⟩ := Prod.mk.inj (Sum.inr.inj (Option.some.inj hf))
        have he1 := hr
        subst he1
        exact x_iM E ad hw he0 dX5_append_57
      · rw [if_neg hc] at hf
        cases hf
    · rw [if_neg hc] at hf
      cases hf
set_option maxRecDepth 100000 in
set_option maxHeartbeats 4000000 in
theorem mx_X5_append (l : Launch) (hfl : l.stackTraces = false) (D : va_G) (I J O : ClassId) (h0 : Nat) (n t : Nat → Nat) (b0 b1 hh ha : Nat) (ad : Nat → Nat → Nat) (sz : Nat) (p0 : Int32) (x : ClC) (ex : Nat) (hf : f_X5_append p0 x = some (.inl ex)) : mX l yX5_append cX5_append 2 (some .int) 6 82 D I J O sz [.ref h0, .int p0] (wCl I h0 n t b0 b1 hh x ++ wHi I O hh ha ad x.2.2.1) (exn ex) := by
  refine mX_open (own := RX5) rfl (by decide +kernel) (Nat.le_of_ble_eq_true rfl) (fun p e s m below meth c ls E htab hX hsz hP hl => ?_)
  have hx := E.1
  have hb := E.2.1
  have hl : lv_has ls 2 [(0, .ref h0), (1, .int p0)] := hl
  unfold f_X5_append at hf
  refine lv_iload_n hx hb dX5_append_0 rfl (lv_at hl 1 rfl) ?_
  refine lv_bipush (v := 33) hx hb dX5_append_1 (by decide) ?_
  refine lv_icmp_lt (tgt := 12) hx hb dX5_append_3 (by decide) (fun hc => ?_) (fun hc => ?_)
  · rw [if_pos hc] at hf
    have he := Sum.inl.inj (Option.some.inj hf)
    subst he
    exact x_thr (en := "java/lang/IllegalArgumentException") (text := "the code is not 33 to 126") E htab hfl hX hl.1 hsz (by decide +kernel) q375 q10 (by decide) xg1 xn1 xo1 hX.2.2.1.1 dX5_append_12 dX5_append_15 dX5_append_16 dX5_append_18 dX5_append_21 (Nat.le_of_ble_eq_true rfl) (Nat.le_of_ble_eq_true rfl)
  · rw [if_neg hc] at hf
    refine lv_iload_n hx hb dX5_append_6 rfl (lv_at hl 1 rfl) ?_
    refine lv_bipush (v := 126) hx hb dX5_append_7 (by decide) ?_
    refine lv_icmp_le (tgt := 22) hx hb dX5_append_9 (by decide) (fun hc => ?_) (fun hc => ?_)
    · rw [if_pos hc] at hf
      refine lv_aload_n hx hb dX5_append_22 rfl (lv_at hl 0 rfl) ?_
      refine x_get E hP 0 rfl rfl in5 3 (by decide) q134 rfl rfl dX5_append_23 ?_
      obtain ⟨z1, h, hf⟩ := bd_s hf
      refine x_ci (x_rV E (As := []) (rest := []) (mt_X4_isFull l D I J O b0 b1 x.2.2.2 z1 h) blR (x_recv E hP 25 4 rfl rfl rfl) (x_pcR E (x_pick hP [25, 26] rfl)) ok_X4_isFull q564 rfl hl.1 rfl (Nat.le_of_ble_eq_true rfl) ⟨Nat.le_of_ble_eq_true rfl, Nat.le_of_ble_eq_true rfl⟩ ⟨Nat.le_of_ble_eq_true rfl, Nat.le_of_ble_eq_true rfl⟩ dX5_append_26) ?_
      refine lv_if_eq (tgt := 42) hx hb dX5_append_29 (by decide) (fun hc => ?_) (fun hc => ?_)
      · rw [if_pos hc] at hf
        refine lv_aload_n hx hb dX5_append_42 rfl (lv_at hl 0 rfl) ?_
        refine x_get E hP 0 rfl rfl in5 3 (by decide) q134 rfl rfl dX5_append_43 ?_
        refine lv_iload_n hx hb dX5_append_46 rfl (lv_at hl 1 rfl) ?_
        obtain ⟨z2, h, hf⟩ := bd_s hf
        obtain ⟨z3, h, hf⟩ := bd_s hf
        cases hf
      · rw [if_neg hc] at hf
        have he := Sum.inl.inj (Option.some.inj hf)
        subst he
        exact x_thr (en := "java/lang/IllegalStateException") (text := "the buffer is full") E htab hfl hX hl.1 hsz (by decide +kernel) q299 q11 (by decide) xg2 xn2 xo2 hX.2.2.1.2.1 dX5_append_32 dX5_append_35 dX5_append_36 dX5_append_38 dX5_append_41 (Nat.le_of_ble_eq_true rfl) (Nat.le_of_ble_eq_true rfl)
    · rw [if_neg hc] at hf
      have he := Sum.inl.inj (Option.some.inj hf)
      subst he
      exact x_thr (en := "java/lang/IllegalArgumentException") (text := "the code is not 33 to 126") E htab hfl hX hl.1 hsz (by decide +kernel) q375 q10 (by decide) xg1 xn1 xo1 hX.2.2.1.1 dX5_append_12 dX5_append_15 dX5_append_16 dX5_append_18 dX5_append_21 (Nat.le_of_ble_eq_true rfl) (Nat.le_of_ble_eq_true rfl)
theorem ok_X5_clearBuffer : yV yX5_clearBuffer cX5_clearBuffer 2 (some .int) 0 := ⟨q771, q1, q769, q770, by decide +kernel, by decide +kernel, by decide +kernel⟩
set_option maxRecDepth 100000 in
set_option maxHeartbeats 4000000 in
theorem mt_X5_clearBuffer (l : Launch) (D : va_G) (I J O : ClassId) (h0 : Nat) (n t : Nat → Nat) (b0 b1 hh ha : Nat) (ad : Nat → Nat → Nat) (sz : Nat)  (x : ClC) (r : Int32) (y0 : ClC) (hf : f_X5_clearBuffer x = some (r, y0)) : mM l yX5_clearBuffer cX5_clearBuffer 2 (some .int) 1 20 0 0 D I J O sz [.ref h0] (wCl I h0 n t b0 b1 hh x ++ wHi I O hh ha ad x.2.2.1) (qMi D sz (wCl I h0 n t b0 b1 hh x ++ wHi I O hh ha ad x.2.2.1) r (fun ad9 : Nat → Nat → Nat => wCl I h0 n t b0 b1 hh y0 ++ wHi I O hh ha ad9 y0.2.2.1)) := by
  refine mM_open (own := RX5) rfl (by decide +kernel) (Nat.le_of_ble_eq_true rfl) (fun p e s m below meth c ls E hnm hsz hw hl => ?_)
  obtain ⟨ws0, hws⟩ : ∃ ws0 : va_W, ws0 = wCl I h0 n t b0 b1 hh x ++ wHi I O hh ha ad x.2.2.1 := ⟨_, rfl⟩
  have hw : fy D (va_A ws0 sz) s.heap s.heap [] (wCl I h0 n t b0 b1 hh x ++ wHi I O hh ha ad x.2.2.1) := by rw [hws]; exact hw
  rw [← hws]
  have hx := E.1
  have hb := E.2.1
  have hl : lv_has ls 2 [(0, .ref h0)] := hl
  unfold f_X5_clearBuffer at hf
  refine lv_aload_n hx hb dX5_clearBuffer_0 rfl (lv_at hl 0 rfl) ?_
  refine x_get E hw.1 0 rfl rfl in5 3 (by decide) q134 rfl rfl dX5_clearBuffer_1 ?_
  obtain ⟨z1, h, hf⟩ := bd_s hf
  refine x_ci (x_rV E (As := []) (rest := []) (mt_X4_size l D I J O b0 b1 x.2.2.2 z1 h) blR (x_recv E hw.1 25 4 rfl rfl rfl) (x_pcR E (x_pick hw.1 [25, 26] rfl)) ok_X4_size q573 rfl hl.1 rfl (Nat.le_of_ble_eq_true rfl) ⟨Nat.le_of_ble_eq_true rfl, Nat.le_of_ble_eq_true rfl⟩ ⟨Nat.le_of_ble_eq_true rfl, Nat.le_of_ble_eq_true rfl⟩ dX5_clearBuffer_4) ?_
  refine lv_istore_n (lv' := [(1, .int z1), (0, .ref h0)]) hx hb dX5_clearBuffer_7 rfl hl (by decide) rfl (fun ls hl => ?_)
  refine lv_aload_n hx hb dX5_clearBuffer_8 rfl (lv_at hl 1 rfl) ?_
  refine x_get E hw.1 0 rfl rfl in5 3 (by decide) q134 rfl rfl dX5_clearBuffer_9 ?_
  obtain ⟨z2, h, hf⟩ := bd_s hf
  refine x_mv hw [25, 26] rfl rfl (x_rV E (As := []) (rest := []) (mt_X4_empty l D I J O b0 b1 s.heap.size x.2.2.2 z2 h) blM (x_recv E hw.1 25 4 rfl rfl rfl) (x_pcMQ E hw [25, 26] rfl rfl) ok_X4_empty q618 rfl hl.1 rfl (Nat.le_of_ble_eq_true rfl) ⟨Nat.le_of_ble_eq_true rfl, Nat.le_of_ble_eq_true rfl⟩ ⟨Nat.le_of_ble_eq_true rfl, Nat.le_of_ble_eq_true rfl⟩ dX5_clearBuffer_12) (fun _ => rfl) (fun _ H locs hw => ?_)
  have hw : fy D (va_A ws0 sz) s.heap H locs (wCl I h0 n t b0 b1 hh (x.1, x.2.1, x.2.2.1, z2) ++ wHi I O hh ha ad x.2.2.1) := hw
  refine lv_iload_n hx hb dX5_clearBuffer_15 rfl (lv_at hl 0 rfl) ?_
  obtain ⟨he0, hr⟩ := Prod.mk.inj (Option.some.inj hf)
  have he1 := hr
  subst he1
  exact x_iM E ad hw he0 dX5_clearBuffer_16
theorem ok_X5_firstError : yV yX5_firstError cX5_firstError 1 (some .int) 0 := ⟨q759, q1, q757, q758, by decide +kernel, by decide +kernel, by decide +kernel⟩
set_option maxRecDepth 100000 in
set_option maxHeartbeats 4000000 in
theorem mt_X5_firstError (l : Launch) (D : va_G) (I J O : ClassId) (h0 : Nat) (n t : Nat → Nat) (b0 b1 hh ha : Nat) (ad : Nat → Nat → Nat)  (x : ClC) (r : Int32) (hf : f_X5_firstError x = some r) : mR l yX5_firstError cX5_firstError 1 (some .int) 3 64 D I J O [.ref h0] (wCl I h0 n t b0 b1 hh x ++ wHi I O hh ha ad x.2.2.1) (qRi r) := by
  refine mR_open (own := RX5) rfl (by decide +kernel) (Nat.le_of_ble_eq_true rfl) (fun p e s m below meth c ls E hP hl => ?_)
  have hx := E.1
  have hb := E.2.1
  have hl : lv_has ls 1 [(0, .ref h0)] := hl
  unfold f_X5_firstError at hf
  refine lv_aload_n hx hb dX5_firstError_0 rfl (lv_at hl 0 rfl) ?_
  refine x_get E hP 0 rfl rfl in5 3 (by decide) q134 rfl rfl dX5_firstError_1 ?_
  obtain ⟨z1, h, hf⟩ := bd_s hf
  refine x_ci (x_rV E (As := []) (rest := []) (mt_X4_firstWrong l D I J O b0 b1 x.2.2.2 z1 h) blR (x_recv E hP 25 4 rfl rfl rfl) (x_pcR E (x_pick hP [25, 26] rfl)) ok_X4_firstWrong q760 rfl hl.1 rfl (Nat.le_of_ble_eq_true rfl) ⟨Nat.le_of_ble_eq_true rfl, Nat.le_of_ble_eq_true rfl⟩ ⟨Nat.le_of_ble_eq_true rfl, Nat.le_of_ble_eq_true rfl⟩ dX5_firstError_4) ?_
  exact x_iR E (Option.some.inj hf) dX5_firstError_7
theorem ok_X5_putParts : yV yX5_putParts cX5_putParts 10 (some .int) 0 := ⟨q605, q1, q604, qs11, by decide +kernel, by decide +kernel, by decide +kernel⟩
set_option maxRecDepth 100000 in
set_option maxHeartbeats 4000000 in
theorem k_X5_putParts_126 {p : Program} {l : Launch} {e : Env} {s : State} {m : MethodId} {args : Array Value} {below : List Frame} {meth : Method} {c : Code} {D : va_G} {I J O : ClassId} (E : fx p s m args meth c cX5_putParts RX5 10 (some .int) D I J O) (h0 : Nat) (n t : Nat → Nat) (b0 b1 hh ha : Nat) (ad : Nat → Nat → Nat)  {ws0 : va_W} {sz : Nat} (r : Int32) (y0 : ClC) (k15 : Int32 → Int32 → Int32 → Int32 → ClC → Option (Int32 × ClC)) (hk15 : ∀ (v1 : Int32) (v2 : Int32) (v3 : Int32) (v4 : Int32) (x : ClC), k15 v1 v2 v3 v4 x = some (r, y0) → ∀ (H : Heap) (locs : List Loc), fy D (va_A ws0 sz) s.heap H locs (wCl I h0 n t b0 b1 hh x ++ wHi I O hh ha ad x.2.2.1) → ∀ ls : Array Slot, lv_has ls 10 [(0, .ref h0), (1, .int v1), (2, .int v2), (3, .int v3), (4, .int v4)] → W p l e (rmB 4 94 0 0) s m args below meth c H locs 0 0 (MQ below (qMi D sz ws0 r (fun ad9 : Nat → Nat → Nat => wCl I h0 n t b0 b1 hh y0 ++ wHi I O hh ha ad9 y0.2.2.1)) args s 0 0 (va_A ws0 sz)) (F0 m 15 ls [])) : ∀ (v1 : Int32) (v2 : Int32) (v4 : Int32) (v6 : Int32) (x : ClC), f_X5_putParts_126 k15 v1 v2 v4 v6 x = some (r, y0) → ∀ (H : Heap) (locs : List Loc), fy D (va_A ws0 sz) s.heap H locs (wCl I h0 n t b0 b1 hh x ++ wHi I O hh ha ad x.2.2.1) → ∀ ls : Array Slot, lv_has ls 10 [(0, .ref h0), (1, .int v1), (2, .int v2), (4, .int v4), (6, .int v6)] → W p l e (rmB 4 94 0 0) s m args below meth c H locs 0 0 (MQ below (qMi D sz ws0 r (fun ad9 : Nat → Nat → Nat => wCl I h0 n t b0 b1 hh y0 ++ wHi I O hh ha ad9 y0.2.2.1)) args s 0 0 (va_A ws0 sz)) (F0 m 126 ls []) := by
  have hx := E.1
  have hb := E.2.1
  intro v1 v2 v4 v6 x hf H locs hw ls hl
  unfold f_X5_putParts_126 at hf
  refine lv_iload hx hb dX5_putParts_126 (lv_at hl 4 rfl) ?_
  refine lv_iconst (v := 1) hx hb dX5_putParts_128 (by decide) ?_
  refine lv_iadd hx hb dX5_putParts_129 ?_
  refine lv_istore_n (lv' := [(3, .int (v6 + 1)), (0, .ref h0), (1, .int v1), (2, .int v2), (4, .int v4), (6, .int v6)]) hx hb dX5_putParts_130 rfl hl (by decide) rfl (fun ls hl => ?_)
  refine lv_iinc (v := v4 + 1) (lv' := [(4, .int (v4 + 1)), (3, .int (v6 + 1)), (0, .ref h0), (1, .int v1), (2, .int v2), (6, .int v6)]) hx hb dX5_putParts_131 hl (k := 4) rfl rfl (by decide) rfl (fun ls hl => ?_)
  refine lv_goto (tgt := 15) hx hb dX5_putParts_134 (by decide) ?_
  exact hk15 v1 v2 (v6 + 1) (v4 + 1) x hf _ _ hw _ (lv_sub hl [2, 3, 4, 1, 0] rfl)
set_option maxRecDepth 100000 in
set_option maxHeartbeats 4000000 in
theorem k_X5_putParts_15 {p : Program} {l : Launch} {e : Env} {s : State} {m : MethodId} {args : Array Value} {below : List Frame} {meth : Method} {c : Code} {D : va_G} {I J O : ClassId} (E : fx p s m args meth c cX5_putParts RX5 10 (some .int) D I J O) (h0 : Nat) (n t : Nat → Nat) (b0 b1 hh ha : Nat) (ad : Nat → Nat → Nat)  {ws0 : va_W} {sz : Nat} (r : Int32) (y0 : ClC) : ∀ fu : Nat, ∀ (v1 : Int32) (v2 : Int32) (v3 : Int32) (v4 : Int32) (x : ClC), f_X5_putParts_15 fu v1 v2 v3 v4 x = some (r, y0) → ∀ (H : Heap) (locs : List Loc), fy D (va_A ws0 sz) s.heap H locs (wCl I h0 n t b0 b1 hh x ++ wHi I O hh ha ad x.2.2.1) → ∀ ls : Array Slot, lv_has ls 10 [(0, .ref h0), (1, .int v1), (2, .int v2), (3, .int v3), (4, .int v4)] → W p l e (rmB 4 94 0 0) s m args below meth c H locs 0 0 (MQ below (qMi D sz ws0 r (fun ad9 : Nat → Nat → Nat => wCl I h0 n t b0 b1 hh y0 ++ wHi I O hh ha ad9 y0.2.2.1)) args s 0 0 (va_A ws0 sz)) (F0 m 15 ls []) := by
  have hx := E.1
  have hb := E.2.1
  intro fu
  induction fu with
  | zero =>
    intro v1 v2 v3 v4 x hf H locs hw ls hl
    rw [f_X5_putParts_15.eq_1] at hf
    cases hf
  | succ fu ih =>
    intro v1 v2 v3 v4 x hf H locs hw ls hl
    rw [f_X5_putParts_15.eq_2] at hf
    refine lv_iload hx hb dX5_putParts_15 (lv_at hl 4 rfl) ?_
    refine lv_bipush (v := 60) hx hb dX5_putParts_17 (by decide) ?_
    refine lv_icmp_ge (tgt := 137) hx hb dX5_putParts_19 (by decide) (fun hc => ?_) (fun hc => ?_)
    · rw [if_pos hc] at hf
      refine lv_iload_n hx hb dX5_putParts_137 rfl (lv_at hl 1 rfl) ?_
      obtain ⟨he0, hr⟩ := Prod.mk.inj (Option.some.inj hf)
      have he1 := hr
      subst he1
      exact x_iM E ad hw he0 dX5_putParts_138
    · rw [if_neg hc] at hf
      refine lv_iload_n hx hb dX5_putParts_22 rfl (lv_at hl 3 rfl) ?_
      refine lv_iload_n hx hb dX5_putParts_23 rfl (lv_at hl 2 rfl) ?_
      refine lv_icmp_ge (tgt := 137) hx hb dX5_putParts_24 (by decide) (fun hc => ?_) (fun hc => ?_)
      · rw [if_pos hc] at hf
        refine lv_iload_n hx hb dX5_putParts_137 rfl (lv_at hl 1 rfl) ?_
        obtain ⟨he0, hr⟩ := Prod.mk.inj (Option.some.inj hf)
        have he1 := hr
        subst he1
        exact x_iM E ad hw he0 dX5_putParts_138
      · rw [if_neg hc] at hf
        refine lv_aload_n hx hb dX5_putParts_27 rfl (lv_at hl 0 rfl) ?_
        refine x_get E hw.1 0 rfl rfl in5 3 (by decide) q134 rfl rfl dX5_putParts_28 ?_
        refine lv_bipush (v := 42) hx hb dX5_putParts_31 (by decide) ?_
        refine lv_iload_n hx hb dX5_putParts_33 rfl (lv_at hl 3 rfl) ?_
        obtain ⟨z2, h, hf⟩ := bd_s hf
        refine x_ci (x_rV E (As := [.int 42, .int v3]) (rest := []) (mt_X4_indexOf l D I J O b0 b1 42 v3 x.2.2.2 z2 h) blR (x_recv E hw.1 25 4 rfl rfl rfl) (x_pcR E (x_pick hw.1 [25, 26] rfl)) ok_X4_indexOf q606 rfl hl.1 rfl (Nat.le_of_ble_eq_true rfl) ⟨Nat.le_of_ble_eq_true rfl, Nat.le_of_ble_eq_true rfl⟩ ⟨Nat.le_of_ble_eq_true rfl, Nat.le_of_ble_eq_true rfl⟩ dX5_putParts_34) ?_
        refine lv_istore (lv' := [(5, .int z2), (0, .ref h0), (1, .int v1), (2, .int v2), (3, .int v3), (4, .int v4)]) hx hb dX5_putParts_37 hl (by decide) rfl (fun ls hl => ?_)
        refine lv_aload_n hx hb dX5_putParts_39 rfl (lv_at hl 1 rfl) ?_
        refine x_get E hw.1 0 rfl rfl in5 3 (by decide) q134 rfl rfl dX5_putParts_40 ?_
        refine lv_bipush (v := 44) hx hb dX5_putParts_43 (by decide) ?_
        refine lv_iload_n hx hb dX5_putParts_45 rfl (lv_at hl 4 rfl) ?_
        obtain ⟨z3, h, hf⟩ := bd_s hf
        refine x_ci (x_rV E (As := [.int 44, .int v3]) (rest := []) (mt_X4_indexOf l D I J O b0 b1 44 v3 x.2.2.2 z3 h) blR (x_recv E hw.1 25 4 rfl rfl rfl) (x_pcR E (x_pick hw.1 [25, 26] rfl)) ok_X4_indexOf q606 rfl hl.1 rfl (Nat.le_of_ble_eq_true rfl) ⟨Nat.le_of_ble_eq_true rfl, Nat.le_of_ble_eq_true rfl⟩ ⟨Nat.le_of_ble_eq_true rfl, Nat.le_of_ble_eq_true rfl⟩ dX5_putParts_46) ?_
        refine lv_istore (lv' := [(6, .int z3), (5, .int z2), (0, .ref h0), (1, .int v1), (2, .int v2), (3, .int v3), (4, .int v4)]) hx hb dX5_putParts_49 hl (by decide) rfl (fun ls hl => ?_)
        refine lv_aload_n hx hb dX5_putParts_51 rfl (lv_at hl 2 rfl) ?_
        refine x_get E hw.1 0 rfl rfl in5 3 (by decide) q134 rfl rfl dX5_putParts_52 ?_
        refine lv_iload_n hx hb dX5_putParts_55 rfl (lv_at hl 5 rfl) ?_
        refine lv_iload hx hb dX5_putParts_56 (lv_at hl 1 rfl) ?_
        obtain ⟨z4, h, hf⟩ := bd_s hf
        refine x_ci (x_rV E (As := [.int v3, .int z2]) (rest := []) (mt_X4_numberIn l D I J O b0 b1 v3 z2 x.2.2.2 z4 h) blR (x_recv E hw.1 25 4 rfl rfl rfl) (x_pcR E (x_pick hw.1 [25, 26] rfl)) ok_X4_numberIn q610 rfl hl.1 rfl (Nat.le_of_ble_eq_true rfl) ⟨Nat.le_of_ble_eq_true rfl, Nat.le_of_ble_eq_true rfl⟩ ⟨Nat.le_of_ble_eq_true rfl, Nat.le_of_ble_eq_true rfl⟩ dX5_putParts_58) ?_
        refine lv_istore (lv' := [(7, .int z4), (6, .int z3), (5, .int z2), (0, .ref h0), (1, .int v1), (2, .int v2), (3, .int v3), (4, .int v4)]) hx hb dX5_putParts_61 hl (by decide) rfl (fun ls hl => ?_)
        refine lv_aload_n hx hb dX5_putParts_63 rfl (lv_at hl 3 rfl) ?_
        refine x_get E hw.1 0 rfl rfl in5 3 (by decide) q134 rfl rfl dX5_putParts_64 ?_
        refine lv_iload hx hb dX5_putParts_67 (lv_at hl 2 rfl) ?_
        refine lv_iconst (v := 1) hx hb dX5_putParts_69 (by decide) ?_
        refine lv_iadd hx hb dX5_putParts_70 ?_
        refine lv_iload hx hb dX5_putParts_71 (lv_at hl 2 rfl) ?_
        refine lv_iconst (v := 2) hx hb dX5_putParts_73 (by decide) ?_
        refine lv_iadd hx hb dX5_putParts_74 ?_
        obtain ⟨z5, h, hf⟩ := bd_s hf
        refine x_ci (x_rV E (As := [.int (z2 + 1), .int (z2 + 2)]) (rest := []) (mt_X4_numberIn l D I J O b0 b1 (z2 + 1) (z2 + 2) x.2.2.2 z5 h) blR (x_recv E hw.1 25 4 rfl rfl rfl) (x_pcR E (x_pick hw.1 [25, 26] rfl)) ok_X4_numberIn q610 rfl hl.1 rfl (Nat.le_of_ble_eq_true rfl) ⟨Nat.le_of_ble_eq_true rfl, Nat.le_of_ble_eq_true rfl⟩ ⟨Nat.le_of_ble_eq_true rfl, Nat.le_of_ble_eq_true rfl⟩ dX5_putParts_75) ?_
        refine lv_istore (lv' := [(8, .int z5), (7, .int z4), (6, .int z3), (5, .int z2), (0, .ref h0), (1, .int v1), (2, .int v2), (3, .int v3), (4, .int v4)]) hx hb dX5_putParts_78 hl (by decide) rfl (fun ls hl => ?_)
        refine lv_aload_n hx hb dX5_putParts_80 rfl (lv_at hl 4 rfl) ?_
        refine x_get E hw.1 0 rfl rfl in5 3 (by decide) q134 rfl rfl dX5_putParts_81 ?_
        refine lv_iload hx hb dX5_putParts_84 (lv_at hl 2 rfl) ?_
        refine lv_iconst (v := 1) hx hb dX5_putParts_86 (by decide) ?_
        refine lv_isub hx hb dX5_putParts_87 ?_
        obtain ⟨z6, h, hf⟩ := bd_s hf
        refine x_ci (x_rV E (As := [.int (z3 - 1)]) (rest := []) (mt_X4_codeAt l D I J O b0 b1 (z3 - 1) x.2.2.2 z6 h) blR (x_recv E hw.1 25 4 rfl rfl rfl) (x_pcR E (x_pick hw.1 [25, 26] rfl)) ok_X4_codeAt q614 rfl hl.1 rfl (Nat.le_of_ble_eq_true rfl) ⟨Nat.le_of_ble_eq_true rfl, Nat.le_of_ble_eq_true rfl⟩ ⟨Nat.le_of_ble_eq_true rfl, Nat.le_of_ble_eq_true rfl⟩ dX5_putParts_88) ?_
        obtain ⟨z7, h, hf⟩ := bd_s hf
        refine x_ci (x_rS E (As := [.int z6]) (rest := []) (mt_X5_kindOfSign l D I J O z6 z7 h) blR (x_pcR E x_none) ok_X5_kindOfSign q615 rfl hl.1 rfl (Nat.le_of_ble_eq_true rfl) ⟨Nat.le_of_ble_eq_true rfl, Nat.le_of_ble_eq_true rfl⟩ ⟨Nat.le_of_ble_eq_true rfl, Nat.le_of_ble_eq_true rfl⟩ dX5_putParts_91) ?_
        refine lv_istore (lv' := [(9, .int z7), (8, .int z5), (7, .int z4), (6, .int z3), (5, .int z2), (0, .ref h0), (1, .int v1), (2, .int v2), (3, .int v3), (4, .int v4)]) hx hb dX5_putParts_94 hl (by decide) rfl (fun ls hl => ?_)
        refine lv_aload_n hx hb dX5_putParts_96 rfl (lv_at hl 5 rfl) ?_
        refine x_get E hw.1 0 rfl rfl in5 0 (by decide) q131 rfl rfl dX5_putParts_97 ?_
        refine lv_aload_n hx hb dX5_putParts_100 rfl (lv_at hl 5 rfl) ?_
        refine x_get E hw.1 0 rfl rfl in5 0 (by decide) q131 rfl rfl dX5_putParts_101 ?_
        refine x_getN E hw.1 1 rfl rfl in3 1 (by decide) E.2.2.2.2.2.1.2.2.2.1 rfl rfl dX5_putParts_104 ?_
        obtain ⟨z8, h, hf⟩ := bd_s hf
        refine x_ci (x_rV E (As := []) (rest := [.ref (n 0)]) (mt_X1_size l D I J O (n 8) (n 9) (n 10) x.1.2.1 z8 h) blR (x_recv E hw.1 9 1 rfl rfl rfl) (x_pcR E (x_pick hw.1 [9, 10, 11] rfl)) ok_X1_size q467 rfl hl.1 rfl (Nat.le_of_ble_eq_true rfl) ⟨Nat.le_of_ble_eq_true rfl, Nat.le_of_ble_eq_true rfl⟩ ⟨Nat.le_of_ble_eq_true rfl, Nat.le_of_ble_eq_true rfl⟩ dX5_putParts_107) ?_
        refine lv_iload hx hb dX5_putParts_110 (lv_at hl 2 rfl) ?_
        refine lv_iload hx hb dX5_putParts_112 (lv_at hl 1 rfl) ?_
        refine lv_iload hx hb dX5_putParts_114 (lv_at hl 0 rfl) ?_
        obtain ⟨z9, h, hf⟩ := bd_s hf
        refine x_mi hw [1, 2, 3, 4, 5, 6, 7, 8, 9, 10, 11, 12] rfl rfl (x_rV E (As := [.int z8, .int z4, .int z5, .int z7]) (rest := []) (mt_X3_addAt l D I J O n H.size z8 z4 z5 z7 x.1 z9.1 z9.2 h) blM (x_recv E hw.1 1 3 rfl rfl rfl) (x_pcMQ E hw [1, 2, 3, 4, 5, 6, 7, 8, 9, 10, 11, 12] rfl rfl) ok_X3_addAt q468 rfl hl.1 rfl (Nat.le_of_ble_eq_true rfl) ⟨Nat.le_of_ble_eq_true rfl, Nat.le_of_ble_eq_true rfl⟩ ⟨Nat.le_of_ble_eq_true rfl, Nat.le_of_ble_eq_true rfl⟩ dX5_putParts_116) (fun _ => rfl) (fun _ H locs hw => ?_)
        have hw : fy D (va_A ws0 sz) s.heap H locs (wCl I h0 n t b0 b1 hh (z9.2, x.2) ++ wHi I O hh ha ad x.2.2.1) := hw
        refine lv_iconst (v := (-1)) hx hb dX5_putParts_119 (by decide) ?_
        refine lv_icmp_eq (tgt := 126) hx hb dX5_putParts_120 (by decide) (fun hc => ?_) (fun hc => ?_)
        · rw [if_pos hc] at hf
          exact k_X5_putParts_126 E h0 n t b0 b1 hh ha ad r y0 (f_X5_putParts_15 fu) ih v1 v2 v4 z3 (z9.2, x.2) hf _ _ hw _ (lv_sub hl [5, 6, 7, 9, 3] rfl)
        · rw [if_neg hc] at hf
          refine lv_iinc (v := v1 + 1) (lv' := [(1, .int (v1 + 1)), (9, .int z7), (8, .int z5), (7, .int z4), (6, .int z3), (5, .int z2), (0, .ref h0), (2, .int v2), (3, .int v3), (4, .int v4)]) hx hb dX5_putParts_123 hl (k := 6) rfl rfl (by decide) rfl (fun ls hl => ?_)
          exact k_X5_putParts_126 E h0 n t b0 b1 hh ha ad r y0 (f_X5_putParts_15 fu) ih (v1 + 1) v2 v4 z3 (z9.2, x.2) hf _ _ hw _ (lv_sub hl [6, 0, 7, 9, 4] rfl)
set_option maxRecDepth 100000 in
set_option maxHeartbeats 4000000 in
theorem mt_X5_putParts (l : Launch) (D : va_G) (I J O : ClassId) (h0 : Nat) (n t : Nat → Nat) (b0 b1 hh ha : Nat) (ad : Nat → Nat → Nat) (sz : Nat)  (x : ClC) (r : Int32) (y0 : ClC) (hf : f_X5_putParts x = some (r, y0)) : mM l yX5_putParts cX5_putParts 10 (some .int) 4 94 0 0 D I J O sz [.ref h0] (wCl I h0 n t b0 b1 hh x ++ wHi I O hh ha ad x.2.2.1) (qMi D sz (wCl I h0 n t b0 b1 hh x ++ wHi I O hh ha ad x.2.2.1) r (fun ad9 : Nat → Nat → Nat => wCl I h0 n t b0 b1 hh y0 ++ wHi I O hh ha ad9 y0.2.2.1)) := by
  refine mM_open (own := RX5) rfl (by decide +kernel) (Nat.le_of_ble_eq_true rfl) (fun p e s m below meth c ls E hnm hsz hw hl => ?_)
  obtain ⟨ws0, hws⟩ : ∃ ws0 : va_W, ws0 = wCl I h0 n t b0 b1 hh x ++ wHi I O hh ha ad x.2.2.1 := ⟨_, rfl⟩
  have hw : fy D (va_A ws0 sz) s.heap s.heap [] (wCl I h0 n t b0 b1 hh x ++ wHi I O hh ha ad x.2.2.1) := by rw [hws]; exact hw
  rw [← hws]
  have hx := E.1
  have hb := E.2.1
  have hl : lv_has ls 10 [(0, .ref h0)] := hl
  unfold f_X5_putParts at hf
  refine lv_iconst (v := 0) hx hb dX5_putParts_0 (by decide) ?_
  refine lv_istore_n (lv' := [(1, .int 0), (0, .ref h0)]) hx hb dX5_putParts_1 rfl hl (by decide) rfl (fun ls hl => ?_)
  refine lv_aload_n hx hb dX5_putParts_2 rfl (lv_at hl 1 rfl) ?_
  refine x_get E hw.1 0 rfl rfl in5 3 (by decide) q134 rfl rfl dX5_putParts_3 ?_
  obtain ⟨z1, h, hf⟩ := bd_s hf
  refine x_ci (x_rV E (As := []) (rest := []) (mt_X4_size l D I J O b0 b1 x.2.2.2 z1 h) blR (x_recv E hw.1 25 4 rfl rfl rfl) (x_pcR E (x_pick hw.1 [25, 26] rfl)) ok_X4_size q573 rfl hl.1 rfl (Nat.le_of_ble_eq_true rfl) ⟨Nat.le_of_ble_eq_true rfl, Nat.le_of_ble_eq_true rfl⟩ ⟨Nat.le_of_ble_eq_true rfl, Nat.le_of_ble_eq_true rfl⟩ dX5_putParts_6) ?_
  refine lv_istore_n (lv' := [(2, .int z1), (1, .int 0), (0, .ref h0)]) hx hb dX5_putParts_9 rfl hl (by decide) rfl (fun ls hl => ?_)
  refine lv_iconst (v := 0) hx hb dX5_putParts_10 (by decide) ?_
  refine lv_istore_n (lv' := [(3, .int 0), (2, .int z1), (1, .int 0), (0, .ref h0)]) hx hb dX5_putParts_11 rfl hl (by decide) rfl (fun ls hl => ?_)
  refine lv_iconst (v := 0) hx hb dX5_putParts_12 (by decide) ?_
  refine lv_istore (lv' := [(4, .int 0), (3, .int 0), (2, .int z1), (1, .int 0), (0, .ref h0)]) hx hb dX5_putParts_13 hl (by decide) rfl (fun ls hl => ?_)
  exact k_X5_putParts_15 E h0 n t b0 b1 hh ha ad r y0 FU 0 z1 0 0 x hf _ _ hw _ (lv_sub hl [4, 3, 2, 1, 0] rfl)
theorem ok_X5_putAll : yV yX5_putAll cX5_putAll 2 (some .int) 0 := ⟨q580, q1, q578, q579, by decide +kernel, by decide +kernel, by decide +kernel⟩
set_option maxRecDepth 100000 in
set_option maxHeartbeats 4000000 in
theorem mt_X5_putAll (l : Launch) (D : va_G) (I J O : ClassId) (h0 : Nat) (n t : Nat → Nat) (b0 b1 hh ha : Nat) (ad : Nat → Nat → Nat) (sz : Nat)  (x : ClC) (r : Int32) (y0 : ClC) (hf : f_X5_putAll x = some (.inr (r, y0))) : mM l yX5_putAll cX5_putAll 2 (some .int) 5 123 0 0 D I J O sz [.ref h0] (wCl I h0 n t b0 b1 hh x ++ wHi I O hh ha ad x.2.2.1) (qMi D sz (wCl I h0 n t b0 b1 hh x ++ wHi I O hh ha ad x.2.2.1) r (fun ad9 : Nat → Nat → Nat => wCl I h0 n t b0 b1 hh y0 ++ wHi I O hh ha ad9 y0.2.2.1)) := by
  refine mM_open (own := RX5) rfl (by decide +kernel) (Nat.le_of_ble_eq_true rfl) (fun p e s m below meth c ls E hnm hsz hw hl => ?_)
  obtain ⟨ws0, hws⟩ : ∃ ws0 : va_W, ws0 = wCl I h0 n t b0 b1 hh x ++ wHi I O hh ha ad x.2.2.1 := ⟨_, rfl⟩
  have hw : fy D (va_A ws0 sz) s.heap s.heap [] (wCl I h0 n t b0 b1 hh x ++ wHi I O hh ha ad x.2.2.1) := by rw [hws]; exact hw
  rw [← hws]
  have hx := E.1
  have hb := E.2.1
  have hl : lv_has ls 2 [(0, .ref h0)] := hl
  unfold f_X5_putAll at hf
  refine lv_aload_n hx hb dX5_putAll_0 rfl (lv_at hl 0 rfl) ?_
  refine x_get E hw.1 0 rfl rfl in5 3 (by decide) q134 rfl rfl dX5_putAll_1 ?_
  obtain ⟨z1, h, hf⟩ := bd_s hf
  refine x_ci (x_rV E (As := []) (rest := []) (mt_X4_isComplete l D I J O b0 b1 x.2.2.2 z1 h) blR (x_recv E hw.1 25 4 rfl rfl rfl) (x_pcR E (x_pick hw.1 [25, 26] rfl)) ok_X4_isComplete q581 rfl hl.1 rfl (Nat.le_of_ble_eq_true rfl) ⟨Nat.le_of_ble_eq_true rfl, Nat.le_of_ble_eq_true rfl⟩ ⟨Nat.le_of_ble_eq_true rfl, Nat.le_of_ble_eq_true rfl⟩ dX5_putAll_4) ?_
  refine lv_if_ne (tgt := 20) hx hb dX5_putAll_7 (by decide) (fun hc => ?_) (fun hc => ?_)
  · rw [if_neg hc] at hf
    refine lv_aload_n hx hb dX5_putAll_20 rfl (lv_at hl 0 rfl) ?_
    refine x_get E hw.1 0 rfl rfl in5 2 (by decide) q133 rfl rfl dX5_putAll_21 ?_
    refine lv_aload_n hx hb dX5_putAll_24 rfl (lv_at hl 0 rfl) ?_
    refine x_get E hw.1 0 rfl rfl in5 0 (by decide) q131 rfl rfl dX5_putAll_25 ?_
    obtain ⟨z2, h, hf⟩ := bd_s hf
    refine x_mvP hw [1, 2, 3, 4, 5, 6, 7, 8, 9, 10, 11, 12] rfl rfl (x_rV E (As := [.ref (n 0)]) (rest := []) (mt_X0_save l D I J O hh ha ad n s.heap.size x.2.2.1 x.1 z2 h) blM (x_recv E (x_lastpl hw.1) 0 0 rfl rfl rfl) (x_pcMP E hw [1, 2, 3, 4, 5, 6, 7, 8, 9, 10, 11, 12] rfl rfl) ok_X0_save q148 rfl hl.1 rfl (Nat.le_of_ble_eq_true rfl) ⟨Nat.le_of_ble_eq_true rfl, Nat.le_of_ble_eq_true rfl⟩ ⟨Nat.le_of_ble_eq_true rfl, Nat.le_of_ble_eq_true rfl⟩ dX5_putAll_28) (fun _ => rfl) (fun ad3 H locs hw => ?_)
    have hw : fy D (va_A ws0 sz) s.heap H locs (wCl I h0 n t b0 b1 hh (x.1, x.2.1, z2, x.2.2.2) ++ wHi I O hh ha ad3 z2) := hw
    refine lv_aload_n hx hb dX5_putAll_31 rfl (lv_at hl 0 rfl) ?_
    obtain ⟨z4, h, hf⟩ := bd_s hf
    refine x_miFP0 hw (x_rV E (As := []) (rest := []) (mt_X5_putParts l D I J O h0 n t b0 b1 hh ha ad3 H.size (x.1, x.2.1, z2, x.2.2.2) z4.1 z4.2 h) blM (x_recv E hw.1 0 5 rfl rfl rfl) (x_pcMPF0 E hw) ok_X5_putParts q602 rfl hl.1 rfl (Nat.le_of_ble_eq_true rfl) ⟨Nat.le_of_ble_eq_true rfl, Nat.le_of_ble_eq_true rfl⟩ ⟨Nat.le_of_ble_eq_true rfl, Nat.le_of_ble_eq_true rfl⟩ dX5_putAll_32) (fun _ => rfl) (fun ad5 H locs hw => ?_)
    have hw : fy D (va_A ws0 sz) s.heap H locs (wCl I h0 n t b0 b1 hh z4.2 ++ wHi I O hh ha ad5 z4.2.2.2.1) := hw
    refine lv_istore_n (lv' := [(1, .int z4.1), (0, .ref h0)]) hx hb dX5_putAll_35 rfl hl (by decide) rfl (fun ls hl => ?_)
    refine lv_aload_n hx hb dX5_putAll_36 rfl (lv_at hl 1 rfl) ?_
    refine x_get E hw.1 0 rfl rfl in5 3 (by decide) q134 rfl rfl dX5_putAll_37 ?_
    obtain ⟨z6, h, hf⟩ := bd_s hf
    refine x_mv hw [25, 26] rfl rfl (x_rV E (As := []) (rest := []) (mt_X4_empty l D I J O b0 b1 H.size z4.2.2.2.2 z6 h) blM (x_recv E hw.1 25 4 rfl rfl rfl) (x_pcMQ E hw [25, 26] rfl rfl) ok_X4_empty q618 rfl hl.1 rfl (Nat.le_of_ble_eq_true rfl) ⟨Nat.le_of_ble_eq_true rfl, Nat.le_of_ble_eq_true rfl⟩ ⟨Nat.le_of_ble_eq_true rfl, Nat.le_of_ble_eq_true rfl⟩ dX5_putAll_40) (fun _ => rfl) (fun _ H locs hw => ?_)
    have hw : fy D (va_A ws0 sz) s.heap H locs (wCl I h0 n t b0 b1 hh (z4.2.1, z4.2.2.1, z4.2.2.2.1, z6) ++ wHi I O hh ha ad5 z4.2.2.2.1) := hw
    refine lv_iload_n hx hb dX5_putAll_43 rfl (lv_at hl 0 rfl) ?_
    obtain ⟨he0, hr⟩ := Prod.mk.inj (Sum.inr.inj (Option.some.inj hf))
    have he1 := hr
    subst he1
    exact x_iM E ad5 hw he0 dX5_putAll_44
  · rw [if_pos hc] at hf
    cases hf
set_option maxRecDepth 100000 in
set_option maxHeartbeats 4000000 in
theorem mx_X5_putAll (l : Launch) (hfl : l.stackTraces = false) (D : va_G) (I J O : ClassId) (h0 : Nat) (n t : Nat → Nat) (b0 b1 hh ha : Nat) (ad : Nat → Nat → Nat) (sz : Nat)  (x : ClC) (ex : Nat) (hf : f_X5_putAll x = some (.inl ex)) : mX l yX5_putAll cX5_putAll 2 (some .int) 6 123 D I J O sz [.ref h0] (wCl I h0 n t b0 b1 hh x ++ wHi I O hh ha ad x.2.2.1) (exn ex) := by
  refine mX_open (own := RX5) rfl (by decide +kernel) (Nat.le_of_ble_eq_true rfl) (fun p e s m below meth c ls E htab hX hsz hP hl => ?_)
  have hx := E.1
  have hb := E.2.1
  have hl : lv_has ls 2 [(0, .ref h0)] := hl
  unfold f_X5_putAll at hf
  refine lv_aload_n hx hb dX5_putAll_0 rfl (lv_at hl 0 rfl) ?_
  refine x_get E hP 0 rfl rfl in5 3 (by decide) q134 rfl rfl dX5_putAll_1 ?_
  obtain ⟨z1, h, hf⟩ := bd_s hf
  refine x_ci (x_rV E (As := []) (rest := []) (mt_X4_isComplete l D I J O b0 b1 x.2.2.2 z1 h) blR (x_recv E hP 25 4 rfl rfl rfl) (x_pcR E (x_pick hP [25, 26] rfl)) ok_X4_isComplete q581 rfl hl.1 rfl (Nat.le_of_ble_eq_true rfl) ⟨Nat.le_of_ble_eq_true rfl, Nat.le_of_ble_eq_true rfl⟩ ⟨Nat.le_of_ble_eq_true rfl, Nat.le_of_ble_eq_true rfl⟩ dX5_putAll_4) ?_
  refine lv_if_ne (tgt := 20) hx hb dX5_putAll_7 (by decide) (fun hc => ?_) (fun hc => ?_)
  · rw [if_neg hc] at hf
    refine lv_aload_n hx hb dX5_putAll_20 rfl (lv_at hl 0 rfl) ?_
    refine x_get E hP 0 rfl rfl in5 2 (by decide) q133 rfl rfl dX5_putAll_21 ?_
    refine lv_aload_n hx hb dX5_putAll_24 rfl (lv_at hl 0 rfl) ?_
    refine x_get E hP 0 rfl rfl in5 0 (by decide) q131 rfl rfl dX5_putAll_25 ?_
    obtain ⟨z2, h, hf⟩ := bd_s hf
    obtain ⟨z3, h, hf⟩ := bd_s hf
    obtain ⟨z4, h, hf⟩ := bd_s hf
    cases hf
  · rw [if_pos hc] at hf
    have he := Sum.inl.inj (Option.some.inj hf)
    subst he
    exact x_thr (en := "java/lang/IllegalArgumentException") (text := "the buffer is not complete things as a text") E htab hfl hX hl.1 hsz (by decide +kernel) q375 q10 (by decide) xg1 xn1 xo1 hX.2.2.1.1 dX5_putAll_10 dX5_putAll_13 dX5_putAll_14 dX5_putAll_16 dX5_putAll_19 (Nat.le_of_ble_eq_true rfl) (Nat.le_of_ble_eq_true rfl)
theorem ok_X5_undo : yV yX5_undo cX5_undo 1 (some .int) 0 := ⟨q294, q1, q292, q293, by decide +kernel, by decide +kernel, by decide +kernel⟩
set_option maxRecDepth 100000 in
set_option maxHeartbeats 4000000 in
theorem mt_X5_undo (l : Launch) (D : va_G) (I J O : ClassId) (h0 : Nat) (n t : Nat → Nat) (b0 b1 hh ha : Nat) (ad : Nat → Nat → Nat) (sz : Nat)  (x : ClC) (r : Int32) (y0 : ClC) (hf : f_X5_undo x = some (.inr (r, y0))) : mM l yX5_undo cX5_undo 1 (some .int) 4 82 0 0 D I J O sz [.ref h0] (wCl I h0 n t b0 b1 hh x ++ wHi I O hh ha ad x.2.2.1) (qMi D sz (wCl I h0 n t b0 b1 hh x ++ wHi I O hh ha ad x.2.2.1) r (fun ad9 : Nat → Nat → Nat => wCl I h0 n t b0 b1 hh y0 ++ wHi I O hh ha ad9 y0.2.2.1)) := by
  refine mM_open (own := RX5) rfl (by decide +kernel) (Nat.le_of_ble_eq_true rfl) (fun p e s m below meth c ls E hnm hsz hw hl => ?_)
  obtain ⟨ws0, hws⟩ : ∃ ws0 : va_W, ws0 = wCl I h0 n t b0 b1 hh x ++ wHi I O hh ha ad x.2.2.1 := ⟨_, rfl⟩
  have hw : fy D (va_A ws0 sz) s.heap s.heap [] (wCl I h0 n t b0 b1 hh x ++ wHi I O hh ha ad x.2.2.1) := by rw [hws]; exact hw
  rw [← hws]
  have hx := E.1
  have hb := E.2.1
  have hl : lv_has ls 1 [(0, .ref h0)] := hl
  unfold f_X5_undo at hf
  refine lv_aload_n hx hb dX5_undo_0 rfl (lv_at hl 0 rfl) ?_
  refine x_get E hw.1 0 rfl rfl in5 2 (by decide) q133 rfl rfl dX5_undo_1 ?_
  obtain ⟨z1, h, hf⟩ := bd_s hf
  refine x_ci (x_rV E (As := []) (rest := []) (mt_X0_size l D I J O hh ha ad x.2.2.1 z1 h) blR (x_recv E (x_lastpl hw.1) 0 0 rfl rfl rfl) (x_pcR E (x_lastpl hw.1)) ok_X0_size q295 rfl hl.1 rfl (Nat.le_of_ble_eq_true rfl) ⟨Nat.le_of_ble_eq_true rfl, Nat.le_of_ble_eq_true rfl⟩ ⟨Nat.le_of_ble_eq_true rfl, Nat.le_of_ble_eq_true rfl⟩ dX5_undo_4) ?_
  refine lv_if_ne (tgt := 20) hx hb dX5_undo_7 (by decide) (fun hc => ?_) (fun hc => ?_)
  · rw [if_neg hc] at hf
    refine lv_aload_n hx hb dX5_undo_20 rfl (lv_at hl 0 rfl) ?_
    refine x_get E hw.1 0 rfl rfl in5 2 (by decide) q133 rfl rfl dX5_undo_21 ?_
    refine lv_aload_n hx hb dX5_undo_24 rfl (lv_at hl 0 rfl) ?_
    refine x_get E hw.1 0 rfl rfl in5 0 (by decide) q131 rfl rfl dX5_undo_25 ?_
    obtain ⟨z2, h, hf⟩ := bd_s hf
    refine x_mvP hw [1, 2, 3, 4, 5, 6, 7, 8, 9, 10, 11, 12] rfl rfl (x_rV E (As := [.ref (n 0)]) (rest := []) (mt_X0_bringBack l D I J O hh ha ad n s.heap.size x.2.2.1 x.1 z2.1 z2.2 h) blM (x_recv E (x_lastpl hw.1) 0 0 rfl rfl rfl) (x_pcMP E hw [1, 2, 3, 4, 5, 6, 7, 8, 9, 10, 11, 12] rfl rfl) ok_X0_bringBack q367 rfl hl.1 rfl (Nat.le_of_ble_eq_true rfl) ⟨Nat.le_of_ble_eq_true rfl, Nat.le_of_ble_eq_true rfl⟩ ⟨Nat.le_of_ble_eq_true rfl, Nat.le_of_ble_eq_true rfl⟩ dX5_undo_28) (fun _ => rfl) (fun ad3 H locs hw => ?_)
    have hw : fy D (va_A ws0 sz) s.heap H locs (wCl I h0 n t b0 b1 hh (z2.2, x.2.1, z2.1, x.2.2.2) ++ wHi I O hh ha ad3 z2.1) := hw
    refine lv_aload_n hx hb dX5_undo_31 rfl (lv_at hl 0 rfl) ?_
    refine x_get E hw.1 0 rfl rfl in5 2 (by decide) q133 rfl rfl dX5_undo_32 ?_
    obtain ⟨z4, h, hf⟩ := bd_s hf
    refine x_ci (x_rV E (As := []) (rest := []) (mt_X0_size l D I J O hh ha ad3 z2.1 z4 h) blR (x_recv E (x_lastpl hw.1) 0 0 rfl rfl rfl) (x_pcR E (x_lastpl hw.1)) ok_X0_size q295 rfl hl.1 rfl (Nat.le_of_ble_eq_true rfl) ⟨Nat.le_of_ble_eq_true rfl, Nat.le_of_ble_eq_true rfl⟩ ⟨Nat.le_of_ble_eq_true rfl, Nat.le_of_ble_eq_true rfl⟩ dX5_undo_35) ?_
    obtain ⟨he0, hr⟩ := Prod.mk.inj (Sum.inr.inj (Option.some.inj hf))
    have he1 := hr
    subst he1
    exact x_iM E ad3 hw he0 dX5_undo_38
  · rw [if_pos hc] at hf
    cases hf
set_option maxRecDepth 100000 in
set_option maxHeartbeats 4000000 in
theorem mx_X5_undo (l : Launch) (hfl : l.stackTraces = false) (D : va_G) (I J O : ClassId) (h0 : Nat) (n t : Nat → Nat) (b0 b1 hh ha : Nat) (ad : Nat → Nat → Nat) (sz : Nat)  (x : ClC) (ex : Nat) (hf : f_X5_undo x = some (.inl ex)) : mX l yX5_undo cX5_undo 1 (some .int) 6 82 D I J O sz [.ref h0] (wCl I h0 n t b0 b1 hh x ++ wHi I O hh ha ad x.2.2.1) (exn ex) := by
  refine mX_open (own := RX5) rfl (by decide +kernel) (Nat.le_of_ble_eq_true rfl) (fun p e s m below meth c ls E htab hX hsz hP hl => ?_)
  have hx := E.1
  have hb := E.2.1
  have hl : lv_has ls 1 [(0, .ref h0)] := hl
  unfold f_X5_undo at hf
  refine lv_aload_n hx hb dX5_undo_0 rfl (lv_at hl 0 rfl) ?_
  refine x_get E hP 0 rfl rfl in5 2 (by decide) q133 rfl rfl dX5_undo_1 ?_
  obtain ⟨z1, h, hf⟩ := bd_s hf
  refine x_ci (x_rV E (As := []) (rest := []) (mt_X0_size l D I J O hh ha ad x.2.2.1 z1 h) blR (x_recv E (x_lastpl hP) 0 0 rfl rfl rfl) (x_pcR E (x_lastpl hP)) ok_X0_size q295 rfl hl.1 rfl (Nat.le_of_ble_eq_true rfl) ⟨Nat.le_of_ble_eq_true rfl, Nat.le_of_ble_eq_true rfl⟩ ⟨Nat.le_of_ble_eq_true rfl, Nat.le_of_ble_eq_true rfl⟩ dX5_undo_4) ?_
  refine lv_if_ne (tgt := 20) hx hb dX5_undo_7 (by decide) (fun hc => ?_) (fun hc => ?_)
  · rw [if_neg hc] at hf
    refine lv_aload_n hx hb dX5_undo_20 rfl (lv_at hl 0 rfl) ?_
    refine x_get E hP 0 rfl rfl in5 2 (by decide) q133 rfl rfl dX5_undo_21 ?_
    refine lv_aload_n hx hb dX5_undo_24 rfl (lv_at hl 0 rfl) ?_
    refine x_get E hP 0 rfl rfl in5 0 (by decide) q131 rfl rfl dX5_undo_25 ?_
    obtain ⟨z2, h, hf⟩ := bd_s hf
    obtain ⟨z3, h, hf⟩ := bd_s hf
    cases hf
  · rw [if_pos hc] at hf
    have he := Sum.inl.inj (Option.some.inj hf)
    subst he
    exact x_thr (en := "java/lang/IllegalStateException") (text := "there is no saved state") E htab hfl hX hl.1 hsz (by decide +kernel) q299 q11 (by decide) xg2 xn2 xo2 hX.2.2.1.2.1 dX5_undo_10 dX5_undo_13 dX5_undo_14 dX5_undo_16 dX5_undo_19 (Nat.le_of_ble_eq_true rfl) (Nat.le_of_ble_eq_true rfl)
theorem ok_X5_refusal : yV yX5_refusal cX5_refusal 2 (some .int) 1 := ⟨q747, q1, q745, q746, by decide +kernel, by decide +kernel, by decide +kernel⟩
set_option maxRecDepth 100000 in
set_option maxHeartbeats 4000000 in
theorem mt_X5_refusal (l : Launch) (D : va_G) (I J O : ClassId) (h0 : Nat) (n t : Nat → Nat) (b0 b1 hh ha : Nat) (ad : Nat → Nat → Nat) (p0 : Int32) (x : ClC) (r : Int32) (hf : f_X5_refusal p0 x = some r) : mR l yX5_refusal cX5_refusal 2 (some .int) 3 63 D I J O [.ref h0, .int p0] (wCl I h0 n t b0 b1 hh x ++ wHi I O hh ha ad x.2.2.1) (qRi r) := by
  refine mR_open (own := RX5) rfl (by decide +kernel) (Nat.le_of_ble_eq_true rfl) (fun p e s m below meth c ls E hP hl => ?_)
  have hx := E.1
  have hb := E.2.1
  have hl : lv_has ls 2 [(0, .ref h0), (1, .int p0)] := hl
  unfold f_X5_refusal at hf
  refine lv_aload_n hx hb dX5_refusal_0 rfl (lv_at hl 0 rfl) ?_
  refine x_get E hP 0 rfl rfl in5 0 (by decide) q131 rfl rfl dX5_refusal_1 ?_
  refine x_getN E hP 1 rfl rfl in3 0 (by decide) E.2.2.2.2.2.1.2.2.1 rfl rfl dX5_refusal_4 ?_
  refine lv_iload_n hx hb dX5_refusal_7 rfl (lv_at hl 1 rfl) ?_
  obtain ⟨z1, h, hf⟩ := bd_s hf
  refine x_ci (x_rV E (As := [.int p0]) (rest := []) (mt_X2_whyRefused l D I J O (n 1) (n 2) (n 3) (n 4) (n 5) (n 6) (n 7) p0 x.1.1 z1 h) blR (x_recv E hP 2 2 rfl rfl rfl) (x_pcR E (x_pick hP [2, 3, 4, 5, 6, 7, 8] rfl)) ok_X2_whyRefused q473 rfl hl.1 rfl (Nat.le_of_ble_eq_true rfl) ⟨Nat.le_of_ble_eq_true rfl, Nat.le_of_ble_eq_true rfl⟩ ⟨Nat.le_of_ble_eq_true rfl, Nat.le_of_ble_eq_true rfl⟩ dX5_refusal_8) ?_
  exact x_iR E (Option.some.inj hf) dX5_refusal_11
theorem ok_X5_thing : yV yX5_thing cX5_thing 4 (some .int) 2 := ⟨q625, q1, q623, q624, by decide +kernel, by decide +kernel, by decide +kernel⟩
set_option maxRecDepth 100000 in
set_option maxHeartbeats 4000000 in
theorem mt_X5_thing (l : Launch) (D : va_G) (I J O : ClassId) (h0 : Nat) (n t : Nat → Nat) (b0 b1 hh ha : Nat) (ad : Nat → Nat → Nat) (p0 : Int32) (p1 : Int32) (x : ClC) (r : Int32) (hf : f_X5_thing p0 p1 x = some (.inr r)) : mR l yX5_thing cX5_thing 4 (some .int) 3 65 D I J O [.ref h0, .int p0, .int p1] (wCl I h0 n t b0 b1 hh x ++ wHi I O hh ha ad x.2.2.1) (qRi r) := by
  refine mR_open (own := RX5) rfl (by decide +kernel) (Nat.le_of_ble_eq_true rfl) (fun p e s m below meth c ls E hP hl => ?_)
  have hx := E.1
  have hb := E.2.1
  have hl : lv_has ls 4 [(0, .ref h0), (1, .int p0), (2, .int p1)] := hl
  unfold f_X5_thing at hf
  refine lv_aload_n hx hb dX5_thing_0 rfl (lv_at hl 0 rfl) ?_
  refine x_get E hP 0 rfl rfl in5 0 (by decide) q131 rfl rfl dX5_thing_1 ?_
  refine x_getN E hP 1 rfl rfl in3 0 (by decide) E.2.2.2.2.2.1.2.2.1 rfl rfl dX5_thing_4 ?_
  refine lv_iload_n hx hb dX5_thing_7 rfl (lv_at hl 1 rfl) ?_
  obtain ⟨z1, h, hf⟩ := bd_s hf
  refine x_ci (x_rV E (As := [.int p0]) (rest := []) (mt_X2_whyRefused l D I J O (n 1) (n 2) (n 3) (n 4) (n 5) (n 6) (n 7) p0 x.1.1 z1 h) blR (x_recv E hP 2 2 rfl rfl rfl) (x_pcR E (x_pick hP [2, 3, 4, 5, 6, 7, 8] rfl)) ok_X2_whyRefused q473 rfl hl.1 rfl (Nat.le_of_ble_eq_true rfl) ⟨Nat.le_of_ble_eq_true rfl, Nat.le_of_ble_eq_true rfl⟩ ⟨Nat.le_of_ble_eq_true rfl, Nat.le_of_ble_eq_true rfl⟩ dX5_thing_8) ?_
  refine lv_if_eq (tgt := 24) hx hb dX5_thing_11 (by decide) (fun hc => ?_) (fun hc => ?_)
  · rw [if_pos hc] at hf
    refine lv_iload_n hx hb dX5_thing_24 rfl (lv_at hl 1 rfl) ?_
    refine lv_sipush (v := 1000) hx hb dX5_thing_25 (by decide) ?_
    refine lv_idiv hx hb dX5_thing_28 (by decide) ?_
    refine lv_istore_n (lv' := [(3, .int (p0 / 1000)), (0, .ref h0), (1, .int p0), (2, .int p1)]) hx hb dX5_thing_29 rfl hl (by decide) rfl (fun ls hl => ?_)
    refine lv_iload_n hx hb dX5_thing_30 rfl (lv_at hl 3 rfl) ?_
    by_cases hc0 : p1 = 0
    · rw [if_pos hc0] at hf
      refine lv_tableIn (tgt := 68) hx hb dX5_thing_31 (by rw [hc0]; decide) (by rw [hc0]; decide) (by rw [hc0]; rfl) (by decide) ?_
      refine lv_aload_n hx hb dX5_thing_68 rfl (lv_at hl 1 rfl) ?_
      refine x_get E hP 0 rfl rfl in5 0 (by decide) q131 rfl rfl dX5_thing_69 ?_
      refine x_getN E hP 1 rfl rfl in3 0 (by decide) E.2.2.2.2.2.1.2.2.1 rfl rfl dX5_thing_72 ?_
      refine lv_iload_n hx hb dX5_thing_75 rfl (lv_at hl 0 rfl) ?_
      obtain ⟨z2, h, hf⟩ := bd_s hf
      refine x_ci (x_rV E (As := [.int (p0 / 1000)]) (rest := []) (mt_X2_valueAt l D I J O (n 1) (n 2) (n 3) (n 4) (n 5) (n 6) (n 7) (p0 / 1000) x.1.1 z2 h) blR (x_recv E hP 2 2 rfl rfl rfl) (x_pcR E (x_pick hP [2, 3, 4, 5, 6, 7, 8] rfl)) ok_X2_valueAt q502 rfl hl.1 rfl (Nat.le_of_ble_eq_true rfl) ⟨Nat.le_of_ble_eq_true rfl, Nat.le_of_ble_eq_true rfl⟩ ⟨Nat.le_of_ble_eq_true rfl, Nat.le_of_ble_eq_true rfl⟩ dX5_thing_76) ?_
      exact x_iR E (Sum.inr.inj (Option.some.inj hf)) dX5_thing_79
    · rw [if_neg hc0] at hf
      by_cases hc1 : p1 = 1
      · rw [if_pos hc1] at hf
        refine lv_tableIn (tgt := 80) hx hb dX5_thing_31 (by rw [hc1]; decide) (by rw [hc1]; decide) (by rw [hc1]; rfl) (by decide) ?_
        refine lv_aload_n hx hb dX5_thing_80 rfl (lv_at hl 1 rfl) ?_
        refine x_get E hP 0 rfl rfl in5 0 (by decide) q131 rfl rfl dX5_thing_81 ?_
        refine x_getN E hP 1 rfl rfl in3 0 (by decide) E.2.2.2.2.2.1.2.2.1 rfl rfl dX5_thing_84 ?_
        refine lv_iload_n hx hb dX5_thing_87 rfl (lv_at hl 0 rfl) ?_
        obtain ⟨z3, h, hf⟩ := bd_s hf
        refine x_ci (x_rV E (As := [.int (p0 / 1000)]) (rest := []) (mt_X2_sizeAt l D I J O (n 1) (n 2) (n 3) (n 4) (n 5) (n 6) (n 7) (p0 / 1000) x.1.1 z3 h) blR (x_recv E hP 2 2 rfl rfl rfl) (x_pcR E (x_pick hP [2, 3, 4, 5, 6, 7, 8] rfl)) ok_X2_sizeAt q626 rfl hl.1 rfl (Nat.le_of_ble_eq_true rfl) ⟨Nat.le_of_ble_eq_true rfl, Nat.le_of_ble_eq_true rfl⟩ ⟨Nat.le_of_ble_eq_true rfl, Nat.le_of_ble_eq_true rfl⟩ dX5_thing_88) ?_
        exact x_iR E (Sum.inr.inj (Option.some.inj hf)) dX5_thing_91
      · rw [if_neg hc1] at hf
        by_cases hc2 : p1 = 2
        · rw [if_pos hc2] at hf
          refine lv_tableIn (tgt := 92) hx hb dX5_thing_31 (by rw [hc2]; decide) (by rw [hc2]; decide) (by rw [hc2]; rfl) (by decide) ?_
          refine lv_aload_n hx hb dX5_thing_92 rfl (lv_at hl 1 rfl) ?_
          refine x_get E hP 0 rfl rfl in5 0 (by decide) q131 rfl rfl dX5_thing_93 ?_
          refine x_getN E hP 1 rfl rfl in3 0 (by decide) E.2.2.2.2.2.1.2.2.1 rfl rfl dX5_thing_96 ?_
          refine lv_iload_n hx hb dX5_thing_99 rfl (lv_at hl 0 rfl) ?_
          obtain ⟨z4, h, hf⟩ := bd_s hf
          refine x_ci (x_rV E (As := [.int (p0 / 1000)]) (rest := []) (mt_X2_kindAt l D I J O (n 1) (n 2) (n 3) (n 4) (n 5) (n 6) (n 7) (p0 / 1000) x.1.1 z4 h) blR (x_recv E hP 2 2 rfl rfl rfl) (x_pcR E (x_pick hP [2, 3, 4, 5, 6, 7, 8] rfl)) ok_X2_kindAt q627 rfl hl.1 rfl (Nat.le_of_ble_eq_true rfl) ⟨Nat.le_of_ble_eq_true rfl, Nat.le_of_ble_eq_true rfl⟩ ⟨Nat.le_of_ble_eq_true rfl, Nat.le_of_ble_eq_true rfl⟩ dX5_thing_100) ?_
          exact x_iR E (Sum.inr.inj (Option.some.inj hf)) dX5_thing_103
        · rw [if_neg hc2] at hf
          by_cases hc3 : p1 = 3
          · rw [if_pos hc3] at hf
            refine lv_tableIn (tgt := 104) hx hb dX5_thing_31 (by rw [hc3]; decide) (by rw [hc3]; decide) (by rw [hc3]; rfl) (by decide) ?_
            refine lv_aload_n hx hb dX5_thing_104 rfl (lv_at hl 1 rfl) ?_
            refine x_get E hP 0 rfl rfl in5 0 (by decide) q131 rfl rfl dX5_thing_105 ?_
            refine x_getN E hP 1 rfl rfl in3 0 (by decide) E.2.2.2.2.2.1.2.2.1 rfl rfl dX5_thing_108 ?_
            refine lv_iload_n hx hb dX5_thing_111 rfl (lv_at hl 0 rfl) ?_
            obtain ⟨z5, h, hf⟩ := bd_s hf
            refine x_ci (x_rV E (As := [.int (p0 / 1000)]) (rest := []) (mt_X2_timesFired l D I J O (n 1) (n 2) (n 3) (n 4) (n 5) (n 6) (n 7) (p0 / 1000) x.1.1 z5 h) blR (x_recv E hP 2 2 rfl rfl rfl) (x_pcR E (x_pick hP [2, 3, 4, 5, 6, 7, 8] rfl)) ok_X2_timesFired q628 rfl hl.1 rfl (Nat.le_of_ble_eq_true rfl) ⟨Nat.le_of_ble_eq_true rfl, Nat.le_of_ble_eq_true rfl⟩ ⟨Nat.le_of_ble_eq_true rfl, Nat.le_of_ble_eq_true rfl⟩ dX5_thing_112) ?_
            exact x_iR E (Sum.inr.inj (Option.some.inj hf)) dX5_thing_115
          · rw [if_neg hc3] at hf
            by_cases hc4 : p1 = 4
            · rw [if_pos hc4] at hf
              refine lv_tableIn (tgt := 116) hx hb dX5_thing_31 (by rw [hc4]; decide) (by rw [hc4]; decide) (by rw [hc4]; rfl) (by decide) ?_
              refine lv_aload_n hx hb dX5_thing_116 rfl (lv_at hl 1 rfl) ?_
              refine x_get E hP 0 rfl rfl in5 0 (by decide) q131 rfl rfl dX5_thing_117 ?_
              refine x_getN E hP 1 rfl rfl in3 1 (by decide) E.2.2.2.2.2.1.2.2.2.1 rfl rfl dX5_thing_120 ?_
              refine lv_iload_n hx hb dX5_thing_123 rfl (lv_at hl 0 rfl) ?_
              obtain ⟨z6, h, hf⟩ := bd_s hf
              refine x_ci (x_rV E (As := [.int (p0 / 1000)]) (rest := []) (mt_X1_placeOf l D I J O (n 8) (n 9) (n 10) (p0 / 1000) x.1.2.1 z6 h) blR (x_recv E hP 9 1 rfl rfl rfl) (x_pcR E (x_pick hP [9, 10, 11] rfl)) ok_X1_placeOf q629 rfl hl.1 rfl (Nat.le_of_ble_eq_true rfl) ⟨Nat.le_of_ble_eq_true rfl, Nat.le_of_ble_eq_true rfl⟩ ⟨Nat.le_of_ble_eq_true rfl, Nat.le_of_ble_eq_true rfl⟩ dX5_thing_124) ?_
              exact x_iR E (Sum.inr.inj (Option.some.inj hf)) dX5_thing_127
            · rw [if_neg hc4] at hf
              by_cases hc5 : p1 = 5
              · rw [if_pos hc5] at hf
                refine lv_tableIn (tgt := 128) hx hb dX5_thing_31 (by rw [hc5]; decide) (by rw [hc5]; decide) (by rw [hc5]; rfl) (by decide) ?_
                refine lv_aload_n hx hb dX5_thing_128 rfl (lv_at hl 1 rfl) ?_
                refine x_get E hP 0 rfl rfl in5 0 (by decide) q131 rfl rfl dX5_thing_129 ?_
                refine x_getN E hP 1 rfl rfl in3 1 (by decide) E.2.2.2.2.2.1.2.2.2.1 rfl rfl dX5_thing_132 ?_
                refine lv_aload_n hx hb dX5_thing_135 rfl (lv_at hl 1 rfl) ?_
                refine x_get E hP 0 rfl rfl in5 0 (by decide) q131 rfl rfl dX5_thing_136 ?_
                refine x_getN E hP 1 rfl rfl in3 1 (by decide) E.2.2.2.2.2.1.2.2.2.1 rfl rfl dX5_thing_139 ?_
                refine lv_iload_n hx hb dX5_thing_142 rfl (lv_at hl 0 rfl) ?_
                obtain ⟨z7, h, hf⟩ := bd_s hf
                refine x_ci (x_rV E (As := [.int (p0 / 1000)]) (rest := [.ref (n 8)]) (mt_X1_indexOf l D I J O (n 8) (n 9) (n 10) (p0 / 1000) x.1.2.1 z7 h) blR (x_recv E hP 9 1 rfl rfl rfl) (x_pcR E (x_pick hP [9, 10, 11] rfl)) ok_X1_indexOf q497 rfl hl.1 rfl (Nat.le_of_ble_eq_true rfl) ⟨Nat.le_of_ble_eq_true rfl, Nat.le_of_ble_eq_true rfl⟩ ⟨Nat.le_of_ble_eq_true rfl, Nat.le_of_ble_eq_true rfl⟩ dX5_thing_143) ?_
                obtain ⟨z8, h, hf⟩ := bd_s hf
                refine x_ci (x_rV E (As := [.int z7]) (rest := []) (mt_X1_walkersOn l D I J O (n 8) (n 9) (n 10) z7 x.1.2.1 z8 h) blR (x_recv E hP 9 1 rfl rfl rfl) (x_pcR E (x_pick hP [9, 10, 11] rfl)) ok_X1_walkersOn q633 rfl hl.1 rfl (Nat.le_of_ble_eq_true rfl) ⟨Nat.le_of_ble_eq_true rfl, Nat.le_of_ble_eq_true rfl⟩ ⟨Nat.le_of_ble_eq_true rfl, Nat.le_of_ble_eq_true rfl⟩ dX5_thing_146) ?_
                exact x_iR E (Sum.inr.inj (Option.some.inj hf)) dX5_thing_149
              · rw [if_neg hc5] at hf
                refine lv_tableOut (tgt := 150) hx hb dX5_thing_31 (by have q0 := sw_ne 0 0 (by decide) hc0; have q1 := sw_ne 1 1 (by decide) hc1; have q2 := sw_ne 2 2 (by decide) hc2; have q3 := sw_ne 3 3 (by decide) hc3; have q4 := sw_ne 4 4 (by decide) hc4; have q5 := sw_ne 5 5 (by decide) hc5; omega) (by decide) ?_
                cases hf
  · rw [if_neg hc] at hf
    cases hf
set_option maxRecDepth 100000 in
set_option maxHeartbeats 4000000 in
theorem mx_X5_thing (l : Launch) (hfl : l.stackTraces = false) (D : va_G) (I J O : ClassId) (h0 : Nat) (n t : Nat → Nat) (b0 b1 hh ha : Nat) (ad : Nat → Nat → Nat) (sz : Nat) (p0 : Int32) (p1 : Int32) (x : ClC) (ex : Nat) (hf : f_X5_thing p0 p1 x = some (.inl ex)) : mX l yX5_thing cX5_thing 4 (some .int) 6 82 D I J O sz [.ref h0, .int p0, .int p1] (wCl I h0 n t b0 b1 hh x ++ wHi I O hh ha ad x.2.2.1) (exn ex) := by
  refine mX_open (own := RX5) rfl (by decide +kernel) (Nat.le_of_ble_eq_true rfl) (fun p e s m below meth c ls E htab hX hsz hP hl => ?_)
  have hx := E.1
  have hb := E.2.1
  have hl : lv_has ls 4 [(0, .ref h0), (1, .int p0), (2, .int p1)] := hl
  unfold f_X5_thing at hf
  refine lv_aload_n hx hb dX5_thing_0 rfl (lv_at hl 0 rfl) ?_
  refine x_get E hP 0 rfl rfl in5 0 (by decide) q131 rfl rfl dX5_thing_1 ?_
  refine x_getN E hP 1 rfl rfl in3 0 (by decide) E.2.2.2.2.2.1.2.2.1 rfl rfl dX5_thing_4 ?_
  refine lv_iload_n hx hb dX5_thing_7 rfl (lv_at hl 1 rfl) ?_
  obtain ⟨z1, h, hf⟩ := bd_s hf
  refine x_ci (x_rV E (As := [.int p0]) (rest := []) (mt_X2_whyRefused l D I J O (n 1) (n 2) (n 3) (n 4) (n 5) (n 6) (n 7) p0 x.1.1 z1 h) blR (x_recv E hP 2 2 rfl rfl rfl) (x_pcR E (x_pick hP [2, 3, 4, 5, 6, 7, 8] rfl)) ok_X2_whyRefused q473 rfl hl.1 rfl (Nat.le_of_ble_eq_true rfl) ⟨Nat.le_of_ble_eq_true rfl, Nat.le_of_ble_eq_true rfl⟩ ⟨Nat.le_of_ble_eq_true rfl, Nat.le_of_ble_eq_true rfl⟩ dX5_thing_8) ?_
  refine lv_if_eq (tgt := 24) hx hb dX5_thing_11 (by decide) (fun hc => ?_) (fun hc => ?_)
  · rw [if_pos hc] at hf
    refine lv_iload_n hx hb dX5_thing_24 rfl (lv_at hl 1 rfl) ?_
    refine lv_sipush (v := 1000) hx hb dX5_thing_25 (by decide) ?_
    refine lv_idiv hx hb dX5_thing_28 (by decide) ?_
    refine lv_istore_n (lv' := [(3, .int (p0 / 1000)), (0, .ref h0), (1, .int p0), (2, .int p1)]) hx hb dX5_thing_29 rfl hl (by decide) rfl (fun ls hl => ?_)
    refine lv_iload_n hx hb dX5_thing_30 rfl (lv_at hl 3 rfl) ?_
    by_cases hc0 : p1 = 0
    · rw [if_pos hc0] at hf
      refine lv_tableIn (tgt := 68) hx hb dX5_thing_31 (by rw [hc0]; decide) (by rw [hc0]; decide) (by rw [hc0]; rfl) (by decide) ?_
      refine lv_aload_n hx hb dX5_thing_68 rfl (lv_at hl 1 rfl) ?_
      refine x_get E hP 0 rfl rfl in5 0 (by decide) q131 rfl rfl dX5_thing_69 ?_
      refine x_getN E hP 1 rfl rfl in3 0 (by decide) E.2.2.2.2.2.1.2.2.1 rfl rfl dX5_thing_72 ?_
      refine lv_iload_n hx hb dX5_thing_75 rfl (lv_at hl 0 rfl) ?_
      obtain ⟨z2, h, hf⟩ := bd_s hf
      refine x_ci (x_rV E (As := [.int (p0 / 1000)]) (rest := []) (mt_X2_valueAt l D I J O (n 1) (n 2) (n 3) (n 4) (n 5) (n 6) (n 7) (p0 / 1000) x.1.1 z2 h) blR (x_recv E hP 2 2 rfl rfl rfl) (x_pcR E (x_pick hP [2, 3, 4, 5, 6, 7, 8] rfl)) ok_X2_valueAt q502 rfl hl.1 rfl (Nat.le_of_ble_eq_true rfl) ⟨Nat.le_of_ble_eq_true rfl, Nat.le_of_ble_eq_true rfl⟩ ⟨Nat.le_of_ble_eq_true rfl, Nat.le_of_ble_eq_true rfl⟩ dX5_thing_76) ?_
      cases hf
    · rw [if_neg hc0] at hf
      by_cases hc1 : p1 = 1
      · rw [if_pos hc1] at hf
        refine lv_tableIn (tgt := 80) hx hb dX5_thing_31 (by rw [hc1]; decide) (by rw [hc1]; decide) (by rw [hc1]; rfl) (by decide) ?_
        refine lv_aload_n hx hb dX5_thing_80 rfl (lv_at hl 1 rfl) ?_
        refine x_get E hP 0 rfl rfl in5 0 (by decide) q131 rfl rfl dX5_thing_81 ?_
        refine x_getN E hP 1 rfl rfl in3 0 (by decide) E.2.2.2.2.2.1.2.2.1 rfl rfl dX5_thing_84 ?_
        refine lv_iload_n hx hb dX5_thing_87 rfl (lv_at hl 0 rfl) ?_
        obtain ⟨z3, h, hf⟩ := bd_s hf
        refine x_ci (x_rV E (As := [.int (p0 / 1000)]) (rest := []) (mt_X2_sizeAt l D I J O (n 1) (n 2) (n 3) (n 4) (n 5) (n 6) (n 7) (p0 / 1000) x.1.1 z3 h) blR (x_recv E hP 2 2 rfl rfl rfl) (x_pcR E (x_pick hP [2, 3, 4, 5, 6, 7, 8] rfl)) ok_X2_sizeAt q626 rfl hl.1 rfl (Nat.le_of_ble_eq_true rfl) ⟨Nat.le_of_ble_eq_true rfl, Nat.le_of_ble_eq_true rfl⟩ ⟨Nat.le_of_ble_eq_true rfl, Nat.le_of_ble_eq_true rfl⟩ dX5_thing_88) ?_
        cases hf
      · rw [if_neg hc1] at hf
        by_cases hc2 : p1 = 2
        · rw [if_pos hc2] at hf
          refine lv_tableIn (tgt := 92) hx hb dX5_thing_31 (by rw [hc2]; decide) (by rw [hc2]; decide) (by rw [hc2]; rfl) (by decide) ?_
          refine lv_aload_n hx hb dX5_thing_92 rfl (lv_at hl 1 rfl) ?_
          refine x_get E hP 0 rfl rfl in5 0 (by decide) q131 rfl rfl dX5_thing_93 ?_
          refine x_getN E hP 1 rfl rfl in3 0 (by decide) E.2.2.2.2.2.1.2.2.1 rfl rfl dX5_thing_96 ?_
          refine lv_iload_n hx hb dX5_thing_99 rfl (lv_at hl 0 rfl) ?_
          obtain ⟨z4, h, hf⟩ := bd_s hf
          refine x_ci (x_rV E (As := [.int (p0 / 1000)]) (rest := []) (mt_X2_kindAt l D I J O (n 1) (n 2) (n 3) (n 4) (n 5) (n 6) (n 7) (p0 / 1000) x.1.1 z4 h) blR (x_recv E hP 2 2 rfl rfl rfl) (x_pcR E (x_pick hP [2, 3, 4, 5, 6, 7, 8] rfl)) ok_X2_kindAt q627 rfl hl.1 rfl (Nat.le_of_ble_eq_true rfl) ⟨Nat.le_of_ble_eq_true rfl, Nat.le_of_ble_eq_true rfl⟩ ⟨Nat.le_of_ble_eq_true rfl, Nat.le_of_ble_eq_true rfl⟩ dX5_thing_100) ?_
          cases hf
        · rw [if_neg hc2] at hf
          by_cases hc3 : p1 = 3
          · rw [if_pos hc3] at hf
            refine lv_tableIn (tgt := 104) hx hb dX5_thing_31 (by rw [hc3]; decide) (by rw [hc3]; decide) (by rw [hc3]; rfl) (by decide) ?_
            refine lv_aload_n hx hb dX5_thing_104 rfl (lv_at hl 1 rfl) ?_
            refine x_get E hP 0 rfl rfl in5 0 (by decide) q131 rfl rfl dX5_thing_105 ?_
            refine x_getN E hP 1 rfl rfl in3 0 (by decide) E.2.2.2.2.2.1.2.2.1 rfl rfl dX5_thing_108 ?_
            refine lv_iload_n hx hb dX5_thing_111 rfl (lv_at hl 0 rfl) ?_
            obtain ⟨z5, h, hf⟩ := bd_s hf
            refine x_ci (x_rV E (As := [.int (p0 / 1000)]) (rest := []) (mt_X2_timesFired l D I J O (n 1) (n 2) (n 3) (n 4) (n 5) (n 6) (n 7) (p0 / 1000) x.1.1 z5 h) blR (x_recv E hP 2 2 rfl rfl rfl) (x_pcR E (x_pick hP [2, 3, 4, 5, 6, 7, 8] rfl)) ok_X2_timesFired q628 rfl hl.1 rfl (Nat.le_of_ble_eq_true rfl) ⟨Nat.le_of_ble_eq_true rfl, Nat.le_of_ble_eq_true rfl⟩ ⟨Nat.le_of_ble_eq_true rfl, Nat.le_of_ble_eq_true rfl⟩ dX5_thing_112) ?_
            cases hf
          · rw [if_neg hc3] at hf
            by_cases hc4 : p1 = 4
            · rw [if_pos hc4] at hf
              refine lv_tableIn (tgt := 116) hx hb dX5_thing_31 (by rw [hc4]; decide) (by rw [hc4]; decide) (by rw [hc4]; rfl) (by decide) ?_
              refine lv_aload_n hx hb dX5_thing_116 rfl (lv_at hl 1 rfl) ?_
              refine x_get E hP 0 rfl rfl in5 0 (by decide) q131 rfl rfl dX5_thing_117 ?_
              refine x_getN E hP 1 rfl rfl in3 1 (by decide) E.2.2.2.2.2.1.2.2.2.1 rfl rfl dX5_thing_120 ?_
              refine lv_iload_n hx hb dX5_thing_123 rfl (lv_at hl 0 rfl) ?_
              obtain ⟨z6, h, hf⟩ := bd_s hf
              refine x_ci (x_rV E (As := [.int (p0 / 1000)]) (rest := []) (mt_X1_placeOf l D I J O (n 8) (n 9) (n 10) (p0 / 1000) x.1.2.1 z6 h) blR (x_recv E hP 9 1 rfl rfl rfl) (x_pcR E (x_pick hP [9, 10, 11] rfl)) ok_X1_placeOf q629 rfl hl.1 rfl (Nat.le_of_ble_eq_true rfl) ⟨Nat.le_of_ble_eq_true rfl, Nat.le_of_ble_eq_true rfl⟩ ⟨Nat.le_of_ble_eq_true rfl, Nat.le_of_ble_eq_true rfl⟩ dX5_thing_124) ?_
              cases hf
            · rw [if_neg hc4] at hf
              by_cases hc5 : p1 = 5
              · rw [if_pos hc5] at hf
                refine lv_tableIn (tgt := 128) hx hb dX5_thing_31 (by rw [hc5]; decide) (by rw [hc5]; decide) (by rw [hc5]; rfl) (by decide) ?_
                refine lv_aload_n hx hb dX5_thing_128 rfl (lv_at hl 1 rfl) ?_
                refine x_get E hP 0 rfl rfl in5 0 (by decide) q131 rfl rfl dX5_thing_129 ?_
                refine x_getN E hP 1 rfl rfl in3 1 (by decide) E.2.2.2.2.2.1.2.2.2.1 rfl rfl dX5_thing_132 ?_
                refine lv_aload_n hx hb dX5_thing_135 rfl (lv_at hl 1 rfl) ?_
                refine x_get E hP 0 rfl rfl in5 0 (by decide) q131 rfl rfl dX5_thing_136 ?_
                refine x_getN E hP 1 rfl rfl in3 1 (by decide) E.2.2.2.2.2.1.2.2.2.1 rfl rfl dX5_thing_139 ?_
                refine lv_iload_n hx hb dX5_thing_142 rfl (lv_at hl 0 rfl) ?_
                obtain ⟨z7, h, hf⟩ := bd_s hf
                refine x_ci (x_rV E (As := [.int (p0 / 1000)]) (rest := [.ref (n 8)]) (mt_X1_indexOf l D I J O (n 8) (n 9) (n 10) (p0 / 1000) x.1.2.1 z7 h) blR (x_recv E hP 9 1 rfl rfl rfl) (x_pcR E (x_pick hP [9, 10, 11] rfl)) ok_X1_indexOf q497 rfl hl.1 rfl (Nat.le_of_ble_eq_true rfl) ⟨Nat.le_of_ble_eq_true rfl, Nat.le_of_ble_eq_true rfl⟩ ⟨Nat.le_of_ble_eq_true rfl, Nat.le_of_ble_eq_true rfl⟩ dX5_thing_143) ?_
                obtain ⟨z8, h, hf⟩ := bd_s hf
                refine x_ci (x_rV E (As := [.int z7]) (rest := []) (mt_X1_walkersOn l D I J O (n 8) (n 9) (n 10) z7 x.1.2.1 z8 h) blR (x_recv E hP 9 1 rfl rfl rfl) (x_pcR E (x_pick hP [9, 10, 11] rfl)) ok_X1_walkersOn q633 rfl hl.1 rfl (Nat.le_of_ble_eq_true rfl) ⟨Nat.le_of_ble_eq_true rfl, Nat.le_of_ble_eq_true rfl⟩ ⟨Nat.le_of_ble_eq_true rfl, Nat.le_of_ble_eq_true rfl⟩ dX5_thing_146) ?_
                cases hf
              · rw [if_neg hc5] at hf
                refine lv_tableOut (tgt := 150) hx hb dX5_thing_31 (by have q0 := sw_ne 0 0 (by decide) hc0; have q1 := sw_ne 1 1 (by decide) hc1; have q2 := sw_ne 2 2 (by decide) hc2; have q3 := sw_ne 3 3 (by decide) hc3; have q4 := sw_ne 4 4 (by decide) hc4; have q5 := sw_ne 5 5 (by decide) hc5; omega) (by decide) ?_
                have he := Sum.inl.inj (Option.some.inj hf)
                subst he
                exact x_thr (en := "java/lang/IllegalArgumentException") (text := "what is not 0 to 5") E htab hfl hX hl.1 hsz (by decide +kernel) q375 q10 (by decide) xg1 xn1 xo1 hX.2.2.1.1 dX5_thing_150 dX5_thing_153 dX5_thing_154 dX5_thing_156 dX5_thing_159 (Nat.le_of_ble_eq_true rfl) (Nat.le_of_ble_eq_true rfl)
  · rw [if_neg hc] at hf
    have he := Sum.inl.inj (Option.some.inj hf)
    subst he
    exact x_thr (en := "java/lang/IndexOutOfBoundsException") (text := "the handle is refused") E htab hfl hX hl.1 hsz (by decide +kernel) q481 q13 (by decide) xg3 xn3 xo3 hX.2.2.1.2.2 dX5_thing_14 dX5_thing_17 dX5_thing_18 dX5_thing_20 dX5_thing_23 (Nat.le_of_ble_eq_true rfl) (Nat.le_of_ble_eq_true rfl)
theorem ok_X5_at : yV yX5_at cX5_at 2 (some .int) 1 := ⟨q374, q1, q372, q373, by decide +kernel, by decide +kernel, by decide +kernel⟩
set_option maxRecDepth 100000 in
set_option maxHeartbeats 4000000 in
theorem mt_X5_at (l : Launch) (D : va_G) (I J O : ClassId) (h0 : Nat) (n t : Nat → Nat) (b0 b1 hh ha : Nat) (ad : Nat → Nat → Nat) (p0 : Int32) (x : ClC) (r : Int32) (hf : f_X5_at p0 x = some (.inr r)) : mR l yX5_at cX5_at 2 (some .int) 3 66 D I J O [.ref h0, .int p0] (wCl I h0 n t b0 b1 hh x ++ wHi I O hh ha ad x.2.2.1) (qRi r) := by
  refine mR_open (own := RX5) rfl (by decide +kernel) (Nat.le_of_ble_eq_true rfl) (fun p e s m below meth c ls E hP hl => ?_)
  have hx := E.1
  have hb := E.2.1
  have hl : lv_has ls 2 [(0, .ref h0), (1, .int p0)] := hl
  unfold f_X5_at at hf
  refine lv_iload_n hx hb dX5_at_0 rfl (lv_at hl 1 rfl) ?_
  refine lv_if_ge (tgt := 14) hx hb dX5_at_1 (by decide) (fun hc => ?_) (fun hc => ?_)
  · rw [if_pos hc] at hf
    refine lv_aload_n hx hb dX5_at_14 rfl (lv_at hl 0 rfl) ?_
    refine x_get E hP 0 rfl rfl in5 0 (by decide) q131 rfl rfl dX5_at_15 ?_
    refine x_getN E hP 1 rfl rfl in3 0 (by decide) E.2.2.2.2.2.1.2.2.1 rfl rfl dX5_at_18 ?_
    refine lv_aload_n hx hb dX5_at_21 rfl (lv_at hl 0 rfl) ?_
    refine x_get E hP 0 rfl rfl in5 0 (by decide) q131 rfl rfl dX5_at_22 ?_
    refine x_getN E hP 1 rfl rfl in3 1 (by decide) E.2.2.2.2.2.1.2.2.2.1 rfl rfl dX5_at_25 ?_
    refine lv_iload_n hx hb dX5_at_28 rfl (lv_at hl 1 rfl) ?_
    obtain ⟨z1, h, hf⟩ := bd_s hf
    refine x_ci (x_rV E (As := [.int p0]) (rest := [.ref (n 1)]) (mt_X1_thingAtPlace l D I J O (n 8) (n 9) (n 10) p0 x.1.2.1 z1 h) blR (x_recv E hP 9 1 rfl rfl rfl) (x_pcR E (x_pick hP [9, 10, 11] rfl)) ok_X1_thingAtPlace q391 rfl hl.1 rfl (Nat.le_of_ble_eq_true rfl) ⟨Nat.le_of_ble_eq_true rfl, Nat.le_of_ble_eq_true rfl⟩ ⟨Nat.le_of_ble_eq_true rfl, Nat.le_of_ble_eq_true rfl⟩ dX5_at_29) ?_
    obtain ⟨z2, h, hf⟩ := bd_s hf
    refine x_ci (x_rV E (As := [.int z1]) (rest := []) (mt_X2_handleOf l D I J O (n 1) (n 2) (n 3) (n 4) (n 5) (n 6) (n 7) z1 x.1.1 z2 h) blR (x_recv E hP 2 2 rfl rfl rfl) (x_pcR E (x_pick hP [2, 3, 4, 5, 6, 7, 8] rfl)) ok_X2_handleOf q395 rfl hl.1 rfl (Nat.le_of_ble_eq_true rfl) ⟨Nat.le_of_ble_eq_true rfl, Nat.le_of_ble_eq_true rfl⟩ ⟨Nat.le_of_ble_eq_true rfl, Nat.le_of_ble_eq_true rfl⟩ dX5_at_32) ?_
    exact x_iR E (Sum.inr.inj (Option.some.inj hf)) dX5_at_35
  · rw [if_neg hc] at hf
    cases hf
set_option maxRecDepth 100000 in
set_option maxHeartbeats 4000000 in
theorem mx_X5_at (l : Launch) (hfl : l.stackTraces = false) (D : va_G) (I J O : ClassId) (h0 : Nat) (n t : Nat → Nat) (b0 b1 hh ha : Nat) (ad : Nat → Nat → Nat) (sz : Nat) (p0 : Int32) (x : ClC) (ex : Nat) (hf : f_X5_at p0 x = some (.inl ex)) : mX l yX5_at cX5_at 2 (some .int) 6 82 D I J O sz [.ref h0, .int p0] (wCl I h0 n t b0 b1 hh x ++ wHi I O hh ha ad x.2.2.1) (exn ex) := by
  refine mX_open (own := RX5) rfl (by decide +kernel) (Nat.le_of_ble_eq_true rfl) (fun p e s m below meth c ls E htab hX hsz hP hl => ?_)
  have hx := E.1
  have hb := E.2.1
  have hl : lv_has ls 2 [(0, .ref h0), (1, .int p0)] := hl
  unfold f_X5_at at hf
  refine lv_iload_n hx hb dX5_at_0 rfl (lv_at hl 1 rfl) ?_
  refine lv_if_ge (tgt := 14) hx hb dX5_at_1 (by decide) (fun hc => ?_) (fun hc => ?_)
  · rw [if_pos hc] at hf
    refine lv_aload_n hx hb dX5_at_14 rfl (lv_at hl 0 rfl) ?_
    refine x_get E hP 0 rfl rfl in5 0 (by decide) q131 rfl rfl dX5_at_15 ?_
    refine x_getN E hP 1 rfl rfl in3 0 (by decide) E.2.2.2.2.2.1.2.2.1 rfl rfl dX5_at_18 ?_
    refine lv_aload_n hx hb dX5_at_21 rfl (lv_at hl 0 rfl) ?_
    refine x_get E hP 0 rfl rfl in5 0 (by decide) q131 rfl rfl dX5_at_22 ?_
    refine x_getN E hP 1 rfl rfl in3 1 (by decide) E.2.2.2.2.2.1.2.2.2.1 rfl rfl dX5_at_25 ?_
    refine lv_iload_n hx hb dX5_at_28 rfl (lv_at hl 1 rfl) ?_
    obtain ⟨z1, h, hf⟩ := bd_s hf
    refine x_ci (x_rV E (As := [.int p0]) (rest := [.ref (n 1)]) (mt_X1_thingAtPlace l D I J O (n 8) (n 9) (n 10) p0 x.1.2.1 z1 h) blR (x_recv E hP 9 1 rfl rfl rfl) (x_pcR E (x_pick hP [9, 10, 11] rfl)) ok_X1_thingAtPlace q391 rfl hl.1 rfl (Nat.le_of_ble_eq_true rfl) ⟨Nat.le_of_ble_eq_true rfl, Nat.le_of_ble_eq_true rfl⟩ ⟨Nat.le_of_ble_eq_true rfl, Nat.le_of_ble_eq_true rfl⟩ dX5_at_29) ?_
    obtain ⟨z2, h, hf⟩ := bd_s hf
    refine x_ci (x_rV E (As := [.int z1]) (rest := []) (mt_X2_handleOf l D I J O (n 1) (n 2) (n 3) (n 4) (n 5) (n 6) (n 7) z1 x.1.1 z2 h) blR (x_recv E hP 2 2 rfl rfl rfl) (x_pcR E (x_pick hP [2, 3, 4, 5, 6, 7, 8] rfl)) ok_X2_handleOf q395 rfl hl.1 rfl (Nat.le_of_ble_eq_true rfl) ⟨Nat.le_of_ble_eq_true rfl, Nat.le_of_ble_eq_true rfl⟩ ⟨Nat.le_of_ble_eq_true rfl, Nat.le_of_ble_eq_true rfl⟩ dX5_at_32) ?_
    cases hf
  · rw [if_neg hc] at hf
    have he := Sum.inl.inj (Option.some.inj hf)
    subst he
    exact x_thr (en := "java/lang/IllegalArgumentException") (text := "the place is below 0") E htab hfl hX hl.1 hsz (by decide +kernel) q375 q10 (by decide) xg1 xn1 xo1 hX.2.2.1.1 dX5_at_4 dX5_at_7 dX5_at_8 dX5_at_10 dX5_at_13 (Nat.le_of_ble_eq_true rfl) (Nat.le_of_ble_eq_true rfl)
theorem ok_X5_cell : yV yX5_cell cX5_cell 3 (some .int) 2 := ⟨q638, q1, q636, q637, by decide +kernel, by decide +kernel, by decide +kernel⟩
set_option maxRecDepth 100000 in
set_option maxHeartbeats 4000000 in
theorem mt_X5_cell (l : Launch) (D : va_G) (I J O : ClassId) (h0 : Nat) (n t : Nat → Nat) (b0 b1 hh ha : Nat) (ad : Nat → Nat → Nat) (p0 : Int32) (p1 : Int32) (x : ClC) (r : Int32) (hf : f_X5_cell p0 p1 x = some (.inr r)) : mR l yX5_cell cX5_cell 3 (some .int) 2 42 D I J O [.ref h0, .int p0, .int p1] (wCl I h0 n t b0 b1 hh x ++ wHi I O hh ha ad x.2.2.1) (qRi r) := by
  refine mR_open (own := RX5) rfl (by decide +kernel) (Nat.le_of_ble_eq_true rfl) (fun p e s m below meth c ls E hP hl => ?_)
  have hx := E.1
  have hb := E.2.1
  have hl : lv_has ls 3 [(0, .ref h0), (1, .int p0), (2, .int p1)] := hl
  unfold f_X5_cell at hf
  refine lv_aload_n hx hb dX5_cell_0 rfl (lv_at hl 0 rfl) ?_
  refine x_get E hP 0 rfl rfl in5 0 (by decide) q131 rfl rfl dX5_cell_1 ?_
  refine x_getN E hP 1 rfl rfl in3 0 (by decide) E.2.2.2.2.2.1.2.2.1 rfl rfl dX5_cell_4 ?_
  refine lv_iload_n hx hb dX5_cell_7 rfl (lv_at hl 1 rfl) ?_
  obtain ⟨z1, h, hf⟩ := bd_s hf
  refine x_ci (x_rV E (As := [.int p0]) (rest := []) (mt_X2_isCell l D I J O (n 1) (n 2) (n 3) (n 4) (n 5) (n 6) (n 7) p0 x.1.1 z1 h) blR (x_recv E hP 2 2 rfl rfl rfl) (x_pcR E (x_pick hP [2, 3, 4, 5, 6, 7, 8] rfl)) ok_X2_isCell q639 rfl hl.1 rfl (Nat.le_of_ble_eq_true rfl) ⟨Nat.le_of_ble_eq_true rfl, Nat.le_of_ble_eq_true rfl⟩ ⟨Nat.le_of_ble_eq_true rfl, Nat.le_of_ble_eq_true rfl⟩ dX5_cell_8) ?_
  refine lv_if_ne (tgt := 24) hx hb dX5_cell_11 (by decide) (fun hc => ?_) (fun hc => ?_)
  · rw [if_neg hc] at hf
    refine lv_iload_n hx hb dX5_cell_24 rfl (lv_at hl 2 rfl) ?_
    by_cases hc0 : p1 = 0
    · rw [if_pos hc0] at hf
      refine lv_lookup (off := 27) (tgt := 52) hx hb dX5_cell_25 (by decide) (by first | (rw [hc0]; done) | (rw [hc0]; rfl)) (by decide) ?_
      refine lv_aload_n hx hb dX5_cell_52 rfl (lv_at hl 0 rfl) ?_
      refine x_get E hP 0 rfl rfl in5 0 (by decide) q131 rfl rfl dX5_cell_53 ?_
      refine x_getN E hP 1 rfl rfl in3 0 (by decide) E.2.2.2.2.2.1.2.2.1 rfl rfl dX5_cell_56 ?_
      refine lv_iload_n hx hb dX5_cell_59 rfl (lv_at hl 1 rfl) ?_
      obtain ⟨z2, h, hf⟩ := bd_s hf
      refine x_ci (x_rV E (As := [.int p0]) (rest := []) (mt_X2_stampAt l D I J O (n 1) (n 2) (n 3) (n 4) (n 5) (n 6) (n 7) p0 x.1.1 z2 h) blR (x_recv E hP 2 2 rfl rfl rfl) (x_pcR E (x_pick hP [2, 3, 4, 5, 6, 7, 8] rfl)) ok_X2_stampAt q641 rfl hl.1 rfl (Nat.le_of_ble_eq_true rfl) ⟨Nat.le_of_ble_eq_true rfl, Nat.le_of_ble_eq_true rfl⟩ ⟨Nat.le_of_ble_eq_true rfl, Nat.le_of_ble_eq_true rfl⟩ dX5_cell_60) ?_
      exact x_iR E (Sum.inr.inj (Option.some.inj hf)) dX5_cell_63
    · rw [if_neg hc0] at hf
      by_cases hc1 : p1 = 1
      · rw [if_pos hc1] at hf
        refine lv_lookup (off := 39) (tgt := 64) hx hb dX5_cell_25 (by decide) (by first | (rw [hc1]; done) | (rw [hc1]; rfl)) (by decide) ?_
        refine lv_aload_n hx hb dX5_cell_64 rfl (lv_at hl 0 rfl) ?_
        refine x_get E hP 0 rfl rfl in5 0 (by decide) q131 rfl rfl dX5_cell_65 ?_
        refine x_getN E hP 1 rfl rfl in3 0 (by decide) E.2.2.2.2.2.1.2.2.1 rfl rfl dX5_cell_68 ?_
        refine lv_aload_n hx hb dX5_cell_71 rfl (lv_at hl 0 rfl) ?_
        refine x_get E hP 0 rfl rfl in5 0 (by decide) q131 rfl rfl dX5_cell_72 ?_
        refine x_getN E hP 1 rfl rfl in3 0 (by decide) E.2.2.2.2.2.1.2.2.1 rfl rfl dX5_cell_75 ?_
        refine lv_iload_n hx hb dX5_cell_78 rfl (lv_at hl 1 rfl) ?_
        obtain ⟨z3, h, hf⟩ := bd_s hf
        refine x_ci (x_rV E (As := [.int p0]) (rest := [.ref (n 1)]) (mt_X2_ownerOf l D I J O (n 1) (n 2) (n 3) (n 4) (n 5) (n 6) (n 7) p0 x.1.1 z3 h) blR (x_recv E hP 2 2 rfl rfl rfl) (x_pcR E (x_pick hP [2, 3, 4, 5, 6, 7, 8] rfl)) ok_X2_ownerOf q642 rfl hl.1 rfl (Nat.le_of_ble_eq_true rfl) ⟨Nat.le_of_ble_eq_true rfl, Nat.le_of_ble_eq_true rfl⟩ ⟨Nat.le_of_ble_eq_true rfl, Nat.le_of_ble_eq_true rfl⟩ dX5_cell_79) ?_
        obtain ⟨z4, h, hf⟩ := bd_s hf
        refine x_ci (x_rV E (As := [.int z3]) (rest := []) (mt_X2_handleOf l D I J O (n 1) (n 2) (n 3) (n 4) (n 5) (n 6) (n 7) z3 x.1.1 z4 h) blR (x_recv E hP 2 2 rfl rfl rfl) (x_pcR E (x_pick hP [2, 3, 4, 5, 6, 7, 8] rfl)) ok_X2_handleOf q395 rfl hl.1 rfl (Nat.le_of_ble_eq_true rfl) ⟨Nat.le_of_ble_eq_true rfl, Nat.le_of_ble_eq_true rfl⟩ ⟨Nat.le_of_ble_eq_true rfl, Nat.le_of_ble_eq_true rfl⟩ dX5_cell_82) ?_
        exact x_iR E (Sum.inr.inj (Option.some.inj hf)) dX5_cell_85
      · rw [if_neg hc1] at hf
        refine lv_lookup (off := 61) (tgt := 86) hx hb dX5_cell_25 (by decide) (by have q0 := sw_ne 0 0 (by decide) hc0; have q1 := sw_ne 1 1 (by decide) hc1; simp [Op.lookupswitch.offset, q0, q0.symm, q1, q1.symm]) (by decide) ?_
        cases hf
  · rw [if_pos hc] at hf
    cases hf
set_option maxRecDepth 100000 in
set_option maxHeartbeats 4000000 in
theorem mx_X5_cell (l : Launch) (hfl : l.stackTraces = false) (D : va_G) (I J O : ClassId) (h0 : Nat) (n t : Nat → Nat) (b0 b1 hh ha : Nat) (ad : Nat → Nat → Nat) (sz : Nat) (p0 : Int32) (p1 : Int32) (x : ClC) (ex : Nat) (hf : f_X5_cell p0 p1 x = some (.inl ex)) : mX l yX5_cell cX5_cell 3 (some .int) 6 82 D I J O sz [.ref h0, .int p0, .int p1] (wCl I h0 n t b0 b1 hh x ++ wHi I O hh ha ad x.2.2.1) (exn ex) := by
  refine mX_open (own := RX5) rfl (by decide +kernel) (Nat.le_of_ble_eq_true rfl) (fun p e s m below meth c ls E htab hX hsz hP hl => ?_)
  have hx := E.1
  have hb := E.2.1
  have hl : lv_has ls 3 [(0, .ref h0), (1, .int p0), (2, .int p1)] := hl
  unfold f_X5_cell at hf
  refine lv_aload_n hx hb dX5_cell_0 rfl (lv_at hl 0 rfl) ?_
  refine x_get E hP 0 rfl rfl in5 0 (by decide) q131 rfl rfl dX5_cell_1 ?_
  refine x_getN E hP 1 rfl rfl in3 0 (by decide) E.2.2.2.2.2.1.2.2.1 rfl rfl dX5_cell_4 ?_
  refine lv_iload_n hx hb dX5_cell_7 rfl (lv_at hl 1 rfl) ?_
  obtain ⟨z1, h, hf⟩ := bd_s hf
  refine x_ci (x_rV E (As := [.int p0]) (rest := []) (mt_X2_isCell l D I J O (n 1) (n 2) (n 3) (n 4) (n 5) (n 6) (n 7) p0 x.1.1 z1 h) blR (x_recv E hP 2 2 rfl rfl rfl) (x_pcR E (x_pick hP [2, 3, 4, 5, 6, 7, 8] rfl)) ok_X2_isCell q639 rfl hl.1 rfl (Nat.le_of_ble_eq_true rfl) ⟨Nat.le_of_ble_eq_true rfl, Nat.le_of_ble_eq_true rfl⟩ ⟨Nat.le_of_ble_eq_true rfl, Nat.le_of_ble_eq_true rfl⟩ dX5_cell_8) ?_
  refine lv_if_ne (tgt := 24) hx hb dX5_cell_11 (by decide) (fun hc => ?_) (fun hc => ?_)
  · rw [if_neg hc] at hf
    refine lv_iload_n hx hb dX5_cell_24 rfl (lv_at hl 2 rfl) ?_
    by_cases hc0 : p1 = 0
    · rw [if_pos hc0] at hf
      refine lv_lookup (off := 27) (tgt := 52) hx hb dX5_cell_25 (by decide) (by first | (rw [hc0]; done) | (rw [hc0]; rfl)) (by decide) ?_
      refine lv_aload_n hx hb dX5_cell_52 rfl (lv_at hl 0 rfl) ?_
      refine x_get E hP 0 rfl rfl in5 0 (by decide) q131 rfl rfl dX5_cell_53 ?_
      refine x_getN E hP 1 rfl rfl in3 0 (by decide) E.2.2.2.2.2.1.2.2.1 rfl rfl dX5_cell_56 ?_
      refine lv_iload_n hx hb dX5_cell_59 rfl (lv_at hl 1 rfl) ?_
      obtain ⟨z2, h, hf⟩ := bd_s hf
      refine x_ci (x_rV E (As := [.int p0]) (rest := []) (mt_X2_stampAt l D I J O (n 1) (n 2) (n 3) (n 4) (n 5) (n 6) (n 7) p0 x.1.1 z2 h) blR (x_recv E hP 2 2 rfl rfl rfl) (x_pcR E (x_pick hP [2, 3, 4, 5, 6, 7, 8] rfl)) ok_X2_stampAt q641 rfl hl.1 rfl (Nat.le_of_ble_eq_true rfl) ⟨Nat.le_of_ble_eq_true rfl, Nat.le_of_ble_eq_true rfl⟩ ⟨Nat.le_of_ble_eq_true rfl, Nat.le_of_ble_eq_true rfl⟩ dX5_cell_60) ?_
      cases hf
    · rw [if_neg hc0] at hf
      by_cases hc1 : p1 = 1
      · rw [if_pos hc1] at hf
        refine lv_lookup (off := 39) (tgt := 64) hx hb dX5_cell_25 (by decide) (by first | (rw [hc1]; done) | (rw [hc1]; rfl)) (by decide) ?_
        refine lv_aload_n hx hb dX5_cell_64 rfl (lv_at hl 0 rfl) ?_
        refine x_get E hP 0 rfl rfl in5 0 (by decide) q131 rfl rfl dX5_cell_65 ?_
        refine x_getN E hP 1 rfl rfl in3 0 (by decide) E.2.2.2.2.2.1.2.2.1 rfl rfl dX5_cell_68 ?_
        refine lv_aload_n hx hb dX5_cell_71 rfl (lv_at hl 0 rfl) ?_
        refine x_get E hP 0 rfl rfl in5 0 (by decide) q131 rfl rfl dX5_cell_72 ?_
        refine x_getN E hP 1 rfl rfl in3 0 (by decide) E.2.2.2.2.2.1.2.2.1 rfl rfl dX5_cell_75 ?_
        refine lv_iload_n hx hb dX5_cell_78 rfl (lv_at hl 1 rfl) ?_
        obtain ⟨z3, h, hf⟩ := bd_s hf
        refine x_ci (x_rV E (As := [.int p0]) (rest := [.ref (n 1)]) (mt_X2_ownerOf l D I J O (n 1) (n 2) (n 3) (n 4) (n 5) (n 6) (n 7) p0 x.1.1 z3 h) blR (x_recv E hP 2 2 rfl rfl rfl) (x_pcR E (x_pick hP [2, 3, 4, 5, 6, 7, 8] rfl)) ok_X2_ownerOf q642 rfl hl.1 rfl (Nat.le_of_ble_eq_true rfl) ⟨Nat.le_of_ble_eq_true rfl, Nat.le_of_ble_eq_true rfl⟩ ⟨Nat.le_of_ble_eq_true rfl, Nat.le_of_ble_eq_true rfl⟩ dX5_cell_79) ?_
        obtain ⟨z4, h, hf⟩ := bd_s hf
        refine x_ci (x_rV E (As := [.int z3]) (rest := []) (mt_X2_handleOf l D I J O (n 1) (n 2) (n 3) (n 4) (n 5) (n 6) (n 7) z3 x.1.1 z4 h) blR (x_recv E hP 2 2 rfl rfl rfl) (x_pcR E (x_pick hP [2, 3, 4, 5, 6, 7, 8] rfl)) ok_X2_handleOf q395 rfl hl.1 rfl (Nat.le_of_ble_eq_true rfl) ⟨Nat.le_of_ble_eq_true rfl, Nat.le_of_ble_eq_true rfl⟩ ⟨Nat.le_of_ble_eq_true rfl, Nat.le_of_ble_eq_true rfl⟩ dX5_cell_82) ?_
        cases hf
      · rw [if_neg hc1] at hf
        refine lv_lookup (off := 61) (tgt := 86) hx hb dX5_cell_25 (by decide) (by have q0 := sw_ne 0 0 (by decide) hc0; have q1 := sw_ne 1 1 (by decide) hc1; simp [Op.lookupswitch.offset, q0, q0.symm, q1, q1.symm]) (by decide) ?_
        have he := Sum.inl.inj (Option.some.inj hf)
        subst he
        exact x_thr (en := "java/lang/IllegalArgumentException") (text := "what is not 0 or 1") E htab hfl hX hl.1 hsz (by decide +kernel) q375 q10 (by decide) xg1 xn1 xo1 hX.2.2.1.1 dX5_cell_86 dX5_cell_89 dX5_cell_90 dX5_cell_92 dX5_cell_95 (Nat.le_of_ble_eq_true rfl) (Nat.le_of_ble_eq_true rfl)
  · rw [if_pos hc] at hf
    have he := Sum.inl.inj (Option.some.inj hf)
    subst he
    exact x_thr (en := "java/lang/IndexOutOfBoundsException") (text := "it is not a cell of the store") E htab hfl hX hl.1 hsz (by decide +kernel) q481 q13 (by decide) xg3 xn3 xo3 hX.2.2.1.2.2 dX5_cell_14 dX5_cell_17 dX5_cell_18 dX5_cell_20 dX5_cell_23 (Nat.le_of_ble_eq_true rfl) (Nat.le_of_ble_eq_true rfl)
theorem ok_X5_walker : yV yX5_walker cX5_walker 3 (some .int) 2 := ⟨q647, q1, q645, q646, by decide +kernel, by decide +kernel, by decide +kernel⟩
set_option maxRecDepth 100000 in
set_option maxHeartbeats 4000000 in
theorem mt_X5_walker (l : Launch) (D : va_G) (I J O : ClassId) (h0 : Nat) (n t : Nat → Nat) (b0 b1 hh ha : Nat) (ad : Nat → Nat → Nat) (p0 : Int32) (p1 : Int32) (x : ClC) (r : Int32) (hf : f_X5_walker p0 p1 x = some (.inr r)) : mR l yX5_walker cX5_walker 3 (some .int) 4 87 D I J O [.ref h0, .int p0, .int p1] (wCl I h0 n t b0 b1 hh x ++ wHi I O hh ha ad x.2.2.1) (qRi r) := by
  refine mR_open (own := RX5) rfl (by decide +kernel) (Nat.le_of_ble_eq_true rfl) (fun p e s m below meth c ls E hP hl => ?_)
  have hx := E.1
  have hb := E.2.1
  have hl : lv_has ls 3 [(0, .ref h0), (1, .int p0), (2, .int p1)] := hl
  unfold f_X5_walker at hf
  refine lv_iload_n hx hb dX5_walker_0 rfl (lv_at hl 1 rfl) ?_
  obtain ⟨z1, h, hf⟩ := bd_s hf
  refine x_ci (x_rS E (As := [.int p0]) (rest := []) (mt_X5_isWalker l D I J O p0 z1 h) blR (x_pcR E x_none) ok_X5_isWalker q517 rfl hl.1 rfl (Nat.le_of_ble_eq_true rfl) ⟨Nat.le_of_ble_eq_true rfl, Nat.le_of_ble_eq_true rfl⟩ ⟨Nat.le_of_ble_eq_true rfl, Nat.le_of_ble_eq_true rfl⟩ dX5_walker_1) ?_
  refine lv_if_ne (tgt := 17) hx hb dX5_walker_4 (by decide) (fun hc => ?_) (fun hc => ?_)
  · rw [if_neg hc] at hf
    refine lv_iload_n hx hb dX5_walker_17 rfl (lv_at hl 2 rfl) ?_
    by_cases hc0 : p1 = 0
    · rw [if_pos hc0] at hf
      refine lv_tableIn (tgt := 44) hx hb dX5_walker_18 (by rw [hc0]; decide) (by rw [hc0]; decide) (by rw [hc0]; rfl) (by decide) ?_
      refine lv_aload_n hx hb dX5_walker_44 rfl (lv_at hl 0 rfl) ?_
      refine x_get E hP 0 rfl rfl in5 0 (by decide) q131 rfl rfl dX5_walker_45 ?_
      refine x_getN E hP 1 rfl rfl in3 1 (by decide) E.2.2.2.2.2.1.2.2.2.1 rfl rfl dX5_walker_48 ?_
      refine lv_iload_n hx hb dX5_walker_51 rfl (lv_at hl 1 rfl) ?_
      obtain ⟨z2, h, hf⟩ := bd_s hf
      refine x_ci (x_rV E (As := [.int p0]) (rest := []) (mt_X1_standOf l D I J O (n 8) (n 9) (n 10) p0 x.1.2.1 z2 h) blR (x_recv E hP 9 1 rfl rfl rfl) (x_pcR E (x_pick hP [9, 10, 11] rfl)) ok_X1_standOf q521 rfl hl.1 rfl (Nat.le_of_ble_eq_true rfl) ⟨Nat.le_of_ble_eq_true rfl, Nat.le_of_ble_eq_true rfl⟩ ⟨Nat.le_of_ble_eq_true rfl, Nat.le_of_ble_eq_true rfl⟩ dX5_walker_52) ?_
      exact x_iR E (Sum.inr.inj (Option.some.inj hf)) dX5_walker_55
    · rw [if_neg hc0] at hf
      by_cases hc1 : p1 = 1
      · rw [if_pos hc1] at hf
        refine lv_tableIn (tgt := 56) hx hb dX5_walker_18 (by rw [hc1]; decide) (by rw [hc1]; decide) (by rw [hc1]; rfl) (by decide) ?_
        refine lv_aload_n hx hb dX5_walker_56 rfl (lv_at hl 0 rfl) ?_
        refine x_get E hP 0 rfl rfl in5 0 (by decide) q131 rfl rfl dX5_walker_57 ?_
        refine x_getN E hP 1 rfl rfl in3 0 (by decide) E.2.2.2.2.2.1.2.2.1 rfl rfl dX5_walker_60 ?_
        refine lv_aload_n hx hb dX5_walker_63 rfl (lv_at hl 0 rfl) ?_
        refine x_get E hP 0 rfl rfl in5 0 (by decide) q131 rfl rfl dX5_walker_64 ?_
        refine x_getN E hP 1 rfl rfl in3 1 (by decide) E.2.2.2.2.2.1.2.2.2.1 rfl rfl dX5_walker_67 ?_
        refine lv_iload_n hx hb dX5_walker_70 rfl (lv_at hl 1 rfl) ?_
        obtain ⟨z3, h, hf⟩ := bd_s hf
        refine x_ci (x_rV E (As := [.int p0]) (rest := [.ref (n 1)]) (mt_X1_thingUnder l D I J O (n 8) (n 9) (n 10) p0 x.1.2.1 z3 h) blR (x_recv E hP 9 1 rfl rfl rfl) (x_pcR E (x_pick hP [9, 10, 11] rfl)) ok_X1_thingUnder q550 rfl hl.1 rfl (Nat.le_of_ble_eq_true rfl) ⟨Nat.le_of_ble_eq_true rfl, Nat.le_of_ble_eq_true rfl⟩ ⟨Nat.le_of_ble_eq_true rfl, Nat.le_of_ble_eq_true rfl⟩ dX5_walker_71) ?_
        obtain ⟨z4, h, hf⟩ := bd_s hf
        refine x_ci (x_rV E (As := [.int z3]) (rest := []) (mt_X2_handleOf l D I J O (n 1) (n 2) (n 3) (n 4) (n 5) (n 6) (n 7) z3 x.1.1 z4 h) blR (x_recv E hP 2 2 rfl rfl rfl) (x_pcR E (x_pick hP [2, 3, 4, 5, 6, 7, 8] rfl)) ok_X2_handleOf q395 rfl hl.1 rfl (Nat.le_of_ble_eq_true rfl) ⟨Nat.le_of_ble_eq_true rfl, Nat.le_of_ble_eq_true rfl⟩ ⟨Nat.le_of_ble_eq_true rfl, Nat.le_of_ble_eq_true rfl⟩ dX5_walker_74) ?_
        exact x_iR E (Sum.inr.inj (Option.some.inj hf)) dX5_walker_77
      · rw [if_neg hc1] at hf
        by_cases hc2 : p1 = 2
        · rw [if_pos hc2] at hf
          refine lv_tableIn (tgt := 78) hx hb dX5_walker_18 (by rw [hc2]; decide) (by rw [hc2]; decide) (by rw [hc2]; rfl) (by decide) ?_
          refine lv_aload_n hx hb dX5_walker_78 rfl (lv_at hl 0 rfl) ?_
          refine x_get E hP 0 rfl rfl in5 0 (by decide) q131 rfl rfl dX5_walker_79 ?_
          refine x_getN E hP 1 rfl rfl in3 1 (by decide) E.2.2.2.2.2.1.2.2.2.1 rfl rfl dX5_walker_82 ?_
          refine lv_iload_n hx hb dX5_walker_85 rfl (lv_at hl 1 rfl) ?_
          obtain ⟨z5, h, hf⟩ := bd_s hf
          refine x_ci (x_rV E (As := [.int p0]) (rest := []) (mt_X1_thingsBehind l D I J O (n 8) (n 9) (n 10) p0 x.1.2.1 z5 h) blR (x_recv E hP 9 1 rfl rfl rfl) (x_pcR E (x_pick hP [9, 10, 11] rfl)) ok_X1_thingsBehind q648 rfl hl.1 rfl (Nat.le_of_ble_eq_true rfl) ⟨Nat.le_of_ble_eq_true rfl, Nat.le_of_ble_eq_true rfl⟩ ⟨Nat.le_of_ble_eq_true rfl, Nat.le_of_ble_eq_true rfl⟩ dX5_walker_86) ?_
          exact x_iR E (Sum.inr.inj (Option.some.inj hf)) dX5_walker_89
        · rw [if_neg hc2] at hf
          refine lv_tableOut (tgt := 90) hx hb dX5_walker_18 (by have q0 := sw_ne 0 0 (by decide) hc0; have q1 := sw_ne 1 1 (by decide) hc1; have q2 := sw_ne 2 2 (by decide) hc2; omega) (by decide) ?_
          cases hf
  · rw [if_pos hc] at hf
    cases hf
set_option maxRecDepth 100000 in
set_option maxHeartbeats 4000000 in
theorem mx_X5_walker (l : Launch) (hfl : l.stackTraces = false) (D : va_G) (I J O : ClassId) (h0 : Nat) (n t : Nat → Nat) (b0 b1 hh ha : Nat) (ad : Nat → Nat → Nat) (sz : Nat) (p0 : Int32) (p1 : Int32) (x : ClC) (ex : Nat) (hf : f_X5_walker p0 p1 x = some (.inl ex)) : mX l yX5_walker cX5_walker 3 (some .int) 6 87 D I J O sz [.ref h0, .int p0, .int p1] (wCl I h0 n t b0 b1 hh x ++ wHi I O hh ha ad x.2.2.1) (exn ex) := by
  refine mX_open (own := RX5) rfl (by decide +kernel) (Nat.le_of_ble_eq_true rfl) (fun p e s m below meth c ls E htab hX hsz hP hl => ?_)
  have hx := E.1
  have hb := E.2.1
  have hl : lv_has ls 3 [(0, .ref h0), (1, .int p0), (2, .int p1)] := hl
  unfold f_X5_walker at hf
  refine lv_iload_n hx hb dX5_walker_0 rfl (lv_at hl 1 rfl) ?_
  obtain ⟨z1, h, hf⟩ := bd_s hf
  refine x_ci (x_rS E (As := [.int p0]) (rest := []) (mt_X5_isWalker l D I J O p0 z1 h) blR (x_pcR E x_none) ok_X5_isWalker q517 rfl hl.1 rfl (Nat.le_of_ble_eq_true rfl) ⟨Nat.le_of_ble_eq_true rfl, Nat.le_of_ble_eq_true rfl⟩ ⟨Nat.le_of_ble_eq_true rfl, Nat.le_of_ble_eq_true rfl⟩ dX5_walker_1) ?_
  refine lv_if_ne (tgt := 17) hx hb dX5_walker_4 (by decide) (fun hc => ?_) (fun hc => ?_)
  · rw [if_neg hc] at hf
    refine lv_iload_n hx hb dX5_walker_17 rfl (lv_at hl 2 rfl) ?_
    by_cases hc0 : p1 = 0
    · rw [if_pos hc0] at hf
      refine lv_tableIn (tgt := 44) hx hb dX5_walker_18 (by rw [hc0]; decide) (by rw [hc0]; decide) (by rw [hc0]; rfl) (by decide) ?_
      refine lv_aload_n hx hb dX5_walker_44 rfl (lv_at hl 0 rfl) ?_
      refine x_get E hP 0 rfl rfl in5 0 (by decide) q131 rfl rfl dX5_walker_45 ?_
      refine x_getN E hP 1 rfl rfl in3 1 (by decide) E.2.2.2.2.2.1.2.2.2.1 rfl rfl dX5_walker_48 ?_
      refine lv_iload_n hx hb dX5_walker_51 rfl (lv_at hl 1 rfl) ?_
      obtain ⟨z2, h, hf⟩ := bd_s hf
      refine x_ci (x_rV E (As := [.int p0]) (rest := []) (mt_X1_standOf l D I J O (n 8) (n 9) (n 10) p0 x.1.2.1 z2 h) blR (x_recv E hP 9 1 rfl rfl rfl) (x_pcR E (x_pick hP [9, 10, 11] rfl)) ok_X1_standOf q521 rfl hl.1 rfl (Nat.le_of_ble_eq_true rfl) ⟨Nat.le_of_ble_eq_true rfl, Nat.le_of_ble_eq_true rfl⟩ ⟨Nat.le_of_ble_eq_true rfl, Nat.le_of_ble_eq_true rfl⟩ dX5_walker_52) ?_
      cases hf
    · rw [if_neg hc0] at hf
      by_cases hc1 : p1 = 1
      · rw [if_pos hc1] at hf
        refine lv_tableIn (tgt := 56) hx hb dX5_walker_18 (by rw [hc1]; decide) (by rw [hc1]; decide) (by rw [hc1]; rfl) (by decide) ?_
        refine lv_aload_n hx hb dX5_walker_56 rfl (lv_at hl 0 rfl) ?_
        refine x_get E hP 0 rfl rfl in5 0 (by decide) q131 rfl rfl dX5_walker_57 ?_
        refine x_getN E hP 1 rfl rfl in3 0 (by decide) E.2.2.2.2.2.1.2.2.1 rfl rfl dX5_walker_60 ?_
        refine lv_aload_n hx hb dX5_walker_63 rfl (lv_at hl 0 rfl) ?_
        refine x_get E hP 0 rfl rfl in5 0 (by decide) q131 rfl rfl dX5_walker_64 ?_
        refine x_getN E hP 1 rfl rfl in3 1 (by decide) E.2.2.2.2.2.1.2.2.2.1 rfl rfl dX5_walker_67 ?_
        refine lv_iload_n hx hb dX5_walker_70 rfl (lv_at hl 1 rfl) ?_
        obtain ⟨z3, h, hf⟩ := bd_s hf
        refine x_ci (x_rV E (As := [.int p0]) (rest := [.ref (n 1)]) (mt_X1_thingUnder l D I J O (n 8) (n 9) (n 10) p0 x.1.2.1 z3 h) blR (x_recv E hP 9 1 rfl rfl rfl) (x_pcR E (x_pick hP [9, 10, 11] rfl)) ok_X1_thingUnder q550 rfl hl.1 rfl (Nat.le_of_ble_eq_true rfl) ⟨Nat.le_of_ble_eq_true rfl, Nat.le_of_ble_eq_true rfl⟩ ⟨Nat.le_of_ble_eq_true rfl, Nat.le_of_ble_eq_true rfl⟩ dX5_walker_71) ?_
        obtain ⟨z4, h, hf⟩ := bd_s hf
        refine x_ci (x_rV E (As := [.int z3]) (rest := []) (mt_X2_handleOf l D I J O (n 1) (n 2) (n 3) (n 4) (n 5) (n 6) (n 7) z3 x.1.1 z4 h) blR (x_recv E hP 2 2 rfl rfl rfl) (x_pcR E (x_pick hP [2, 3, 4, 5, 6, 7, 8] rfl)) ok_X2_handleOf q395 rfl hl.1 rfl (Nat.le_of_ble_eq_true rfl) ⟨Nat.le_of_ble_eq_true rfl, Nat.le_of_ble_eq_true rfl⟩ ⟨Nat.le_of_ble_eq_true rfl, Nat.le_of_ble_eq_true rfl⟩ dX5_walker_74) ?_
        cases hf
      · rw [if_neg hc1] at hf
        by_cases hc2 : p1 = 2
        · rw [if_pos hc2] at hf
          refine lv_tableIn (tgt := 78) hx hb dX5_walker_18 (by rw [hc2]; decide) (by rw [hc2]; decide) (by rw [hc2]; rfl) (by decide) ?_
          refine lv_aload_n hx hb dX5_walker_78 rfl (lv_at hl 0 rfl) ?_
          refine x_get E hP 0 rfl rfl in5 0 (by decide) q131 rfl rfl dX5_walker_79 ?_
          refine x_getN E hP 1 rfl rfl in3 1 (by decide) E.2.2.2.2.2.1.2.2.2.1 rfl rfl dX5_walker_82 ?_
          refine lv_iload_n hx hb dX5_walker_85 rfl (lv_at hl 1 rfl) ?_
          obtain ⟨z5, h, hf⟩ := bd_s hf
          refine x_ci (x_rV E (As := [.int p0]) (rest := []) (mt_X1_thingsBehind l D I J O (n 8) (n 9) (n 10) p0 x.1.2.1 z5 h) blR (x_recv E hP 9 1 rfl rfl rfl) (x_pcR E (x_pick hP [9, 10, 11] rfl)) ok_X1_thingsBehind q648 rfl hl.1 rfl (Nat.le_of_ble_eq_true rfl) ⟨Nat.le_of_ble_eq_true rfl, Nat.le_of_ble_eq_true rfl⟩ ⟨Nat.le_of_ble_eq_true rfl, Nat.le_of_ble_eq_true rfl⟩ dX5_walker_86) ?_
          cases hf
        · rw [if_neg hc2] at hf
          refine lv_tableOut (tgt := 90) hx hb dX5_walker_18 (by have q0 := sw_ne 0 0 (by decide) hc0; have q1 := sw_ne 1 1 (by decide) hc1; have q2 := sw_ne 2 2 (by decide) hc2; omega) (by decide) ?_
          have he := Sum.inl.inj (Option.some.inj hf)
          subst he
          exact x_thr (en := "java/lang/IllegalArgumentException") (text := "what is not 0 to 2") E htab hfl hX hl.1 hsz (by decide +kernel) q375 q10 (by decide) xg1 xn1 xo1 hX.2.2.1.1 dX5_walker_90 dX5_walker_93 dX5_walker_94 dX5_walker_96 dX5_walker_99 (Nat.le_of_ble_eq_true rfl) (Nat.le_of_ble_eq_true rfl)
  · rw [if_pos hc] at hf
    have he := Sum.inl.inj (Option.some.inj hf)
    subst he
    exact x_thr (en := "java/lang/IndexOutOfBoundsException") (text := "there is no such walker") E htab hfl hX hl.1 hsz (by decide +kernel) q481 q13 (by decide) xg3 xn3 xo3 hX.2.2.1.2.2 dX5_walker_7 dX5_walker_10 dX5_walker_11 dX5_walker_13 dX5_walker_16 (Nat.le_of_ble_eq_true rfl) (Nat.le_of_ble_eq_true rfl)
theorem ok_X5_count : yV yX5_count cX5_count 2 (some .int) 1 := ⟨q402, q1, q400, q401, by decide +kernel, by decide +kernel, by decide +kernel⟩
set_option maxRecDepth 100000 in
set_option maxHeartbeats 4000000 in
theorem mt_X5_count (l : Launch) (D : va_G) (I J O : ClassId) (h0 : Nat) (n t : Nat → Nat) (b0 b1 hh ha : Nat) (ad : Nat → Nat → Nat) (p0 : Int32) (x : ClC) (r : Int32) (hf : f_X5_count p0 x = some (.inr r)) : mR l yX5_count cX5_count 2 (some .int) 5 105 D I J O [.ref h0, .int p0] (wCl I h0 n t b0 b1 hh x ++ wHi I O hh ha ad x.2.2.1) (qRi r) := by
  refine mR_open (own := RX5) rfl (by decide +kernel) (Nat.le_of_ble_eq_true rfl) (fun p e s m below meth c ls E hP hl => ?_)
  have hx := E.1
  have hb := E.2.1
  have hl : lv_has ls 2 [(0, .ref h0), (1, .int p0)] := hl
  unfold f_X5_count at hf
  refine lv_iload_n hx hb dX5_count_0 rfl (lv_at hl 1 rfl) ?_
  by_cases hc0 : p0 = 0
  · rw [if_pos hc0] at hf
    refine lv_tableIn (tgt := 56) hx hb dX5_count_1 (by rw [hc0]; decide) (by rw [hc0]; decide) (by rw [hc0]; rfl) (by decide) ?_
    refine lv_aload_n hx hb dX5_count_56 rfl (lv_at hl 0 rfl) ?_
    refine x_get E hP 0 rfl rfl in5 0 (by decide) q131 rfl rfl dX5_count_57 ?_
    refine x_getN E hP 1 rfl rfl in3 1 (by decide) E.2.2.2.2.2.1.2.2.2.1 rfl rfl dX5_count_60 ?_
    obtain ⟨z1, h, hf⟩ := bd_s hf
    refine x_ci (x_rV E (As := []) (rest := []) (mt_X1_things l D I J O (n 8) (n 9) (n 10) x.1.2.1 z1 h) blR (x_recv E hP 9 1 rfl rfl rfl) (x_pcR E (x_pick hP [9, 10, 11] rfl)) ok_X1_things q403 rfl hl.1 rfl (Nat.le_of_ble_eq_true rfl) ⟨Nat.le_of_ble_eq_true rfl, Nat.le_of_ble_eq_true rfl⟩ ⟨Nat.le_of_ble_eq_true rfl, Nat.le_of_ble_eq_true rfl⟩ dX5_count_63) ?_
    exact x_iR E (Sum.inr.inj (Option.some.inj hf)) dX5_count_66
  · rw [if_neg hc0] at hf
    by_cases hc1 : p0 = 1
    · rw [if_pos hc1] at hf
      refine lv_tableIn (tgt := 67) hx hb dX5_count_1 (by rw [hc1]; decide) (by rw [hc1]; decide) (by rw [hc1]; rfl) (by decide) ?_
      refine lv_aload_n hx hb dX5_count_67 rfl (lv_at hl 0 rfl) ?_
      refine x_get E hP 0 rfl rfl in5 0 (by decide) q131 rfl rfl dX5_count_68 ?_
      refine x_getN E hP 1 rfl rfl in3 1 (by decide) E.2.2.2.2.2.1.2.2.2.1 rfl rfl dX5_count_71 ?_
      obtain ⟨z2, h, hf⟩ := bd_s hf
      refine x_ci (x_rV E (As := []) (rest := []) (mt_X1_tombstones l D I J O (n 8) (n 9) (n 10) x.1.2.1 z2 h) blR (x_recv E hP 9 1 rfl rfl rfl) (x_pcR E (x_pick hP [9, 10, 11] rfl)) ok_X1_tombstones q414 rfl hl.1 rfl (Nat.le_of_ble_eq_true rfl) ⟨Nat.le_of_ble_eq_true rfl, Nat.le_of_ble_eq_true rfl⟩ ⟨Nat.le_of_ble_eq_true rfl, Nat.le_of_ble_eq_true rfl⟩ dX5_count_74) ?_
      exact x_iR E (Sum.inr.inj (Option.some.inj hf)) dX5_count_77
    · rw [if_neg hc1] at hf
      by_cases hc2 : p0 = 2
      · rw [if_pos hc2] at hf
        refine lv_tableIn (tgt := 78) hx hb dX5_count_1 (by rw [hc2]; decide) (by rw [hc2]; decide) (by rw [hc2]; rfl) (by decide) ?_
        refine lv_aload_n hx hb dX5_count_78 rfl (lv_at hl 0 rfl) ?_
        refine x_get E hP 0 rfl rfl in5 0 (by decide) q131 rfl rfl dX5_count_79 ?_
        refine x_getN E hP 1 rfl rfl in3 0 (by decide) E.2.2.2.2.2.1.2.2.1 rfl rfl dX5_count_82 ?_
        obtain ⟨z3, h, hf⟩ := bd_s hf
        refine x_ci (x_rV E (As := []) (rest := []) (mt_X2_cellsNow l D I J O (n 1) (n 2) (n 3) (n 4) (n 5) (n 6) (n 7) x.1.1 z3 h) blR (x_recv E hP 2 2 rfl rfl rfl) (x_pcR E (x_pick hP [2, 3, 4, 5, 6, 7, 8] rfl)) ok_X2_cellsNow q419 rfl hl.1 rfl (Nat.le_of_ble_eq_true rfl) ⟨Nat.le_of_ble_eq_true rfl, Nat.le_of_ble_eq_true rfl⟩ ⟨Nat.le_of_ble_eq_true rfl, Nat.le_of_ble_eq_true rfl⟩ dX5_count_85) ?_
        exact x_iR E (Sum.inr.inj (Option.some.inj hf)) dX5_count_88
      · rw [if_neg hc2] at hf
        by_cases hc3 : p0 = 3
        · rw [if_pos hc3] at hf
          refine lv_tableIn (tgt := 89) hx hb dX5_count_1 (by rw [hc3]; decide) (by rw [hc3]; decide) (by rw [hc3]; rfl) (by decide) ?_
          refine lv_aload_n hx hb dX5_count_89 rfl (lv_at hl 0 rfl) ?_
          refine x_get E hP 0 rfl rfl in5 0 (by decide) q131 rfl rfl dX5_count_90 ?_
          refine x_getN E hP 1 rfl rfl in3 0 (by decide) E.2.2.2.2.2.1.2.2.1 rfl rfl dX5_count_93 ?_
          obtain ⟨z4, h, hf⟩ := bd_s hf
          refine x_ci (x_rV E (As := []) (rest := []) (mt_X2_freeCells l D I J O (n 1) (n 2) (n 3) (n 4) (n 5) (n 6) (n 7) x.1.1 z4 h) blR (x_recv E hP 2 2 rfl rfl rfl) (x_pcR E (x_pick hP [2, 3, 4, 5, 6, 7, 8] rfl)) ok_X2_freeCells q420 rfl hl.1 rfl (Nat.le_of_ble_eq_true rfl) ⟨Nat.le_of_ble_eq_true rfl, Nat.le_of_ble_eq_true rfl⟩ ⟨Nat.le_of_ble_eq_true rfl, Nat.le_of_ble_eq_true rfl⟩ dX5_count_96) ?_
          exact x_iR E (Sum.inr.inj (Option.some.inj hf)) dX5_count_99
        · rw [if_neg hc3] at hf
          by_cases hc4 : p0 = 4
          · rw [if_pos hc4] at hf
            refine lv_tableIn (tgt := 100) hx hb dX5_count_1 (by rw [hc4]; decide) (by rw [hc4]; decide) (by rw [hc4]; rfl) (by decide) ?_
            refine lv_aload_n hx hb dX5_count_100 rfl (lv_at hl 0 rfl) ?_
            refine x_get E hP 0 rfl rfl in5 0 (by decide) q131 rfl rfl dX5_count_101 ?_
            refine x_getN E hP 1 rfl rfl in3 0 (by decide) E.2.2.2.2.2.1.2.2.1 rfl rfl dX5_count_104 ?_
            obtain ⟨z5, h, hf⟩ := bd_s hf
            refine x_ci (x_rV E (As := []) (rest := []) (mt_X2_sumOfValues l D I J O (n 1) (n 2) (n 3) (n 4) (n 5) (n 6) (n 7) x.1.1 z5 h) blR (x_recv E hP 2 2 rfl rfl rfl) (x_pcR E (x_pick hP [2, 3, 4, 5, 6, 7, 8] rfl)) ok_X2_sumOfValues q432 rfl hl.1 rfl (Nat.le_of_ble_eq_true rfl) ⟨Nat.le_of_ble_eq_true rfl, Nat.le_of_ble_eq_true rfl⟩ ⟨Nat.le_of_ble_eq_true rfl, Nat.le_of_ble_eq_true rfl⟩ dX5_count_107) ?_
            exact x_iR E (Sum.inr.inj (Option.some.inj hf)) dX5_count_110
          · rw [if_neg hc4] at hf
            by_cases hc5 : p0 = 5
            · rw [if_pos hc5] at hf
              refine lv_tableIn (tgt := 111) hx hb dX5_count_1 (by rw [hc5]; decide) (by rw [hc5]; decide) (by rw [hc5]; rfl) (by decide) ?_
              refine lv_aload_n hx hb dX5_count_111 rfl (lv_at hl 0 rfl) ?_
              refine x_get E hP 0 rfl rfl in5 0 (by decide) q131 rfl rfl dX5_count_112 ?_
              refine x_getN E hP 1 rfl rfl in3 3 (by decide) E.2.2.2.2.2.1.2.2.2.2.1 rfl rfl dX5_count_115 ?_
              exact x_iR E (Sum.inr.inj (Option.some.inj hf)) dX5_count_118
            · rw [if_neg hc5] at hf
              by_cases hc6 : p0 = 6
              · rw [if_pos hc6] at hf
                refine lv_tableIn (tgt := 119) hx hb dX5_count_1 (by rw [hc6]; decide) (by rw [hc6]; decide) (by rw [hc6]; rfl) (by decide) ?_
                refine lv_aload_n hx hb dX5_count_119 rfl (lv_at hl 0 rfl) ?_
                refine x_get E hP 0 rfl rfl in5 0 (by decide) q131 rfl rfl dX5_count_120 ?_
                refine x_getN E hP 1 rfl rfl in3 4 (by decide) E.2.2.2.2.2.1.2.2.2.2.2.1 rfl rfl dX5_count_123 ?_
                exact x_iR E (Sum.inr.inj (Option.some.inj hf)) dX5_count_126
              · rw [if_neg hc6] at hf
                by_cases hc7 : p0 = 7
                · rw [if_pos hc7] at hf
                  refine lv_tableIn (tgt := 127) hx hb dX5_count_1 (by rw [hc7]; decide) (by rw [hc7]; decide) (by rw [hc7]; rfl) (by decide) ?_
                  refine lv_aload_n hx hb dX5_count_127 rfl (lv_at hl 0 rfl) ?_
                  refine x_get E hP 0 rfl rfl in5 0 (by decide) q131 rfl rfl dX5_count_128 ?_
                  refine x_getN E hP 1 rfl rfl in3 5 (by decide) E.2.2.2.2.2.1.2.2.2.2.2.2.1 rfl rfl dX5_count_131 ?_
                  exact x_iR E (Sum.inr.inj (Option.some.inj hf)) dX5_count_134
                · rw [if_neg hc7] at hf
                  by_cases hc8 : p0 = 8
                  · rw [if_pos hc8] at hf
                    refine lv_tableIn (tgt := 135) hx hb dX5_count_1 (by rw [hc8]; decide) (by rw [hc8]; decide) (by rw [hc8]; rfl) (by decide) ?_
                    refine lv_aload_n hx hb dX5_count_135 rfl (lv_at hl 0 rfl) ?_
                    refine x_get E hP 0 rfl rfl in5 0 (by decide) q131 rfl rfl dX5_count_136 ?_
                    refine x_getN E hP 1 rfl rfl in3 6 (by decide) E.2.2.2.2.2.1.2.2.2.2.2.2.2.1 rfl rfl dX5_count_139 ?_
                    exact x_iR E (Sum.inr.inj (Option.some.inj hf)) dX5_count_142
                  · rw [if_neg hc8] at hf
                    by_cases hc9 : p0 = 9
                    · rw [if_pos hc9] at hf
                      refine lv_tableIn (tgt := 143) hx hb dX5_count_1 (by rw [hc9]; decide) (by rw [hc9]; decide) (by rw [hc9]; rfl) (by decide) ?_
                      refine lv_aload_n hx hb dX5_count_143 rfl (lv_at hl 0 rfl) ?_
                      refine x_get E hP 0 rfl rfl in5 2 (by decide) q133 rfl rfl dX5_count_144 ?_
                      obtain ⟨z6, h, hf⟩ := bd_s hf
                      refine x_ci (x_rV E (As := []) (rest := []) (mt_X0_size l D I J O hh ha ad x.2.2.1 z6 h) blR (x_recv E (x_lastpl hP) 0 0 rfl rfl rfl) (x_pcR E (x_lastpl hP)) ok_X0_size q295 rfl hl.1 rfl (Nat.le_of_ble_eq_true rfl) ⟨Nat.le_of_ble_eq_true rfl, Nat.le_of_ble_eq_true rfl⟩ ⟨Nat.le_of_ble_eq_true rfl, Nat.le_of_ble_eq_true rfl⟩ dX5_count_147) ?_
                      exact x_iR E (Sum.inr.inj (Option.some.inj hf)) dX5_count_150
                    · rw [if_neg hc9] at hf
                      refine lv_tableOut (tgt := 151) hx hb dX5_count_1 (by have q0 := sw_ne 0 0 (by decide) hc0; have q1 := sw_ne 1 1 (by decide) hc1; have q2 := sw_ne 2 2 (by decide) hc2; have q3 := sw_ne 3 3 (by decide) hc3; have q4 := sw_ne 4 4 (by decide) hc4; have q5 := sw_ne 5 5 (by decide) hc5; have q6 := sw_ne 6 6 (by decide) hc6; have q7 := sw_ne 7 7 (by decide) hc7; have q8 := sw_ne 8 8 (by decide) hc8; have q9 := sw_ne 9 9 (by decide) hc9; omega) (by decide) ?_
                      cases hf
set_option maxRecDepth 100000 in
set_option maxHeartbeats 4000000 in
theorem mx_X5_count (l : Launch) (hfl : l.stackTraces = false) (D : va_G) (I J O : ClassId) (h0 : Nat) (n t : Nat → Nat) (b0 b1 hh ha : Nat) (ad : Nat → Nat → Nat) (sz : Nat) (p0 : Int32) (x : ClC) (ex : Nat) (hf : f_X5_count p0 x = some (.inl ex)) : mX l yX5_count cX5_count 2 (some .int) 6 105 D I J O sz [.ref h0, .int p0] (wCl I h0 n t b0 b1 hh x ++ wHi I O hh ha ad x.2.2.1) (exn ex) := by
  refine mX_open (own := RX5) rfl (by decide +kernel) (Nat.le_of_ble_eq_true rfl) (fun p e s m below meth c ls E htab hX hsz hP hl => ?_)
  have hx := E.1
  have hb := E.2.1
  have hl : lv_has ls 2 [(0, .ref h0), (1, .int p0)] := hl
  unfold f_X5_count at hf
  refine lv_iload_n hx hb dX5_count_0 rfl (lv_at hl 1 rfl) ?_
  by_cases hc0 : p0 = 0
  · rw [if_pos hc0] at hf
    refine lv_tableIn (tgt := 56) hx hb dX5_count_1 (by rw [hc0]; decide) (by rw [hc0]; decide) (by rw [hc0]; rfl) (by decide) ?_
    refine lv_aload_n hx hb dX5_count_56 rfl (lv_at hl 0 rfl) ?_
    refine x_get E hP 0 rfl rfl in5 0 (by decide) q131 rfl rfl dX5_count_57 ?_
    refine x_getN E hP 1 rfl rfl in3 1 (by decide) E.2.2.2.2.2.1.2.2.2.1 rfl rfl dX5_count_60 ?_
    obtain ⟨z1, h, hf⟩ := bd_s hf
    refine x_ci (x_rV E (As := []) (rest := []) (mt_X1_things l D I J O (n 8) (n 9) (n 10) x.1.2.1 z1 h) blR (x_recv E hP 9 1 rfl rfl rfl) (x_pcR E (x_pick hP [9, 10, 11] rfl)) ok_X1_things q403 rfl hl.1 rfl (Nat.le_of_ble_eq_true rfl) ⟨Nat.le_of_ble_eq_true rfl, Nat.le_of_ble_eq_true rfl⟩ ⟨Nat.le_of_ble_eq_true rfl, Nat.le_of_ble_eq_true rfl⟩ dX5_count_63) ?_
    cases hf
  · rw [if_neg hc0] at hf
    by_cases hc1 : p0 = 1
    · rw [if_pos hc1] at hf
      refine lv_tableIn (tgt := 67) hx hb dX5_count_1 (by rw [hc1]; decide) (by rw [hc1]; decide) (by rw [hc1]; rfl) (by decide) ?_
      refine lv_aload_n hx hb dX5_count_67 rfl (lv_at hl 0 rfl) ?_
      refine x_get E hP 0 rfl rfl in5 0 (by decide) q131 rfl rfl dX5_count_68 ?_
      refine x_getN E hP 1 rfl rfl in3 1 (by decide) E.2.2.2.2.2.1.2.2.2.1 rfl rfl dX5_count_71 ?_
      obtain ⟨z2, h, hf⟩ := bd_s hf
      refine x_ci (x_rV E (As := []) (rest := []) (mt_X1_tombstones l D I J O (n 8) (n 9) (n 10) x.1.2.1 z2 h) blR (x_recv E hP 9 1 rfl rfl rfl) (x_pcR E (x_pick hP [9, 10, 11] rfl)) ok_X1_tombstones q414 rfl hl.1 rfl (Nat.le_of_ble_eq_true rfl) ⟨Nat.le_of_ble_eq_true rfl, Nat.le_of_ble_eq_true rfl⟩ ⟨Nat.le_of_ble_eq_true rfl, Nat.le_of_ble_eq_true rfl⟩ dX5_count_74) ?_
      cases hf
    · rw [if_neg hc1] at hf
      by_cases hc2 : p0 = 2
      · rw [if_pos hc2] at hf
        refine lv_tableIn (tgt := 78) hx hb dX5_count_1 (by rw [hc2]; decide) (by rw [hc2]; decide) (by rw [hc2]; rfl) (by decide) ?_
        refine lv_aload_n hx hb dX5_count_78 rfl (lv_at hl 0 rfl) ?_
        refine x_get E hP 0 rfl rfl in5 0 (by decide) q131 rfl rfl dX5_count_79 ?_
        refine x_getN E hP 1 rfl rfl in3 0 (by decide) E.2.2.2.2.2.1.2.2.1 rfl rfl dX5_count_82 ?_
        obtain ⟨z3, h, hf⟩ := bd_s hf
        refine x_ci (x_rV E (As := []) (rest := []) (mt_X2_cellsNow l D I J O (n 1) (n 2) (n 3) (n 4) (n 5) (n 6) (n 7) x.1.1 z3 h) blR (x_recv E hP 2 2 rfl rfl rfl) (x_pcR E (x_pick hP [2, 3, 4, 5, 6, 7, 8] rfl)) ok_X2_cellsNow q419 rfl hl.1 rfl (Nat.le_of_ble_eq_true rfl) ⟨Nat.le_of_ble_eq_true rfl, Nat.le_of_ble_eq_true rfl⟩ ⟨Nat.le_of_ble_eq_true rfl, Nat.le_of_ble_eq_true rfl⟩ dX5_count_85) ?_
        cases hf
      · rw [if_neg hc2] at hf
        by_cases hc3 : p0 = 3
        · rw [if_pos hc3] at hf
          refine lv_tableIn (tgt := 89) hx hb dX5_count_1 (by rw [hc3]; decide) (by rw [hc3]; decide) (by rw [hc3]; rfl) (by decide) ?_
          refine lv_aload_n hx hb dX5_count_89 rfl (lv_at hl 0 rfl) ?_
          refine x_get E hP 0 rfl rfl in5 0 (by decide) q131 rfl rfl dX5_count_90 ?_
          refine x_getN E hP 1 rfl rfl in3 0 (by decide) E.2.2.2.2.2.1.2.2.1 rfl rfl dX5_count_93 ?_
          obtain ⟨z4, h, hf⟩ := bd_s hf
          refine x_ci (x_rV E (As := []) (rest := []) (mt_X2_freeCells l D I J O (n 1) (n 2) (n 3) (n 4) (n 5) (n 6) (n 7) x.1.1 z4 h) blR (x_recv E hP 2 2 rfl rfl rfl) (x_pcR E (x_pick hP [2, 3, 4, 5, 6, 7, 8] rfl)) ok_X2_freeCells q420 rfl hl.1 rfl (Nat.le_of_ble_eq_true rfl) ⟨Nat.le_of_ble_eq_true rfl, Nat.le_of_ble_eq_true rfl⟩ ⟨Nat.le_of_ble_eq_true rfl, Nat.le_of_ble_eq_true rfl⟩ dX5_count_96) ?_
          cases hf
        · rw [if_neg hc3] at hf
          by_cases hc4 : p0 = 4
          · rw [if_pos hc4] at hf
            refine lv_tableIn (tgt := 100) hx hb dX5_count_1 (by rw [hc4]; decide) (by rw [hc4]; decide) (by rw [hc4]; rfl) (by decide) ?_
            refine lv_aload_n hx hb dX5_count_100 rfl (lv_at hl 0 rfl) ?_
            refine x_get E hP 0 rfl rfl in5 0 (by decide) q131 rfl rfl dX5_count_101 ?_
            refine x_getN E hP 1 rfl rfl in3 0 (by decide) E.2.2.2.2.2.1.2.2.1 rfl rfl dX5_count_104 ?_
            obtain ⟨z5, h, hf⟩ := bd_s hf
            refine x_ci (x_rV E (As := []) (rest := []) (mt_X2_sumOfValues l D I J O (n 1) (n 2) (n 3) (n 4) (n 5) (n 6) (n 7) x.1.1 z5 h) blR (x_recv E hP 2 2 rfl rfl rfl) (x_pcR E (x_pick hP [2, 3, 4, 5, 6, 7, 8] rfl)) ok_X2_sumOfValues q432 rfl hl.1 rfl (Nat.le_of_ble_eq_true rfl) ⟨Nat.le_of_ble_eq_true rfl, Nat.le_of_ble_eq_true rfl⟩ ⟨Nat.le_of_ble_eq_true rfl, Nat.le_of_ble_eq_true rfl⟩ dX5_count_107) ?_
            cases hf
          · rw [if_neg hc4] at hf
            by_cases hc5 : p0 = 5
            · rw [if_pos hc5] at hf
              refine lv_tableIn (tgt := 111) hx hb dX5_count_1 (by rw [hc5]; decide) (by rw [hc5]; decide) (by rw [hc5]; rfl) (by decide) ?_
              refine lv_aload_n hx hb dX5_count_111 rfl (lv_at hl 0 rfl) ?_
              refine x_get E hP 0 rfl rfl in5 0 (by decide) q131 rfl rfl dX5_count_112 ?_
              refine x_getN E hP 1 rfl rfl in3 3 (by decide) E.2.2.2.2.2.1.2.2.2.2.1 rfl rfl dX5_count_115 ?_
              cases hf
            · rw [if_neg hc5] at hf
              by_cases hc6 : p0 = 6
              · rw [if_pos hc6] at hf
                refine lv_tableIn (tgt := 119) hx hb dX5_count_1 (by rw [hc6]; decide) (by rw [hc6]; decide) (by rw [hc6]; rfl) (by decide) ?_
                refine lv_aload_n hx hb dX5_count_119 rfl (lv_at hl 0 rfl) ?_
                refine x_get E hP 0 rfl rfl in5 0 (by decide) q131 rfl rfl dX5_count_120 ?_
                refine x_getN E hP 1 rfl rfl in3 4 (by decide) E.2.2.2.2.2.1.2.2.2.2.2.1 rfl rfl dX5_count_123 ?_
                cases hf
              · rw [if_neg hc6] at hf
                by_cases hc7 : p0 = 7
                · rw [if_pos hc7] at hf
                  refine lv_tableIn (tgt := 127) hx hb dX5_count_1 (by rw [hc7]; decide) (by rw [hc7]; decide) (by rw [hc7]; rfl) (by decide) ?_
                  refine lv_aload_n hx hb dX5_count_127 rfl (lv_at hl 0 rfl) ?_
                  refine x_get E hP 0 rfl rfl in5 0 (by decide) q131 rfl rfl dX5_count_128 ?_
                  refine x_getN E hP 1 rfl rfl in3 5 (by decide) E.2.2.2.2.2.1.2.2.2.2.2.2.1 rfl rfl dX5_count_131 ?_
                  cases hf
                · rw [if_neg hc7] at hf
                  by_cases hc8 : p0 = 8
                  · rw [if_pos hc8] at hf
                    refine lv_tableIn (tgt := 135) hx hb dX5_count_1 (by rw [hc8]; decide) (by rw [hc8]; decide) (by rw [hc8]; rfl) (by decide) ?_
                    refine lv_aload_n hx hb dX5_count_135 rfl (lv_at hl 0 rfl) ?_
                    refine x_get E hP 0 rfl rfl in5 0 (by decide) q131 rfl rfl dX5_count_136 ?_
                    refine x_getN E hP 1 rfl rfl in3 6 (by decide) E.2.2.2.2.2.1.2.2.2.2.2.2.2.1 rfl rfl dX5_count_139 ?_
                    cases hf
                  · rw [if_neg hc8] at hf
                    by_cases hc9 : p0 = 9
                    · rw [if_pos hc9] at hf
                      refine lv_tableIn (tgt := 143) hx hb dX5_count_1 (by rw [hc9]; decide) (by rw [hc9]; decide) (by rw [hc9]; rfl) (by decide) ?_
                      refine lv_aload_n hx hb dX5_count_143 rfl (lv_at hl 0 rfl) ?_
                      refine x_get E hP 0 rfl rfl in5 2 (by decide) q133 rfl rfl dX5_count_144 ?_
                      obtain ⟨z6, h, hf⟩ := bd_s hf
                      refine x_ci (x_rV E (As := []) (rest := []) (mt_X0_size l D I J O hh ha ad x.2.2.1 z6 h) blR (x_recv E (x_lastpl hP) 0 0 rfl rfl rfl) (x_pcR E (x_lastpl hP)) ok_X0_size q295 rfl hl.1 rfl (Nat.le_of_ble_eq_true rfl) ⟨Nat.le_of_ble_eq_true rfl, Nat.le_of_ble_eq_true rfl⟩ ⟨Nat.le_of_ble_eq_true rfl, Nat.le_of_ble_eq_true rfl⟩ dX5_count_147) ?_
                      cases hf
                    · rw [if_neg hc9] at hf
                      refine lv_tableOut (tgt := 151) hx hb dX5_count_1 (by have q0 := sw_ne 0 0 (by decide) hc0; have q1 := sw_ne 1 1 (by decide) hc1; have q2 := sw_ne 2 2 (by decide) hc2; have q3 := sw_ne 3 3 (by decide) hc3; have q4 := sw_ne 4 4 (by decide) hc4; have q5 := sw_ne 5 5 (by decide) hc5; have q6 := sw_ne 6 6 (by decide) hc6; have q7 := sw_ne 7 7 (by decide) hc7; have q8 := sw_ne 8 8 (by decide) hc8; have q9 := sw_ne 9 9 (by decide) hc9; omega) (by decide) ?_
                      have he := Sum.inl.inj (Option.some.inj hf)
                      subst he
                      exact x_thr (en := "java/lang/IllegalArgumentException") (text := "what is not 0 to 9") E htab hfl hX hl.1 hsz (by decide +kernel) q375 q10 (by decide) xg1 xn1 xo1 hX.2.2.1.1 dX5_count_151 dX5_count_154 dX5_count_155 dX5_count_157 dX5_count_160 (Nat.le_of_ble_eq_true rfl) (Nat.le_of_ble_eq_true rfl)
theorem ok_X5_begins : yV yX5_begins cX5_begins 2 (some .int) 1 := ⟨q656, q1, q654, q655, by decide +kernel, by decide +kernel, by decide +kernel⟩
set_option maxRecDepth 100000 in
set_option maxHeartbeats 4000000 in
theorem mt_X5_begins (l : Launch) (D : va_G) (I J O : ClassId) (h0 : Nat) (n t : Nat → Nat) (b0 b1 hh ha : Nat) (ad : Nat → Nat → Nat) (p0 : Int32) (x : ClC) (r : Int32) (hf : f_X5_begins p0 x = some (.inr r)) : mR l yX5_begins cX5_begins 2 (some .int) 1 23 D I J O [.ref h0, .int p0] (wCl I h0 n t b0 b1 hh x ++ wHi I O hh ha ad x.2.2.1) (qRi r) := by
  refine mR_open (own := RX5) rfl (by decide +kernel) (Nat.le_of_ble_eq_true rfl) (fun p e s m below meth c ls E hP hl => ?_)
  have hx := E.1
  have hb := E.2.1
  have hl : lv_has ls 2 [(0, .ref h0), (1, .int p0)] := hl
  unfold f_X5_begins at hf
  refine lv_iload_n hx hb dX5_begins_0 rfl (lv_at hl 1 rfl) ?_
  obtain ⟨z1, h, hf⟩ := bd_s hf
  refine x_ci (x_rS E (As := [.int p0]) (rest := []) (mt_X5_isSize l D I J O p0 z1 h) blR (x_pcR E x_none) ok_X5_isSize q461 rfl hl.1 rfl (Nat.le_of_ble_eq_true rfl) ⟨Nat.le_of_ble_eq_true rfl, Nat.le_of_ble_eq_true rfl⟩ ⟨Nat.le_of_ble_eq_true rfl, Nat.le_of_ble_eq_true rfl⟩ dX5_begins_1) ?_
  refine lv_if_ne (tgt := 17) hx hb dX5_begins_4 (by decide) (fun hc => ?_) (fun hc => ?_)
  · rw [if_neg hc] at hf
    refine lv_aload_n hx hb dX5_begins_17 rfl (lv_at hl 0 rfl) ?_
    refine x_get E hP 0 rfl rfl in5 0 (by decide) q131 rfl rfl dX5_begins_18 ?_
    refine x_getN E hP 1 rfl rfl in3 0 (by decide) E.2.2.2.2.2.1.2.2.1 rfl rfl dX5_begins_21 ?_
    refine lv_iload_n hx hb dX5_begins_24 rfl (lv_at hl 1 rfl) ?_
    obtain ⟨z2, h, hf⟩ := bd_s hf
    refine x_ci (x_rV E (As := [.int p0]) (rest := []) (mt_X2_lowestFor l D I J O (n 1) (n 2) (n 3) (n 4) (n 5) (n 6) (n 7) p0 x.1.1 z2 h) blR (x_recv E hP 2 2 rfl rfl rfl) (x_pcR E (x_pick hP [2, 3, 4, 5, 6, 7, 8] rfl)) ok_X2_lowestFor q465 rfl hl.1 rfl (Nat.le_of_ble_eq_true rfl) ⟨Nat.le_of_ble_eq_true rfl, Nat.le_of_ble_eq_true rfl⟩ ⟨Nat.le_of_ble_eq_true rfl, Nat.le_of_ble_eq_true rfl⟩ dX5_begins_25) ?_
    exact x_iR E (Sum.inr.inj (Option.some.inj hf)) dX5_begins_28
  · rw [if_pos hc] at hf
    cases hf
set_option maxRecDepth 100000 in
set_option maxHeartbeats 4000000 in
theorem mx_X5_begins (l : Launch) (hfl : l.stackTraces = false) (D : va_G) (I J O : ClassId) (h0 : Nat) (n t : Nat → Nat) (b0 b1 hh ha : Nat) (ad : Nat → Nat → Nat) (sz : Nat) (p0 : Int32) (x : ClC) (ex : Nat) (hf : f_X5_begins p0 x = some (.inl ex)) : mX l yX5_begins cX5_begins 2 (some .int) 6 82 D I J O sz [.ref h0, .int p0] (wCl I h0 n t b0 b1 hh x ++ wHi I O hh ha ad x.2.2.1) (exn ex) := by
  refine mX_open (own := RX5) rfl (by decide +kernel) (Nat.le_of_ble_eq_true rfl) (fun p e s m below meth c ls E htab hX hsz hP hl => ?_)
  have hx := E.1
  have hb := E.2.1
  have hl : lv_has ls 2 [(0, .ref h0), (1, .int p0)] := hl
  unfold f_X5_begins at hf
  refine lv_iload_n hx hb dX5_begins_0 rfl (lv_at hl 1 rfl) ?_
  obtain ⟨z1, h, hf⟩ := bd_s hf
  refine x_ci (x_rS E (As := [.int p0]) (rest := []) (mt_X5_isSize l D I J O p0 z1 h) blR (x_pcR E x_none) ok_X5_isSize q461 rfl hl.1 rfl (Nat.le_of_ble_eq_true rfl) ⟨Nat.le_of_ble_eq_true rfl, Nat.le_of_ble_eq_true rfl⟩ ⟨Nat.le_of_ble_eq_true rfl, Nat.le_of_ble_eq_true rfl⟩ dX5_begins_1) ?_
  refine lv_if_ne (tgt := 17) hx hb dX5_begins_4 (by decide) (fun hc => ?_) (fun hc => ?_)
  · rw [if_neg hc] at hf
    refine lv_aload_n hx hb dX5_begins_17 rfl (lv_at hl 0 rfl) ?_
    refine x_get E hP 0 rfl rfl in5 0 (by decide) q131 rfl rfl dX5_begins_18 ?_
    refine x_getN E hP 1 rfl rfl in3 0 (by decide) E.2.2.2.2.2.1.2.2.1 rfl rfl dX5_begins_21 ?_
    refine lv_iload_n hx hb dX5_begins_24 rfl (lv_at hl 1 rfl) ?_
    obtain ⟨z2, h, hf⟩ := bd_s hf
    refine x_ci (x_rV E (As := [.int p0]) (rest := []) (mt_X2_lowestFor l D I J O (n 1) (n 2) (n 3) (n 4) (n 5) (n 6) (n 7) p0 x.1.1 z2 h) blR (x_recv E hP 2 2 rfl rfl rfl) (x_pcR E (x_pick hP [2, 3, 4, 5, 6, 7, 8] rfl)) ok_X2_lowestFor q465 rfl hl.1 rfl (Nat.le_of_ble_eq_true rfl) ⟨Nat.le_of_ble_eq_true rfl, Nat.le_of_ble_eq_true rfl⟩ ⟨Nat.le_of_ble_eq_true rfl, Nat.le_of_ble_eq_true rfl⟩ dX5_begins_25) ?_
    cases hf
  · rw [if_pos hc] at hf
    have he := Sum.inl.inj (Option.some.inj hf)
    subst he
    exact x_thr (en := "java/lang/IllegalArgumentException") (text := "the size is out of range") E htab hfl hX hl.1 hsz (by decide +kernel) q375 q10 (by decide) xg1 xn1 xo1 hX.2.2.1.1 dX5_begins_7 dX5_begins_10 dX5_begins_11 dX5_begins_13 dX5_begins_16 (Nat.le_of_ble_eq_true rfl) (Nat.le_of_ble_eq_true rfl)
theorem ok_X5_gap : yV yX5_gap cX5_gap 2 (some .int) 1 := ⟨q661, q1, q659, q660, by decide +kernel, by decide +kernel, by decide +kernel⟩
set_option maxRecDepth 100000 in
set_option maxHeartbeats 4000000 in
theorem mt_X5_gap (l : Launch) (D : va_G) (I J O : ClassId) (h0 : Nat) (n t : Nat → Nat) (b0 b1 hh ha : Nat) (ad : Nat → Nat → Nat) (p0 : Int32) (x : ClC) (r : Int32) (hf : f_X5_gap p0 x = some (.inr r)) : mR l yX5_gap cX5_gap 2 (some .int) 3 66 D I J O [.ref h0, .int p0] (wCl I h0 n t b0 b1 hh x ++ wHi I O hh ha ad x.2.2.1) (qRi r) := by
  refine mR_open (own := RX5) rfl (by decide +kernel) (Nat.le_of_ble_eq_true rfl) (fun p e s m below meth c ls E hP hl => ?_)
  have hx := E.1
  have hb := E.2.1
  have hl : lv_has ls 2 [(0, .ref h0), (1, .int p0)] := hl
  unfold f_X5_gap at hf
  refine lv_iload_n hx hb dX5_gap_0 rfl (lv_at hl 1 rfl) ?_
  by_cases hc0 : p0 = 0
  · rw [if_pos hc0] at hf
    refine lv_lookup (off := 27) (tgt := 28) hx hb dX5_gap_1 (by decide) (by first | (rw [hc0]; done) | (rw [hc0]; rfl)) (by decide) ?_
    refine lv_aload_n hx hb dX5_gap_28 rfl (lv_at hl 0 rfl) ?_
    refine x_get E hP 0 rfl rfl in5 0 (by decide) q131 rfl rfl dX5_gap_29 ?_
    refine x_getN E hP 1 rfl rfl in3 0 (by decide) E.2.2.2.2.2.1.2.2.1 rfl rfl dX5_gap_32 ?_
    obtain ⟨z1, h, hf⟩ := bd_s hf
    refine x_ci (x_rV E (As := []) (rest := []) (mt_X2_longestGap l D I J O (n 1) (n 2) (n 3) (n 4) (n 5) (n 6) (n 7) x.1.1 z1 h) blR (x_recv E hP 2 2 rfl rfl rfl) (x_pcR E (x_pick hP [2, 3, 4, 5, 6, 7, 8] rfl)) ok_X2_longestGap q662 rfl hl.1 rfl (Nat.le_of_ble_eq_true rfl) ⟨Nat.le_of_ble_eq_true rfl, Nat.le_of_ble_eq_true rfl⟩ ⟨Nat.le_of_ble_eq_true rfl, Nat.le_of_ble_eq_true rfl⟩ dX5_gap_35) ?_
    exact x_iR E (Sum.inr.inj (Option.some.inj hf)) dX5_gap_38
  · rw [if_neg hc0] at hf
    by_cases hc1 : p0 = 1
    · rw [if_pos hc1] at hf
      refine lv_lookup (off := 38) (tgt := 39) hx hb dX5_gap_1 (by decide) (by first | (rw [hc1]; done) | (rw [hc1]; rfl)) (by decide) ?_
      refine lv_aload_n hx hb dX5_gap_39 rfl (lv_at hl 0 rfl) ?_
      refine x_get E hP 0 rfl rfl in5 0 (by decide) q131 rfl rfl dX5_gap_40 ?_
      refine x_getN E hP 1 rfl rfl in3 0 (by decide) E.2.2.2.2.2.1.2.2.1 rfl rfl dX5_gap_43 ?_
      obtain ⟨z2, h, hf⟩ := bd_s hf
      refine x_ci (x_rV E (As := []) (rest := []) (mt_X2_beginOfLongestGap l D I J O (n 1) (n 2) (n 3) (n 4) (n 5) (n 6) (n 7) x.1.1 z2 h) blR (x_recv E hP 2 2 rfl rfl rfl) (x_pcR E (x_pick hP [2, 3, 4, 5, 6, 7, 8] rfl)) ok_X2_beginOfLongestGap q667 rfl hl.1 rfl (Nat.le_of_ble_eq_true rfl) ⟨Nat.le_of_ble_eq_true rfl, Nat.le_of_ble_eq_true rfl⟩ ⟨Nat.le_of_ble_eq_true rfl, Nat.le_of_ble_eq_true rfl⟩ dX5_gap_46) ?_
      exact x_iR E (Sum.inr.inj (Option.some.inj hf)) dX5_gap_49
    · rw [if_neg hc1] at hf
      refine lv_lookup (off := 49) (tgt := 50) hx hb dX5_gap_1 (by decide) (by have q0 := sw_ne 0 0 (by decide) hc0; have q1 := sw_ne 1 1 (by decide) hc1; simp [Op.lookupswitch.offset, q0, q0.symm, q1, q1.symm]) (by decide) ?_
      cases hf
set_option maxRecDepth 100000 in
set_option maxHeartbeats 4000000 in
theorem mx_X5_gap (l : Launch) (hfl : l.stackTraces = false) (D : va_G) (I J O : ClassId) (h0 : Nat) (n t : Nat → Nat) (b0 b1 hh ha : Nat) (ad : Nat → Nat → Nat) (sz : Nat) (p0 : Int32) (x : ClC) (ex : Nat) (hf : f_X5_gap p0 x = some (.inl ex)) : mX l yX5_gap cX5_gap 2 (some .int) 6 82 D I J O sz [.ref h0, .int p0] (wCl I h0 n t b0 b1 hh x ++ wHi I O hh ha ad x.2.2.1) (exn ex) := by
  refine mX_open (own := RX5) rfl (by decide +kernel) (Nat.le_of_ble_eq_true rfl) (fun p e s m below meth c ls E htab hX hsz hP hl => ?_)
  have hx := E.1
  have hb := E.2.1
  have hl : lv_has ls 2 [(0, .ref h0), (1, .int p0)] := hl
  unfold f_X5_gap at hf
  refine lv_iload_n hx hb dX5_gap_0 rfl (lv_at hl 1 rfl) ?_
  by_cases hc0 : p0 = 0
  · rw [if_pos hc0] at hf
    refine lv_lookup (off := 27) (tgt := 28) hx hb dX5_gap_1 (by decide) (by first | (rw [hc0]; done) | (rw [hc0]; rfl)) (by decide) ?_
    refine lv_aload_n hx hb dX5_gap_28 rfl (lv_at hl 0 rfl) ?_
    refine x_get E hP 0 rfl rfl in5 0 (by decide) q131 rfl rfl dX5_gap_29 ?_
    refine x_getN E hP 1 rfl rfl in3 0 (by decide) E.2.2.2.2.2.1.2.2.1 rfl rfl dX5_gap_32 ?_
    obtain ⟨z1, h, hf⟩ := bd_s hf
    refine x_ci (x_rV E (As := []) (rest := []) (mt_X2_longestGap l D I J O (n 1) (n 2) (n 3) (n 4) (n 5) (n 6) (n 7) x.1.1 z1 h) blR (x_recv E hP 2 2 rfl rfl rfl) (x_pcR E (x_pick hP [2, 3, 4, 5, 6, 7, 8] rfl)) ok_X2_longestGap q662 rfl hl.1 rfl (Nat.le_of_ble_eq_true rfl) ⟨Nat.le_of_ble_eq_true rfl, Nat.le_of_ble_eq_true rfl⟩ ⟨Nat.le_of_ble_eq_true rfl, Nat.le_of_ble_eq_true rfl⟩ dX5_gap_35) ?_
    cases hf
  · rw [if_neg hc0] at hf
    by_cases hc1 : p0 = 1
    · rw [if_pos hc1] at hf
      refine lv_lookup (off := 38) (tgt := 39) hx hb dX5_gap_1 (by decide) (by first | (rw [hc1]; done) | (rw [hc1]; rfl)) (by decide) ?_
      refine lv_aload_n hx hb dX5_gap_39 rfl (lv_at hl 0 rfl) ?_
      refine x_get E hP 0 rfl rfl in5 0 (by decide) q131 rfl rfl dX5_gap_40 ?_
      refine x_getN E hP 1 rfl rfl in3 0 (by decide) E.2.2.2.2.2.1.2.2.1 rfl rfl dX5_gap_43 ?_
      obtain ⟨z2, h, hf⟩ := bd_s hf
      refine x_ci (x_rV E (As := []) (rest := []) (mt_X2_beginOfLongestGap l D I J O (n 1) (n 2) (n 3) (n 4) (n 5) (n 6) (n 7) x.1.1 z2 h) blR (x_recv E hP 2 2 rfl rfl rfl) (x_pcR E (x_pick hP [2, 3, 4, 5, 6, 7, 8] rfl)) ok_X2_beginOfLongestGap q667 rfl hl.1 rfl (Nat.le_of_ble_eq_true rfl) ⟨Nat.le_of_ble_eq_true rfl, Nat.le_of_ble_eq_true rfl⟩ ⟨Nat.le_of_ble_eq_true rfl, Nat.le_of_ble_eq_true rfl⟩ dX5_gap_46) ?_
      cases hf
    · rw [if_neg hc1] at hf
      refine lv_lookup (off := 49) (tgt := 50) hx hb dX5_gap_1 (by decide) (by have q0 := sw_ne 0 0 (by decide) hc0; have q1 := sw_ne 1 1 (by decide) hc1; simp [Op.lookupswitch.offset, q0, q0.symm, q1, q1.symm]) (by decide) ?_
      have he := Sum.inl.inj (Option.some.inj hf)
      subst he
      exact x_thr (en := "java/lang/IllegalArgumentException") (text := "what is not 0 or 1") E htab hfl hX hl.1 hsz (by decide +kernel) q375 q10 (by decide) xg1 xn1 xo1 hX.2.2.1.1 dX5_gap_50 dX5_gap_53 dX5_gap_54 dX5_gap_56 dX5_gap_59 (Nat.le_of_ble_eq_true rfl) (Nat.le_of_ble_eq_true rfl)
theorem ok_X5_tryEvents : yV yX5_tryEvents cX5_tryEvents 4 (some .int) 1 := ⟨q679, q1, q678, qs12, by decide +kernel, by decide +kernel, by decide +kernel⟩
set_option maxRecDepth 100000 in
set_option maxHeartbeats 4000000 in
theorem k_X5_tryEvents_15 {p : Program} {l : Launch} {e : Env} {s : State} {m : MethodId} {args : Array Value} {below : List Frame} {meth : Method} {c : Code} {D : va_G} {I J O : ClassId} (E : fx p s m args meth c cX5_tryEvents RX5 4 (some .int) D I J O) (h0 : Nat) (n t : Nat → Nat) (b0 b1 hh ha : Nat) (ad : Nat → Nat → Nat)  {ws0 : va_W} {sz : Nat} (r : Int32) (y0 : ClC) : ∀ fu : Nat, ∀ (v1 : Int32) (v2 : Int32) (v3 : Int32) (x : ClC), f_X5_tryEvents_15 fu v1 v2 v3 x = some (r, y0) → ∀ (H : Heap) (locs : List Loc), fy D (va_A ws0 sz) s.heap H locs (wCl I h0 n t b0 b1 hh x ++ wHi I O hh ha ad x.2.2.1) → ∀ ls : Array Slot, lv_has ls 4 [(0, .ref h0), (1, .int v1), (2, .int v2), (3, .int v3)] → W p l e (rmB 6 133 0 0) s m args below meth c H locs 0 0 (MQ below (qMi D sz ws0 r (fun ad9 : Nat → Nat → Nat => wCl I h0 n t b0 b1 hh y0 ++ wHi I O hh ha ad9 y0.2.2.1)) args s 0 0 (va_A ws0 sz)) (F0 m 15 ls []) := by
  have hx := E.1
  have hb := E.2.1
  intro fu
  induction fu with
  | zero =>
    intro v1 v2 v3 x hf H locs hw ls hl
    rw [f_X5_tryEvents_15.eq_1] at hf
    cases hf
  | succ fu ih =>
    intro v1 v2 v3 x hf H locs hw ls hl
    rw [f_X5_tryEvents_15.eq_2] at hf
    refine lv_iload_n hx hb dX5_tryEvents_15 rfl (lv_at hl 3 rfl) ?_
    refine lv_iload_n hx hb dX5_tryEvents_16 rfl (lv_at hl 1 rfl) ?_
    refine lv_icmp_ge (tgt := 36) hx hb dX5_tryEvents_17 (by decide) (fun hc => ?_) (fun hc => ?_)
    · rw [if_pos hc] at hf
      refine lv_iload_n hx hb dX5_tryEvents_36 rfl (lv_at hl 2 rfl) ?_
      obtain ⟨he0, hr⟩ := Prod.mk.inj (Option.some.inj hf)
      have he1 := hr
      subst he1
      exact x_iM E ad hw he0 dX5_tryEvents_37
    · rw [if_neg hc] at hf
      refine lv_iload_n hx hb dX5_tryEvents_20 rfl (lv_at hl 2 rfl) ?_
      refine lv_aload_n hx hb dX5_tryEvents_21 rfl (lv_at hl 0 rfl) ?_
      refine x_get E hw.1 0 rfl rfl in5 1 (by decide) q132 rfl rfl dX5_tryEvents_22 ?_
      obtain ⟨z2, h, hf⟩ := bd_s hf
      refine x_mi hw [13, 14, 15, 16, 17, 18, 19, 20, 21, 22, 23, 24] rfl rfl (x_rV E (As := []) (rest := [.int v2]) (mt_X3_fireThings l D I J O t H.size x.2.1 z2.1 z2.2 h) blM (x_recv E hw.1 13 3 rfl rfl rfl) (x_pcMQ E hw [13, 14, 15, 16, 17, 18, 19, 20, 21, 22, 23, 24] rfl rfl) ok_X3_fireThings q172 rfl hl.1 rfl (Nat.le_of_ble_eq_true rfl) ⟨Nat.le_of_ble_eq_true rfl, Nat.le_of_ble_eq_true rfl⟩ ⟨Nat.le_of_ble_eq_true rfl, Nat.le_of_ble_eq_true rfl⟩ dX5_tryEvents_25) (fun _ => rfl) (fun _ H locs hw => ?_)
      have hw : fy D (va_A ws0 sz) s.heap H locs (wCl I h0 n t b0 b1 hh (x.1, z2.2, x.2.2) ++ wHi I O hh ha ad x.2.2.1) := hw
      refine lv_iadd hx hb dX5_tryEvents_28 ?_
      refine lv_istore_n (lv' := [(2, .int (v2 + z2.1)), (0, .ref h0), (1, .int v1), (3, .int v3)]) hx hb dX5_tryEvents_29 rfl hl (by decide) rfl (fun ls hl => ?_)
      refine lv_iinc (v := v3 + 1) (lv' := [(3, .int (v3 + 1)), (2, .int (v2 + z2.1)), (0, .ref h0), (1, .int v1)]) hx hb dX5_tryEvents_30 hl (k := 3) rfl rfl (by decide) rfl (fun ls hl => ?_)
      refine lv_goto (tgt := 15) hx hb dX5_tryEvents_33 (by decide) ?_
      exact ih v1 (v2 + z2.1) (v3 + 1) (x.1, z2.2, x.2.2) hf _ _ hw _ (lv_sub hl [2, 3, 1, 0] rfl)
set_option maxRecDepth 100000 in
set_option maxHeartbeats 4000000 in
theorem mt_X5_tryEvents (l : Launch) (D : va_G) (I J O : ClassId) (h0 : Nat) (n t : Nat → Nat) (b0 b1 hh ha : Nat) (ad : Nat → Nat → Nat) (sz : Nat) (p0 : Int32) (x : ClC) (r : Int32) (y0 : ClC) (hf : f_X5_tryEvents p0 x = some (r, y0)) : mM l yX5_tryEvents cX5_tryEvents 4 (some .int) 6 133 0 0 D I J O sz [.ref h0, .int p0] (wCl I h0 n t b0 b1 hh x ++ wHi I O hh ha ad x.2.2.1) (qMi D sz (wCl I h0 n t b0 b1 hh x ++ wHi I O hh ha ad x.2.2.1) r (fun ad9 : Nat → Nat → Nat => wCl I h0 n t b0 b1 hh y0 ++ wHi I O hh ha ad9 y0.2.2.1)) := by
  refine mM_open (own := RX5) rfl (by decide +kernel) (Nat.le_of_ble_eq_true rfl) (fun p e s m below meth c ls E hnm hsz hw hl => ?_)
  obtain ⟨ws0, hws⟩ : ∃ ws0 : va_W, ws0 = wCl I h0 n t b0 b1 hh x ++ wHi I O hh ha ad x.2.2.1 := ⟨_, rfl⟩
  have hw : fy D (va_A ws0 sz) s.heap s.heap [] (wCl I h0 n t b0 b1 hh x ++ wHi I O hh ha ad x.2.2.1) := by rw [hws]; exact hw
  rw [← hws]
  have hx := E.1
  have hb := E.2.1
  have hl : lv_has ls 4 [(0, .ref h0), (1, .int p0)] := hl
  unfold f_X5_tryEvents at hf
  refine lv_aload_n hx hb dX5_tryEvents_0 rfl (lv_at hl 0 rfl) ?_
  refine x_get E hw.1 0 rfl rfl in5 1 (by decide) q132 rfl rfl dX5_tryEvents_1 ?_
  refine lv_aload_n hx hb dX5_tryEvents_4 rfl (lv_at hl 0 rfl) ?_
  refine x_get E hw.1 0 rfl rfl in5 0 (by decide) q131 rfl rfl dX5_tryEvents_5 ?_
  obtain ⟨z1, h, hf⟩ := bd_s hf
  have hw : fy D (va_A ws0 sz) s.heap s.heap [] (((wSt I t x.2.1 ++ wSt I n x.1) ++ ((h0, .inr (5, [.ref (n 0), .ref (t 0), .ref hh, .ref b0])) :: wTx I b0 b1 x.2.2.2)) ++ wHi I O hh ha ad x.2.2.1) := hw.part [13, 14, 15, 16, 17, 18, 19, 20, 21, 22, 23, 24, 1, 2, 3, 4, 5, 6, 7, 8, 9, 10, 11, 12, 0, 25, 26] rfl rfl
  refine x_mvFF hw (x_rV E (As := [.ref (n 0)]) (rest := []) (mt_X3_copyFrom l D I J O t n s.heap.size x.2.1 x.1 z1 h) blM (x_recv E hw.1 0 3 rfl rfl rfl) (x_pcMFF E hw) ok_X3_copyFrom q680 rfl hl.1 rfl (Nat.le_of_ble_eq_true rfl) ⟨Nat.le_of_ble_eq_true rfl, Nat.le_of_ble_eq_true rfl⟩ ⟨Nat.le_of_ble_eq_true rfl, Nat.le_of_ble_eq_true rfl⟩ dX5_tryEvents_8) (fun _ => rfl) (fun _ H locs hw => ?_)
  have hw : fy D (va_A ws0 sz) s.heap H locs (((wSt I t z1 ++ wSt I n x.1) ++ ((h0, .inr (5, [.ref (n 0), .ref (t 0), .ref hh, .ref b0])) :: wTx I b0 b1 x.2.2.2)) ++ wHi I O hh ha ad x.2.2.1) := hw
  have hw : fy D (va_A ws0 sz) s.heap H locs (wCl I h0 n t b0 b1 hh (x.1, z1, x.2.2) ++ wHi I O hh ha ad x.2.2.1) := hw.part [24, 12, 13, 14, 15, 16, 17, 18, 19, 20, 21, 22, 23, 0, 1, 2, 3, 4, 5, 6, 7, 8, 9, 10, 11, 25, 26] rfl rfl
  have hw : fy D (va_A ws0 sz) s.heap H locs (wCl I h0 n t b0 b1 hh (x.1, z1, x.2.2) ++ wHi I O hh ha ad x.2.2.1) := hw
  refine lv_iconst (v := 0) hx hb dX5_tryEvents_11 (by decide) ?_
  refine lv_istore_n (lv' := [(2, .int 0), (0, .ref h0), (1, .int p0)]) hx hb dX5_tryEvents_12 rfl hl (by decide) rfl (fun ls hl => ?_)
  refine lv_iconst (v := 0) hx hb dX5_tryEvents_13 (by decide) ?_
  refine lv_istore_n (lv' := [(3, .int 0), (2, .int 0), (0, .ref h0), (1, .int p0)]) hx hb dX5_tryEvents_14 rfl hl (by decide) rfl (fun ls hl => ?_)
  exact k_X5_tryEvents_15 E h0 n t b0 b1 hh ha ad r y0 FU p0 0 0 (x.1, z1, x.2.2) hf _ _ hw _ (lv_sub hl [2, 3, 1, 0] rfl)
theorem ok_X5_ifFired : yV yX5_ifFired cX5_ifFired 4 (some .int) 2 := ⟨q674, q1, q672, q673, by decide +kernel, by decide +kernel, by decide +kernel⟩
set_option maxRecDepth 100000 in
set_option maxHeartbeats 4000000 in
theorem mt_X5_ifFired (l : Launch) (D : va_G) (I J O : ClassId) (h0 : Nat) (n t : Nat → Nat) (b0 b1 hh ha : Nat) (ad : Nat → Nat → Nat) (sz : Nat) (p0 : Int32) (p1 : Int32) (x : ClC) (r : Int32) (y0 : ClC) (hf : f_X5_ifFired p0 p1 x = some (.inr (r, y0))) : mM l yX5_ifFired cX5_ifFired 4 (some .int) 7 156 0 0 D I J O sz [.ref h0, .int p0, .int p1] (wCl I h0 n t b0 b1 hh x ++ wHi I O hh ha ad x.2.2.1) (qMi D sz (wCl I h0 n t b0 b1 hh x ++ wHi I O hh ha ad x.2.2.1) r (fun ad9 : Nat → Nat → Nat => wCl I h0 n t b0 b1 hh y0 ++ wHi I O hh ha ad9 y0.2.2.1)) := by
  refine mM_open (own := RX5) rfl (by decide +kernel) (Nat.le_of_ble_eq_true rfl) (fun p e s m below meth c ls E hnm hsz hw hl => ?_)
  obtain ⟨ws0, hws⟩ : ∃ ws0 : va_W, ws0 = wCl I h0 n t b0 b1 hh x ++ wHi I O hh ha ad x.2.2.1 := ⟨_, rfl⟩
  have hw : fy D (va_A ws0 sz) s.heap s.heap [] (wCl I h0 n t b0 b1 hh x ++ wHi I O hh ha ad x.2.2.1) := by rw [hws]; exact hw
  rw [← hws]
  have hx := E.1
  have hb := E.2.1
  have hl : lv_has ls 4 [(0, .ref h0), (1, .int p0), (2, .int p1)] := hl
  unfold f_X5_ifFired at hf
  refine lv_iload_n hx hb dX5_ifFired_0 rfl (lv_at hl 1 rfl) ?_
  refine lv_iconst (v := 1) hx hb dX5_ifFired_1 (by decide) ?_
  refine lv_icmp_lt (tgt := 20) hx hb dX5_ifFired_2 (by decide) (fun hc => ?_) (fun hc => ?_)
  · rw [if_pos hc] at hf
    cases hf
  · rw [if_neg hc] at hf
    refine lv_iload_n hx hb dX5_ifFired_5 rfl (lv_at hl 1 rfl) ?_
    refine lv_bipush (v := 9) hx hb dX5_ifFired_6 (by decide) ?_
    refine lv_icmp_gt (tgt := 20) hx hb dX5_ifFired_8 (by decide) (fun hc => ?_) (fun hc => ?_)
    · rw [if_pos hc] at hf
      cases hf
    · rw [if_neg hc] at hf
      refine lv_iload_n hx hb dX5_ifFired_11 rfl (lv_at hl 2 rfl) ?_
      refine lv_if_lt (tgt := 20) hx hb dX5_ifFired_12 (by decide) (fun hc => ?_) (fun hc => ?_)
      · rw [if_pos hc] at hf
        cases hf
      · rw [if_neg hc] at hf
        refine lv_iload_n hx hb dX5_ifFired_15 rfl (lv_at hl 2 rfl) ?_
        refine lv_iconst (v := 2) hx hb dX5_ifFired_16 (by decide) ?_
        refine lv_icmp_le (tgt := 30) hx hb dX5_ifFired_17 (by decide) (fun hc => ?_) (fun hc => ?_)
        · rw [if_pos hc] at hf
          refine lv_aload_n hx hb dX5_ifFired_30 rfl (lv_at hl 0 rfl) ?_
          refine lv_iload_n hx hb dX5_ifFired_31 rfl (lv_at hl 1 rfl) ?_
          obtain ⟨z1, h, hf⟩ := bd_s hf
          refine x_miFP0 hw (x_rV E (As := [.int p0]) (rest := []) (mt_X5_tryEvents l D I J O h0 n t b0 b1 hh ha ad s.heap.size p0 x z1.1 z1.2 h) blM (x_recv E hw.1 0 5 rfl rfl rfl) (x_pcMPF0 E hw) ok_X5_tryEvents q676 rfl hl.1 rfl (Nat.le_of_ble_eq_true rfl) ⟨Nat.le_of_ble_eq_true rfl, Nat.le_of_ble_eq_true rfl⟩ ⟨Nat.le_of_ble_eq_true rfl, Nat.le_of_ble_eq_true rfl⟩ dX5_ifFired_32) (fun _ => rfl) (fun ad2 H locs hw => ?_)
          have hw : fy D (va_A ws0 sz) s.heap H locs (wCl I h0 n t b0 b1 hh z1.2 ++ wHi I O hh ha ad2 z1.2.2.2.1) := hw
          refine lv_istore_n (lv' := [(3, .int z1.1), (0, .ref h0), (1, .int p0), (2, .int p1)]) hx hb dX5_ifFired_35 rfl hl (by decide) rfl (fun ls hl => ?_)
          refine lv_iload_n hx hb dX5_ifFired_36 rfl (lv_at hl 3 rfl) ?_
          refine lv_if_ne (tgt := 42) hx hb dX5_ifFired_37 (by decide) (fun hc => ?_) (fun hc => ?_)
          · rw [if_neg hc] at hf
            refine lv_iload_n hx hb dX5_ifFired_42 rfl (lv_at hl 3 rfl) ?_
            refine lv_iconst (v := 1) hx hb dX5_ifFired_43 (by decide) ?_
            refine lv_icmp_ne (tgt := 60) hx hb dX5_ifFired_44 (by decide) (fun hc => ?_) (fun hc => ?_)
            · rw [if_neg hc] at hf
              refine lv_aload_n hx hb dX5_ifFired_60 rfl (lv_at hl 1 rfl) ?_
              refine x_get E hw.1 0 rfl rfl in5 1 (by decide) q132 rfl rfl dX5_ifFired_61 ?_
              refine x_getN E hw.1 13 rfl rfl in3 0 (by decide) E.2.2.2.2.2.1.2.2.1 rfl rfl dX5_ifFired_64 ?_
              obtain ⟨z3, h, hf⟩ := bd_s hf
              refine x_ci (x_rV E (As := []) (rest := []) (mt_X2_cellsNow l D I J O (t 1) (t 2) (t 3) (t 4) (t 5) (t 6) (t 7) z1.2.2.1.1 z3 h) blR (x_recv E hw.1 14 2 rfl rfl rfl) (x_pcR E (x_pick hw.1 [14, 15, 16, 17, 18, 19, 20] rfl)) ok_X2_cellsNow q419 rfl hl.1 rfl (Nat.le_of_ble_eq_true rfl) ⟨Nat.le_of_ble_eq_true rfl, Nat.le_of_ble_eq_true rfl⟩ ⟨Nat.le_of_ble_eq_true rfl, Nat.le_of_ble_eq_true rfl⟩ dX5_ifFired_67) ?_
              obtain ⟨he0, hr⟩ := Prod.mk.inj (Sum.inr.inj (Option.some.inj hf))
              have he1 := hr
              subst he1
              exact x_iM E ad2 hw he0 dX5_ifFired_70
            · rw [if_pos hc] at hf
              refine lv_aload_n hx hb dX5_ifFired_47 rfl (lv_at hl 1 rfl) ?_
              refine x_get E hw.1 0 rfl rfl in5 1 (by decide) q132 rfl rfl dX5_ifFired_48 ?_
              refine x_getN E hw.1 13 rfl rfl in3 1 (by decide) E.2.2.2.2.2.1.2.2.2.1 rfl rfl dX5_ifFired_51 ?_
              obtain ⟨z4, h, hf⟩ := bd_s hf
              refine x_ci (x_rV E (As := []) (rest := []) (mt_X1_things l D I J O (t 8) (t 9) (t 10) z1.2.2.1.2.1 z4 h) blR (x_recv E hw.1 21 1 rfl rfl rfl) (x_pcR E (x_pick hw.1 [21, 22, 23] rfl)) ok_X1_things q403 rfl hl.1 rfl (Nat.le_of_ble_eq_true rfl) ⟨Nat.le_of_ble_eq_true rfl, Nat.le_of_ble_eq_true rfl⟩ ⟨Nat.le_of_ble_eq_true rfl, Nat.le_of_ble_eq_true rfl⟩ dX5_ifFired_54) ?_
              refine lv_goto (tgt := 70) hx hb dX5_ifFired_57 (by decide) ?_
              obtain ⟨he0, hr⟩ := Prod.mk.inj (Sum.inr.inj (Option.some.inj hf))
              have he1 := hr
              subst he1
              exact x_iM E ad2 hw he0 dX5_ifFired_70
          · rw [if_pos hc] at hf
            refine lv_iload_n hx hb dX5_ifFired_40 rfl (lv_at hl 0 rfl) ?_
            obtain ⟨he0, hr⟩ := Prod.mk.inj (Sum.inr.inj (Option.some.inj hf))
            have he1 := hr
            subst he1
            exact x_iM E ad2 hw he0 dX5_ifFired_41
        · rw [if_neg hc] at hf
          cases hf
set_option maxRecDepth 100000 in
set_option maxHeartbeats 4000000 in
theorem mx_X5_ifFired (l : Launch) (hfl : l.stackTraces = false) (D : va_G) (I J O : ClassId) (h0 : Nat) (n t : Nat → Nat) (b0 b1 hh ha : Nat) (ad : Nat → Nat → Nat) (sz : Nat) (p0 : Int32) (p1 : Int32) (x : ClC) (ex : Nat) (hf : f_X5_ifFired p0 p1 x = some (.inl ex)) : mX l yX5_ifFired cX5_ifFired 4 (some .int) 7 156 D I J O sz [.ref h0, .int p0, .int p1] (wCl I h0 n t b0 b1 hh x ++ wHi I O hh ha ad x.2.2.1) (exn ex) := by
  refine mX_open (own := RX5) rfl (by decide +kernel) (Nat.le_of_ble_eq_true rfl) (fun p e s m below meth c ls E htab hX hsz hP hl => ?_)
  have hx := E.1
  have hb := E.2.1
  have hl : lv_has ls 4 [(0, .ref h0), (1, .int p0), (2, .int p1)] := hl
  unfold f_X5_ifFired at hf
  refine lv_iload_n hx hb dX5_ifFired_0 rfl (lv_at hl 1 rfl) ?_
  refine lv_iconst (v := 1) hx hb dX5_ifFired_1 (by decide) ?_
  refine lv_icmp_lt (tgt := 20) hx hb dX5_ifFired_2 (by decide) (fun hc => ?_) (fun hc => ?_)
  · rw [if_pos hc] at hf
    have he := Sum.inl.inj (Option.some.inj hf)
    subst he
    exact x_thr (en := "java/lang/IllegalArgumentException") (text := "events or what is out of range") E htab hfl hX hl.1 hsz (by decide +kernel) q375 q10 (by decide) xg1 xn1 xo1 hX.2.2.1.1 dX5_ifFired_20 dX5_ifFired_23 dX5_ifFired_24 dX5_ifFired_26 dX5_ifFired_29 (Nat.le_of_ble_eq_true rfl) (Nat.le_of_ble_eq_true rfl)
  · rw [if_neg hc] at hf
    refine lv_iload_n hx hb dX5_ifFired_5 rfl (lv_at hl 1 rfl) ?_
    refine lv_bipush (v := 9) hx hb dX5_ifFired_6 (by decide) ?_
    refine lv_icmp_gt (tgt := 20) hx hb dX5_ifFired_8 (by decide) (fun hc => ?_) (fun hc => ?_)
    · rw [if_pos hc] at hf
      have he := Sum.inl.inj (Option.some.inj hf)
      subst he
      exact x_thr (en := "java/lang/IllegalArgumentException") (text := "events or what is out of range") E htab hfl hX hl.1 hsz (by decide +kernel) q375 q10 (by decide) xg1 xn1 xo1 hX.2.2.1.1 dX5_ifFired_20 dX5_ifFired_23 dX5_ifFired_24 dX5_ifFired_26 dX5_ifFired_29 (Nat.le_of_ble_eq_true rfl) (Nat.le_of_ble_eq_true rfl)
    · rw [if_neg hc] at hf
      refine lv_iload_n hx hb dX5_ifFired_11 rfl (lv_at hl 2 rfl) ?_
      refine lv_if_lt (tgt := 20) hx hb dX5_ifFired_12 (by decide) (fun hc => ?_) (fun hc => ?_)
      · rw [if_pos hc] at hf
        have he := Sum.inl.inj (Option.some.inj hf)
        subst he
        exact x_thr (en := "java/lang/IllegalArgumentException") (text := "events or what is out of range") E htab hfl hX hl.1 hsz (by decide +kernel) q375 q10 (by decide) xg1 xn1 xo1 hX.2.2.1.1 dX5_ifFired_20 dX5_ifFired_23 dX5_ifFired_24 dX5_ifFired_26 dX5_ifFired_29 (Nat.le_of_ble_eq_true rfl) (Nat.le_of_ble_eq_true rfl)
      · rw [if_neg hc] at hf
        refine lv_iload_n hx hb dX5_ifFired_15 rfl (lv_at hl 2 rfl) ?_
        refine lv_iconst (v := 2) hx hb dX5_ifFired_16 (by decide) ?_
        refine lv_icmp_le (tgt := 30) hx hb dX5_ifFired_17 (by decide) (fun hc => ?_) (fun hc => ?_)
        · rw [if_pos hc] at hf
          refine lv_aload_n hx hb dX5_ifFired_30 rfl (lv_at hl 0 rfl) ?_
          refine lv_iload_n hx hb dX5_ifFired_31 rfl (lv_at hl 1 rfl) ?_
          obtain ⟨z1, h, hf⟩ := bd_s hf
          by_cases hc : p1 = 0
          · rw [if_pos hc] at hf
            cases hf
          · rw [if_neg hc] at hf
            by_cases hc : p1 = 1
            · rw [if_pos hc] at hf
              obtain ⟨z3, h, hf⟩ := bd_s hf
              cases hf
            · rw [if_neg hc] at hf
              obtain ⟨z2, h, hf⟩ := bd_s hf
              cases hf
        · rw [if_neg hc] at hf
          have he := Sum.inl.inj (Option.some.inj hf)
          subst he
          exact x_thr (en := "java/lang/IllegalArgumentException") (text := "events or what is out of range") E htab hfl hX hl.1 hsz (by decide +kernel) q375 q10 (by decide) xg1 xn1 xo1 hX.2.2.1.1 dX5_ifFired_20 dX5_ifFired_23 dX5_ifFired_24 dX5_ifFired_26 dX5_ifFired_29 (Nat.le_of_ble_eq_true rfl) (Nat.le_of_ble_eq_true rfl)
theorem ok_X5_room : yV yX5_room cX5_room 3 (some .int) 2 := ⟨q684, q1, q682, q683, by decide +kernel, by decide +kernel, by decide +kernel⟩
set_option maxRecDepth 100000 in
set_option maxHeartbeats 4000000 in
theorem mt_X5_room (l : Launch) (D : va_G) (I J O : ClassId) (h0 : Nat) (n t : Nat → Nat) (b0 b1 hh ha : Nat) (ad : Nat → Nat → Nat) (p0 : Int32) (p1 : Int32) (x : ClC) (r : Int32) (hf : f_X5_room p0 p1 x = some (.inr r)) : mR l yX5_room cX5_room 3 (some .int) 4 86 D I J O [.ref h0, .int p0, .int p1] (wCl I h0 n t b0 b1 hh x ++ wHi I O hh ha ad x.2.2.1) (qRi r) := by
  refine mR_open (own := RX5) rfl (by decide +kernel) (Nat.le_of_ble_eq_true rfl) (fun p e s m below meth c ls E hP hl => ?_)
  have hx := E.1
  have hb := E.2.1
  have hl : lv_has ls 3 [(0, .ref h0), (1, .int p0), (2, .int p1)] := hl
  unfold f_X5_room at hf
  refine lv_iload_n hx hb dX5_room_0 rfl (lv_at hl 1 rfl) ?_
  obtain ⟨z1, h, hf⟩ := bd_s hf
  refine x_ci (x_rS E (As := [.int p0]) (rest := []) (mt_X5_isSize l D I J O p0 z1 h) blR (x_pcR E x_none) ok_X5_isSize q461 rfl hl.1 rfl (Nat.le_of_ble_eq_true rfl) ⟨Nat.le_of_ble_eq_true rfl, Nat.le_of_ble_eq_true rfl⟩ ⟨Nat.le_of_ble_eq_true rfl, Nat.le_of_ble_eq_true rfl⟩ dX5_room_1) ?_
  refine lv_if_ne (tgt := 17) hx hb dX5_room_4 (by decide) (fun hc => ?_) (fun hc => ?_)
  · rw [if_neg hc] at hf
    refine lv_iload_n hx hb dX5_room_17 rfl (lv_at hl 2 rfl) ?_
    refine lv_if_eq (tgt := 36) hx hb dX5_room_18 (by decide) (fun hc => ?_) (fun hc => ?_)
    · rw [if_pos hc] at hf
      refine lv_aload_n hx hb dX5_room_36 rfl (lv_at hl 0 rfl) ?_
      refine x_get E hP 0 rfl rfl in5 0 (by decide) q131 rfl rfl dX5_room_37 ?_
      refine x_getN E hP 1 rfl rfl in3 0 (by decide) E.2.2.2.2.2.1.2.2.1 rfl rfl dX5_room_40 ?_
      refine lv_iload_n hx hb dX5_room_43 rfl (lv_at hl 1 rfl) ?_
      obtain ⟨z2, h, hf⟩ := bd_s hf
      refine x_ci (x_rV E (As := [.int p0]) (rest := []) (mt_X2_roomFor l D I J O (n 1) (n 2) (n 3) (n 4) (n 5) (n 6) (n 7) p0 x.1.1 z2 h) blR (x_recv E hP 2 2 rfl rfl rfl) (x_pcR E (x_pick hP [2, 3, 4, 5, 6, 7, 8] rfl)) ok_X2_roomFor q685 rfl hl.1 rfl (Nat.le_of_ble_eq_true rfl) ⟨Nat.le_of_ble_eq_true rfl, Nat.le_of_ble_eq_true rfl⟩ ⟨Nat.le_of_ble_eq_true rfl, Nat.le_of_ble_eq_true rfl⟩ dX5_room_44) ?_
      exact x_iR E (Sum.inr.inj (Option.some.inj hf)) dX5_room_47
    · rw [if_neg hc] at hf
      refine lv_aload_n hx hb dX5_room_21 rfl (lv_at hl 0 rfl) ?_
      refine x_get E hP 0 rfl rfl in5 0 (by decide) q131 rfl rfl dX5_room_22 ?_
      refine x_getN E hP 1 rfl rfl in3 0 (by decide) E.2.2.2.2.2.1.2.2.1 rfl rfl dX5_room_25 ?_
      obtain ⟨z3, h, hf⟩ := bd_s hf
      refine x_ci (x_rV E (As := []) (rest := []) (mt_X2_freeCells l D I J O (n 1) (n 2) (n 3) (n 4) (n 5) (n 6) (n 7) x.1.1 z3 h) blR (x_recv E hP 2 2 rfl rfl rfl) (x_pcR E (x_pick hP [2, 3, 4, 5, 6, 7, 8] rfl)) ok_X2_freeCells q420 rfl hl.1 rfl (Nat.le_of_ble_eq_true rfl) ⟨Nat.le_of_ble_eq_true rfl, Nat.le_of_ble_eq_true rfl⟩ ⟨Nat.le_of_ble_eq_true rfl, Nat.le_of_ble_eq_true rfl⟩ dX5_room_28) ?_
      refine lv_iload_n hx hb dX5_room_31 rfl (lv_at hl 1 rfl) ?_
      obtain ⟨g, hf⟩ := gd_s hf
      refine lv_idiv hx hb dX5_room_32 g ?_
      refine lv_goto (tgt := 47) hx hb dX5_room_33 (by decide) ?_
      exact x_iR E (Sum.inr.inj (Option.some.inj hf)) dX5_room_47
  · rw [if_pos hc] at hf
    cases hf
set_option maxRecDepth 100000 in
set_option maxHeartbeats 4000000 in
theorem mx_X5_room (l : Launch) (hfl : l.stackTraces = false) (D : va_G) (I J O : ClassId) (h0 : Nat) (n t : Nat → Nat) (b0 b1 hh ha : Nat) (ad : Nat → Nat → Nat) (sz : Nat) (p0 : Int32) (p1 : Int32) (x : ClC) (ex : Nat) (hf : f_X5_room p0 p1 x = some (.inl ex)) : mX l yX5_room cX5_room 3 (some .int) 6 86 D I J O sz [.ref h0, .int p0, .int p1] (wCl I h0 n t b0 b1 hh x ++ wHi I O hh ha ad x.2.2.1) (exn ex) := by
  refine mX_open (own := RX5) rfl (by decide +kernel) (Nat.le_of_ble_eq_true rfl) (fun p e s m below meth c ls E htab hX hsz hP hl => ?_)
  have hx := E.1
  have hb := E.2.1
  have hl : lv_has ls 3 [(0, .ref h0), (1, .int p0), (2, .int p1)] := hl
  unfold f_X5_room at hf
  refine lv_iload_n hx hb dX5_room_0 rfl (lv_at hl 1 rfl) ?_
  obtain ⟨z1, h, hf⟩ := bd_s hf
  refine x_ci (x_rS E (As := [.int p0]) (rest := []) (mt_X5_isSize l D I J O p0 z1 h) blR (x_pcR E x_none) ok_X5_isSize q461 rfl hl.1 rfl (Nat.le_of_ble_eq_true rfl) ⟨Nat.le_of_ble_eq_true rfl, Nat.le_of_ble_eq_true rfl⟩ ⟨Nat.le_of_ble_eq_true rfl, Nat.le_of_ble_eq_true rfl⟩ dX5_room_1) ?_
  refine lv_if_ne (tgt := 17) hx hb dX5_room_4 (by decide) (fun hc => ?_) (fun hc => ?_)
  · rw [if_neg hc] at hf
    refine lv_iload_n hx hb dX5_room_17 rfl (lv_at hl 2 rfl) ?_
    refine lv_if_eq (tgt := 36) hx hb dX5_room_18 (by decide) (fun hc => ?_) (fun hc => ?_)
    · rw [if_pos hc] at hf
      refine lv_aload_n hx hb dX5_room_36 rfl (lv_at hl 0 rfl) ?_
      refine x_get E hP 0 rfl rfl in5 0 (by decide) q131 rfl rfl dX5_room_37 ?_
      refine x_getN E hP 1 rfl rfl in3 0 (by decide) E.2.2.2.2.2.1.2.2.1 rfl rfl dX5_room_40 ?_
      refine lv_iload_n hx hb dX5_room_43 rfl (lv_at hl 1 rfl) ?_
      obtain ⟨z2, h, hf⟩ := bd_s hf
      refine x_ci (x_rV E (As := [.int p0]) (rest := []) (mt_X2_roomFor l D I J O (n 1) (n 2) (n 3) (n 4) (n 5) (n 6) (n 7) p0 x.1.1 z2 h) blR (x_recv E hP 2 2 rfl rfl rfl) (x_pcR E (x_pick hP [2, 3, 4, 5, 6, 7, 8] rfl)) ok_X2_roomFor q685 rfl hl.1 rfl (Nat.le_of_ble_eq_true rfl) ⟨Nat.le_of_ble_eq_true rfl, Nat.le_of_ble_eq_true rfl⟩ ⟨Nat.le_of_ble_eq_true rfl, Nat.le_of_ble_eq_true rfl⟩ dX5_room_44) ?_
      cases hf
    · rw [if_neg hc] at hf
      refine lv_aload_n hx hb dX5_room_21 rfl (lv_at hl 0 rfl) ?_
      refine x_get E hP 0 rfl rfl in5 0 (by decide) q131 rfl rfl dX5_room_22 ?_
      refine x_getN E hP 1 rfl rfl in3 0 (by decide) E.2.2.2.2.2.1.2.2.1 rfl rfl dX5_room_25 ?_
      obtain ⟨z3, h, hf⟩ := bd_s hf
      refine x_ci (x_rV E (As := []) (rest := []) (mt_X2_freeCells l D I J O (n 1) (n 2) (n 3) (n 4) (n 5) (n 6) (n 7) x.1.1 z3 h) blR (x_recv E hP 2 2 rfl rfl rfl) (x_pcR E (x_pick hP [2, 3, 4, 5, 6, 7, 8] rfl)) ok_X2_freeCells q420 rfl hl.1 rfl (Nat.le_of_ble_eq_true rfl) ⟨Nat.le_of_ble_eq_true rfl, Nat.le_of_ble_eq_true rfl⟩ ⟨Nat.le_of_ble_eq_true rfl, Nat.le_of_ble_eq_true rfl⟩ dX5_room_28) ?_
      refine lv_iload_n hx hb dX5_room_31 rfl (lv_at hl 1 rfl) ?_
      obtain ⟨g, hf⟩ := gd_s hf
      refine lv_idiv hx hb dX5_room_32 g ?_
      refine lv_goto (tgt := 47) hx hb dX5_room_33 (by decide) ?_
      cases hf
  · rw [if_pos hc] at hf
    have he := Sum.inl.inj (Option.some.inj hf)
    subst he
    exact x_thr (en := "java/lang/IllegalArgumentException") (text := "the size is out of range") E htab hfl hX hl.1 hsz (by decide +kernel) q375 q10 (by decide) xg1 xn1 xo1 hX.2.2.1.1 dX5_room_7 dX5_room_10 dX5_room_11 dX5_room_13 dX5_room_16 (Nat.le_of_ble_eq_true rfl) (Nat.le_of_ble_eq_true rfl)
theorem ok_X5_fullness : yV yX5_fullness cX5_fullness 2 (some .double) 0 := ⟨q722, q1, q720, q721, by decide +kernel, by decide +kernel, by decide +kernel⟩
set_option maxRecDepth 100000 in
set_option maxHeartbeats 4000000 in
theorem mt_X5_fullness (l : Launch) (D : va_G) (I J O : ClassId) (h0 : Nat) (n t : Nat → Nat) (b0 b1 hh ha : Nat) (ad : Nat → Nat → Nat)  (x : ClC) (r : UInt64) (hf : f_X5_fullness x = some r) : mR l yX5_fullness cX5_fullness 2 (some .double) 4 86 D I J O [.ref h0] (wCl I h0 n t b0 b1 hh x ++ wHi I O hh ha ad x.2.2.1) (qRd r) := by
  refine mR_open (own := RX5) rfl (by decide +kernel) (Nat.le_of_ble_eq_true rfl) (fun p e s m below meth c ls E hP hl => ?_)
  have hx := E.1
  have hb := E.2.1
  have hl : lv_has ls 2 [(0, .ref h0)] := hl
  unfold f_X5_fullness at hf
  refine lv_aload_n hx hb dX5_fullness_0 rfl (lv_at hl 0 rfl) ?_
  refine x_get E hP 0 rfl rfl in5 0 (by decide) q131 rfl rfl dX5_fullness_1 ?_
  refine x_getN E hP 1 rfl rfl in3 0 (by decide) E.2.2.2.2.2.1.2.2.1 rfl rfl dX5_fullness_4 ?_
  obtain ⟨z1, h, hf⟩ := bd_s hf
  refine x_ci (x_rV E (As := []) (rest := []) (mt_X2_cellsNow l D I J O (n 1) (n 2) (n 3) (n 4) (n 5) (n 6) (n 7) x.1.1 z1 h) blR (x_recv E hP 2 2 rfl rfl rfl) (x_pcR E (x_pick hP [2, 3, 4, 5, 6, 7, 8] rfl)) ok_X2_cellsNow q419 rfl hl.1 rfl (Nat.le_of_ble_eq_true rfl) ⟨Nat.le_of_ble_eq_true rfl, Nat.le_of_ble_eq_true rfl⟩ ⟨Nat.le_of_ble_eq_true rfl, Nat.le_of_ble_eq_true rfl⟩ dX5_fullness_7) ?_
  refine lv_istore_n (lv' := [(1, .int z1), (0, .ref h0)]) hx hb dX5_fullness_10 rfl hl (by decide) rfl (fun ls hl => ?_)
  refine lv_iload_n hx hb dX5_fullness_11 rfl (lv_at hl 0 rfl) ?_
  refine lv_if_gt (tgt := 17) hx hb dX5_fullness_12 (by decide) (fun hc => ?_) (fun hc => ?_)
  · rw [if_pos hc] at hf
    refine lv_iload_n hx hb dX5_fullness_17 rfl (lv_at hl 0 rfl) ?_
    refine lv_aload_n hx hb dX5_fullness_18 rfl (lv_at hl 1 rfl) ?_
    refine x_get E hP 0 rfl rfl in5 0 (by decide) q131 rfl rfl dX5_fullness_19 ?_
    refine x_getN E hP 1 rfl rfl in3 0 (by decide) E.2.2.2.2.2.1.2.2.1 rfl rfl dX5_fullness_22 ?_
    obtain ⟨z2, h, hf⟩ := bd_s hf
    refine x_ci (x_rV E (As := []) (rest := [.int z1]) (mt_X2_freeCells l D I J O (n 1) (n 2) (n 3) (n 4) (n 5) (n 6) (n 7) x.1.1 z2 h) blR (x_recv E hP 2 2 rfl rfl rfl) (x_pcR E (x_pick hP [2, 3, 4, 5, 6, 7, 8] rfl)) ok_X2_freeCells q420 rfl hl.1 rfl (Nat.le_of_ble_eq_true rfl) ⟨Nat.le_of_ble_eq_true rfl, Nat.le_of_ble_eq_true rfl⟩ ⟨Nat.le_of_ble_eq_true rfl, Nat.le_of_ble_eq_true rfl⟩ dX5_fullness_25) ?_
    refine lv_isub hx hb dX5_fullness_28 ?_
    refine lv_i2d hx hb dX5_fullness_29 ?_
    refine lv_iload_n hx hb dX5_fullness_30 rfl (lv_at hl 0 rfl) ?_
    refine lv_i2d hx hb dX5_fullness_31 ?_
    obtain ⟨g, hf⟩ := gf_s hf
    refine lv_ddiv hx hb dX5_fullness_32 g ?_
    exact x_dR E (Option.some.inj hf) dX5_fullness_33
  · rw [if_neg hc] at hf
    refine lv_dconst0 hx hb dX5_fullness_15 ?_
    exact x_dR E (Option.some.inj hf) dX5_fullness_16
theorem ok_X5_hashThings : yV yX5_hashThings cX5_hashThings 9 (some .long) 1 := ⟨q699, q1, q698, qs13, by decide +kernel, by decide +kernel, by decide +kernel⟩
set_option maxRecDepth 100000 in
set_option maxHeartbeats 4000000 in
theorem k_X5_hashThings_45 {p : Program} {l : Launch} {e : Env} {s : State} {m : MethodId} {args : Array Value} {below : List Frame} {meth : Method} {c : Code} {D : va_G} {I J O : ClassId} (E : fx p s m args meth c cX5_hashThings RX5 9 (some .long) D I J O) (h0 : Nat) (n t : Nat → Nat) (b0 b1 hh ha : Nat) (ad : Nat → Nat → Nat)  (r : Int64) (k17 : Int64 → Int32 → Int32 → ClC → Option (Int64)) (hk17 : ∀ (v3 : Int64) (v5 : Int32) (v6 : Int32) (x : ClC), k17 v3 v5 v6 x = some r → va_P D vwCl (wCl I h0 n t b0 b1 hh x ++ wHi I O hh ha ad x.2.2.1) s.heap → ∀ ls : Array Slot, lv_has ls 9 [(0, .ref h0), (3, .long v3), (5, .int v5), (6, .int v6)] → W p l e (rmB 4 88 0 0) s m args below meth c s.heap [] 0 0 (MQ below (qRl r) args s 0 0 (fun _ => False)) (F0 m 17 ls [])) : ∀ fu : Nat, ∀ (v3 : Int64) (v5 : Int32) (v6 : Int32) (v7 : Int32) (v8 : Int32) (x : ClC), f_X5_hashThings_45 k17 fu v3 v5 v6 v7 v8 x = some r → va_P D vwCl (wCl I h0 n t b0 b1 hh x ++ wHi I O hh ha ad x.2.2.1) s.heap → ∀ ls : Array Slot, lv_has ls 9 [(0, .ref h0), (3, .long v3), (5, .int v5), (6, .int v6), (7, .int v7), (8, .int v8)] → W p l e (rmB 4 88 0 0) s m args below meth c s.heap [] 0 0 (MQ below (qRl r) args s 0 0 (fun _ => False)) (F0 m 45 ls []) := by
  have hx := E.1
  have hb := E.2.1
  intro fu
  induction fu with
  | zero =>
    intro v3 v5 v6 v7 v8 x hf hP ls hl
    rw [f_X5_hashThings_45.eq_1] at hf
    cases hf
  | succ fu ih =>
    intro v3 v5 v6 v7 v8 x hf hP ls hl
    rw [f_X5_hashThings_45.eq_2] at hf
    refine lv_iload hx hb dX5_hashThings_45 (lv_at hl 5 rfl) ?_
    refine lv_iconst (v := 5) hx hb dX5_hashThings_47 (by decide) ?_
    refine lv_icmp_gt (tgt := 73) hx hb dX5_hashThings_48 (by decide) (fun hc => ?_) (fun hc => ?_)
    · rw [if_pos hc] at hf
      refine lv_iinc (v := v6 + 1) (lv' := [(6, .int (v6 + 1)), (0, .ref h0), (3, .long v3), (5, .int v5), (7, .int v7), (8, .int v8)]) hx hb dX5_hashThings_73 hl (k := 3) rfl rfl (by decide) rfl (fun ls hl => ?_)
      refine lv_goto (tgt := 17) hx hb dX5_hashThings_76 (by decide) ?_
      exact hk17 v3 v5 (v6 + 1) x hf hP _ (lv_sub hl [1, 2, 3, 0] rfl)
    · rw [if_neg hc] at hf
      refine lv_ldc2 (v := 31) hx hb E.2.2.2.1 (E.2.2.2.2.1 _ q694) dX5_hashThings_51 ?_
      refine lv_lload_n hx hb dX5_hashThings_54 rfl (lv_at hl 1 rfl) ?_
      refine lv_lmul hx hb dX5_hashThings_55 ?_
      refine lv_aload_n hx hb dX5_hashThings_56 rfl (lv_at hl 0 rfl) ?_
      refine lv_iload hx hb dX5_hashThings_57 (lv_at hl 4 rfl) ?_
      refine lv_iload hx hb dX5_hashThings_59 (lv_at hl 5 rfl) ?_
      obtain ⟨z3, h, hf⟩ := rt_s hf
      refine x_ci (x_rV E (As := [.int v7, .int v8]) (rest := [.long (31 * v3)]) (mt_X5_thing l D I J O h0 n t b0 b1 hh ha ad v7 v8 x z3 h) blR (x_recv E hP 0 5 rfl rfl rfl) (x_pcR E hP) ok_X5_thing q701 rfl hl.1 rfl (Nat.le_of_ble_eq_true rfl) ⟨Nat.le_of_ble_eq_true rfl, Nat.le_of_ble_eq_true rfl⟩ ⟨Nat.le_of_ble_eq_true rfl, Nat.le_of_ble_eq_true rfl⟩ dX5_hashThings_61) ?_
      refine lv_i2l (v := z3.toInt64) hx hb dX5_hashThings_64 rfl ?_
      refine lv_ladd hx hb dX5_hashThings_65 ?_
      refine lv_lstore_n (lv' := [(3, .long ((31 * v3) + z3.toInt64)), (0, .ref h0), (5, .int v5), (6, .int v6), (7, .int v7), (8, .int v8)]) hx hb dX5_hashThings_66 rfl hl (by decide) rfl (fun ls hl => ?_)
      refine lv_iinc (v := v8 + 1) (lv' := [(8, .int (v8 + 1)), (3, .long ((31 * v3) + z3.toInt64)), (0, .ref h0), (5, .int v5), (6, .int v6), (7, .int v7)]) hx hb dX5_hashThings_67 hl (k := 5) rfl rfl (by decide) rfl (fun ls hl => ?_)
      refine lv_goto (tgt := 45) hx hb dX5_hashThings_70 (by decide) ?_
      exact ih ((31 * v3) + z3.toInt64) v5 v6 v7 (v8 + 1) x hf hP _ (lv_sub hl [2, 1, 3, 4, 5, 0] rfl)
set_option maxRecDepth 100000 in
set_option maxHeartbeats 4000000 in
theorem k_X5_hashThings_17 {p : Program} {l : Launch} {e : Env} {s : State} {m : MethodId} {args : Array Value} {below : List Frame} {meth : Method} {c : Code} {D : va_G} {I J O : ClassId} (E : fx p s m args meth c cX5_hashThings RX5 9 (some .long) D I J O) (h0 : Nat) (n t : Nat → Nat) (b0 b1 hh ha : Nat) (ad : Nat → Nat → Nat)  (r : Int64) : ∀ fu : Nat, ∀ (v3 : Int64) (v5 : Int32) (v6 : Int32) (x : ClC), f_X5_hashThings_17 fu v3 v5 v6 x = some r → va_P D vwCl (wCl I h0 n t b0 b1 hh x ++ wHi I O hh ha ad x.2.2.1) s.heap → ∀ ls : Array Slot, lv_has ls 9 [(0, .ref h0), (3, .long v3), (5, .int v5), (6, .int v6)] → W p l e (rmB 4 88 0 0) s m args below meth c s.heap [] 0 0 (MQ below (qRl r) args s 0 0 (fun _ => False)) (F0 m 17 ls []) := by
  have hx := E.1
  have hb := E.2.1
  intro fu
  induction fu with
  | zero =>
    intro v3 v5 v6 x hf hP ls hl
    rw [f_X5_hashThings_17.eq_1] at hf
    cases hf
  | succ fu ih =>
    intro v3 v5 v6 x hf hP ls hl
    rw [f_X5_hashThings_17.eq_2] at hf
    refine lv_iload hx hb dX5_hashThings_17 (lv_at hl 3 rfl) ?_
    refine lv_iload hx hb dX5_hashThings_19 (lv_at hl 2 rfl) ?_
    refine lv_icmp_ge (tgt := 79) hx hb dX5_hashThings_21 (by decide) (fun hc => ?_) (fun hc => ?_)
    · rw [if_pos hc] at hf
      refine lv_lload_n hx hb dX5_hashThings_79 rfl (lv_at hl 1 rfl) ?_
      exact x_lR E (Option.some.inj hf) dX5_hashThings_80
    · rw [if_neg hc] at hf
      refine lv_aload_n hx hb dX5_hashThings_24 rfl (lv_at hl 0 rfl) ?_
      refine lv_iload hx hb dX5_hashThings_25 (lv_at hl 3 rfl) ?_
      obtain ⟨z2, h, hf⟩ := rt_s hf
      refine x_ci (x_rV E (As := [.int v6]) (rest := []) (mt_X5_at l D I J O h0 n t b0 b1 hh ha ad v6 x z2 h) blR (x_recv E hP 0 5 rfl rfl rfl) (x_pcR E hP) ok_X5_at q700 rfl hl.1 rfl (Nat.le_of_ble_eq_true rfl) ⟨Nat.le_of_ble_eq_true rfl, Nat.le_of_ble_eq_true rfl⟩ ⟨Nat.le_of_ble_eq_true rfl, Nat.le_of_ble_eq_true rfl⟩ dX5_hashThings_27) ?_
      refine lv_istore (lv' := [(7, .int z2), (0, .ref h0), (3, .long v3), (5, .int v5), (6, .int v6)]) hx hb dX5_hashThings_30 hl (by decide) rfl (fun ls hl => ?_)
      refine lv_ldc2 (v := 31) hx hb E.2.2.2.1 (E.2.2.2.2.1 _ q694) dX5_hashThings_32 ?_
      refine lv_lload_n hx hb dX5_hashThings_35 rfl (lv_at hl 2 rfl) ?_
      refine lv_lmul hx hb dX5_hashThings_36 ?_
      refine lv_iload hx hb dX5_hashThings_37 (lv_at hl 0 rfl) ?_
      refine lv_i2l (v := z2.toInt64) hx hb dX5_hashThings_39 rfl ?_
      refine lv_ladd hx hb dX5_hashThings_40 ?_
      refine lv_lstore_n (lv' := [(3, .long ((31 * v3) + z2.toInt64)), (7, .int z2), (0, .ref h0), (5, .int v5), (6, .int v6)]) hx hb dX5_hashThings_41 rfl hl (by decide) rfl (fun ls hl => ?_)
      refine lv_iconst (v := 0) hx hb dX5_hashThings_42 (by decide) ?_
      refine lv_istore (lv' := [(8, .int 0), (3, .long ((31 * v3) + z2.toInt64)), (7, .int z2), (0, .ref h0), (5, .int v5), (6, .int v6)]) hx hb dX5_hashThings_43 hl (by decide) rfl (fun ls hl => ?_)
      exact k_X5_hashThings_45 E h0 n t b0 b1 hh ha ad r (f_X5_hashThings_17 fu) ih FU ((31 * v3) + z2.toInt64) v5 v6 z2 0 x hf hP _ (lv_sub hl [3, 1, 4, 5, 2, 0] rfl)
set_option maxRecDepth 100000 in
set_option maxHeartbeats 4000000 in
theorem mt_X5_hashThings (l : Launch) (D : va_G) (I J O : ClassId) (h0 : Nat) (n t : Nat → Nat) (b0 b1 hh ha : Nat) (ad : Nat → Nat → Nat) (p0 : Int64) (x : ClC) (r : Int64) (hf : f_X5_hashThings p0 x = some r) : mR l yX5_hashThings cX5_hashThings 9 (some .long) 4 88 D I J O [.ref h0, .long p0] (wCl I h0 n t b0 b1 hh x ++ wHi I O hh ha ad x.2.2.1) (qRl r) := by
  refine mR_open (own := RX5) rfl (by decide +kernel) (Nat.le_of_ble_eq_true rfl) (fun p e s m below meth c ls E hP hl => ?_)
  have hx := E.1
  have hb := E.2.1
  have hl : lv_has ls 9 [(0, .ref h0), (1, .long p0)] := hl
  unfold f_X5_hashThings at hf
  refine lv_lload_n hx hb dX5_hashThings_0 rfl (lv_at hl 1 rfl) ?_
  refine lv_lstore_n (lv' := [(3, .long p0), (0, .ref h0), (1, .long p0)]) hx hb dX5_hashThings_1 rfl hl (by decide) rfl (fun ls hl => ?_)
  refine lv_aload_n hx hb dX5_hashThings_2 rfl (lv_at hl 1 rfl) ?_
  refine x_get E hP 0 rfl rfl in5 0 (by decide) q131 rfl rfl dX5_hashThings_3 ?_
  refine x_getN E hP 1 rfl rfl in3 1 (by decide) E.2.2.2.2.2.1.2.2.2.1 rfl rfl dX5_hashThings_6 ?_
  obtain ⟨z1, h, hf⟩ := bd_s hf
  refine x_ci (x_rV E (As := []) (rest := []) (mt_X1_things l D I J O (n 8) (n 9) (n 10) x.1.2.1 z1 h) blR (x_recv E hP 9 1 rfl rfl rfl) (x_pcR E (x_pick hP [9, 10, 11] rfl)) ok_X1_things q403 rfl hl.1 rfl (Nat.le_of_ble_eq_true rfl) ⟨Nat.le_of_ble_eq_true rfl, Nat.le_of_ble_eq_true rfl⟩ ⟨Nat.le_of_ble_eq_true rfl, Nat.le_of_ble_eq_true rfl⟩ dX5_hashThings_9) ?_
  refine lv_istore (lv' := [(5, .int z1), (3, .long p0), (0, .ref h0), (1, .long p0)]) hx hb dX5_hashThings_12 hl (by decide) rfl (fun ls hl => ?_)
  refine lv_iconst (v := 0) hx hb dX5_hashThings_14 (by decide) ?_
  refine lv_istore (lv' := [(6, .int 0), (5, .int z1), (3, .long p0), (0, .ref h0), (1, .long p0)]) hx hb dX5_hashThings_15 hl (by decide) rfl (fun ls hl => ?_)
  exact k_X5_hashThings_17 E h0 n t b0 b1 hh ha ad r FU p0 z1 0 x hf hP _ (lv_sub hl [3, 2, 1, 0] rfl)
theorem ok_X5_hashCellsAndWalkers : yV yX5_hashCellsAndWalkers cX5_hashCellsAndWalkers 8 (some .long) 1 := ⟨q705, q1, q704, qs14, by decide +kernel, by decide +kernel, by decide +kernel⟩
set_option maxRecDepth 100000 in
set_option maxHeartbeats 4000000 in
theorem k_X5_hashCellsAndWalkers_72 {p : Program} {l : Launch} {e : Env} {s : State} {m : MethodId} {args : Array Value} {below : List Frame} {meth : Method} {c : Code} {D : va_G} {I J O : ClassId} (E : fx p s m args meth c cX5_hashCellsAndWalkers RX5 8 (some .long) D I J O) (h0 : Nat) (n t : Nat → Nat) (b0 b1 hh ha : Nat) (ad : Nat → Nat → Nat)  (r : Int64) (k63 : Int64 → Int32 → ClC → Option (Int64)) (hk63 : ∀ (v3 : Int64) (v6 : Int32) (x : ClC), k63 v3 v6 x = some r → va_P D vwCl (wCl I h0 n t b0 b1 hh x ++ wHi I O hh ha ad x.2.2.1) s.heap → ∀ ls : Array Slot, lv_has ls 8 [(0, .ref h0), (3, .long v3), (6, .int v6)] → W p l e (rmB 5 109 0 0) s m args below meth c s.heap [] 0 0 (MQ below (qRl r) args s 0 0 (fun _ => False)) (F0 m 63 ls [])) : ∀ fu : Nat, ∀ (v3 : Int64) (v6 : Int32) (v7 : Int32) (x : ClC), f_X5_hashCellsAndWalkers_72 k63 fu v3 v6 v7 x = some r → va_P D vwCl (wCl I h0 n t b0 b1 hh x ++ wHi I O hh ha ad x.2.2.1) s.heap → ∀ ls : Array Slot, lv_has ls 8 [(0, .ref h0), (3, .long v3), (6, .int v6), (7, .int v7)] → W p l e (rmB 5 109 0 0) s m args below meth c s.heap [] 0 0 (MQ below (qRl r) args s 0 0 (fun _ => False)) (F0 m 72 ls []) := by
  have hx := E.1
  have hb := E.2.1
  intro fu
  induction fu with
  | zero =>
    intro v3 v6 v7 x hf hP ls hl
    rw [f_X5_hashCellsAndWalkers_72.eq_1] at hf
    cases hf
  | succ fu ih =>
    intro v3 v6 v7 x hf hP ls hl
    rw [f_X5_hashCellsAndWalkers_72.eq_2] at hf
    refine lv_iload hx hb dX5_hashCellsAndWalkers_72 (lv_at hl 3 rfl) ?_
    refine lv_iconst (v := 2) hx hb dX5_hashCellsAndWalkers_74 (by decide) ?_
    refine lv_icmp_gt (tgt := 100) hx hb dX5_hashCellsAndWalkers_75 (by decide) (fun hc => ?_) (fun hc => ?_)
    · rw [if_pos hc] at hf
      refine lv_iinc (v := v6 + 1) (lv' := [(6, .int (v6 + 1)), (0, .ref h0), (3, .long v3), (7, .int v7)]) hx hb dX5_hashCellsAndWalkers_100 hl (k := 2) rfl rfl (by decide) rfl (fun ls hl => ?_)
      refine lv_goto (tgt := 63) hx hb dX5_hashCellsAndWalkers_103 (by decide) ?_
      exact hk63 v3 (v6 + 1) x hf hP _ (lv_sub hl [1, 2, 0] rfl)
    · rw [if_neg hc] at hf
      refine lv_ldc2 (v := 31) hx hb E.2.2.2.1 (E.2.2.2.2.1 _ q694) dX5_hashCellsAndWalkers_78 ?_
      refine lv_lload_n hx hb dX5_hashCellsAndWalkers_81 rfl (lv_at hl 1 rfl) ?_
      refine lv_lmul hx hb dX5_hashCellsAndWalkers_82 ?_
      refine lv_aload_n hx hb dX5_hashCellsAndWalkers_83 rfl (lv_at hl 0 rfl) ?_
      refine lv_iload hx hb dX5_hashCellsAndWalkers_84 (lv_at hl 2 rfl) ?_
      refine lv_iload hx hb dX5_hashCellsAndWalkers_86 (lv_at hl 3 rfl) ?_
      obtain ⟨z4, h, hf⟩ := rt_s hf
      refine x_ci (x_rV E (As := [.int v6, .int v7]) (rest := [.long (31 * v3)]) (mt_X5_walker l D I J O h0 n t b0 b1 hh ha ad v6 v7 x z4 h) blR (x_recv E hP 0 5 rfl rfl rfl) (x_pcR E hP) ok_X5_walker q707 rfl hl.1 rfl (Nat.le_of_ble_eq_true rfl) ⟨Nat.le_of_ble_eq_true rfl, Nat.le_of_ble_eq_true rfl⟩ ⟨Nat.le_of_ble_eq_true rfl, Nat.le_of_ble_eq_true rfl⟩ dX5_hashCellsAndWalkers_88) ?_
      refine lv_i2l (v := z4.toInt64) hx hb dX5_hashCellsAndWalkers_91 rfl ?_
      refine lv_ladd hx hb dX5_hashCellsAndWalkers_92 ?_
      refine lv_lstore_n (lv' := [(3, .long ((31 * v3) + z4.toInt64)), (0, .ref h0), (6, .int v6), (7, .int v7)]) hx hb dX5_hashCellsAndWalkers_93 rfl hl (by decide) rfl (fun ls hl => ?_)
      refine lv_iinc (v := v7 + 1) (lv' := [(7, .int (v7 + 1)), (3, .long ((31 * v3) + z4.toInt64)), (0, .ref h0), (6, .int v6)]) hx hb dX5_hashCellsAndWalkers_94 hl (k := 3) rfl rfl (by decide) rfl (fun ls hl => ?_)
      refine lv_goto (tgt := 72) hx hb dX5_hashCellsAndWalkers_97 (by decide) ?_
      exact ih ((31 * v3) + z4.toInt64) v6 (v7 + 1) x hf hP _ (lv_sub hl [2, 1, 3, 0] rfl)
set_option maxRecDepth 100000 in
set_option maxHeartbeats 4000000 in
theorem k_X5_hashCellsAndWalkers_63 {p : Program} {l : Launch} {e : Env} {s : State} {m : MethodId} {args : Array Value} {below : List Frame} {meth : Method} {c : Code} {D : va_G} {I J O : ClassId} (E : fx p s m args meth c cX5_hashCellsAndWalkers RX5 8 (some .long) D I J O) (h0 : Nat) (n t : Nat → Nat) (b0 b1 hh ha : Nat) (ad : Nat → Nat → Nat)  (r : Int64) : ∀ fu : Nat, ∀ (v3 : Int64) (v6 : Int32) (x : ClC), f_X5_hashCellsAndWalkers_63 fu v3 v6 x = some r → va_P D vwCl (wCl I h0 n t b0 b1 hh x ++ wHi I O hh ha ad x.2.2.1) s.heap → ∀ ls : Array Slot, lv_has ls 8 [(0, .ref h0), (3, .long v3), (6, .int v6)] → W p l e (rmB 5 109 0 0) s m args below meth c s.heap [] 0 0 (MQ below (qRl r) args s 0 0 (fun _ => False)) (F0 m 63 ls []) := by
  have hx := E.1
  have hb := E.2.1
  intro fu
  induction fu with
  | zero =>
    intro v3 v6 x hf hP ls hl
    rw [f_X5_hashCellsAndWalkers_63.eq_1] at hf
    cases hf
  | succ fu ih =>
    intro v3 v6 x hf hP ls hl
    rw [f_X5_hashCellsAndWalkers_63.eq_2] at hf
    refine lv_iload hx hb dX5_hashCellsAndWalkers_63 (lv_at hl 2 rfl) ?_
    refine lv_iconst (v := 4) hx hb dX5_hashCellsAndWalkers_65 (by decide) ?_
    refine lv_icmp_ge (tgt := 106) hx hb dX5_hashCellsAndWalkers_66 (by decide) (fun hc => ?_) (fun hc => ?_)
    · rw [if_pos hc] at hf
      refine lv_lload_n hx hb dX5_hashCellsAndWalkers_106 rfl (lv_at hl 1 rfl) ?_
      exact x_lR E (Option.some.inj hf) dX5_hashCellsAndWalkers_107
    · rw [if_neg hc] at hf
      refine lv_iconst (v := 0) hx hb dX5_hashCellsAndWalkers_69 (by decide) ?_
      refine lv_istore (lv' := [(7, .int 0), (0, .ref h0), (3, .long v3), (6, .int v6)]) hx hb dX5_hashCellsAndWalkers_70 hl (by decide) rfl (fun ls hl => ?_)
      exact k_X5_hashCellsAndWalkers_72 E h0 n t b0 b1 hh ha ad r (f_X5_hashCellsAndWalkers_63 fu) ih FU v3 v6 0 x hf hP _ (lv_sub hl [1, 2, 3, 0] rfl)
set_option maxRecDepth 100000 in
set_option maxHeartbeats 4000000 in
theorem k_X5_hashCellsAndWalkers_17 {p : Program} {l : Launch} {e : Env} {s : State} {m : MethodId} {args : Array Value} {below : List Frame} {meth : Method} {c : Code} {D : va_G} {I J O : ClassId} (E : fx p s m args meth c cX5_hashCellsAndWalkers RX5 8 (some .long) D I J O) (h0 : Nat) (n t : Nat → Nat) (b0 b1 hh ha : Nat) (ad : Nat → Nat → Nat)  (r : Int64) : ∀ fu : Nat, ∀ (v3 : Int64) (v5 : Int32) (v6 : Int32) (x : ClC), f_X5_hashCellsAndWalkers_17 fu v3 v5 v6 x = some r → va_P D vwCl (wCl I h0 n t b0 b1 hh x ++ wHi I O hh ha ad x.2.2.1) s.heap → ∀ ls : Array Slot, lv_has ls 8 [(0, .ref h0), (3, .long v3), (5, .int v5), (6, .int v6)] → W p l e (rmB 5 109 0 0) s m args below meth c s.heap [] 0 0 (MQ below (qRl r) args s 0 0 (fun _ => False)) (F0 m 17 ls []) := by
  have hx := E.1
  have hb := E.2.1
  intro fu
  induction fu with
  | zero =>
    intro v3 v5 v6 x hf hP ls hl
    rw [f_X5_hashCellsAndWalkers_17.eq_1] at hf
    cases hf
  | succ fu ih =>
    intro v3 v5 v6 x hf hP ls hl
    rw [f_X5_hashCellsAndWalkers_17.eq_2] at hf
    refine lv_iload hx hb dX5_hashCellsAndWalkers_17 (lv_at hl 3 rfl) ?_
    refine lv_iload hx hb dX5_hashCellsAndWalkers_19 (lv_at hl 2 rfl) ?_
    refine lv_icmp_ge (tgt := 60) hx hb dX5_hashCellsAndWalkers_21 (by decide) (fun hc => ?_) (fun hc => ?_)
    · rw [if_pos hc] at hf
      refine lv_iconst (v := 0) hx hb dX5_hashCellsAndWalkers_60 (by decide) ?_
      refine lv_istore (lv' := [(6, .int 0), (0, .ref h0), (3, .long v3), (5, .int v5)]) hx hb dX5_hashCellsAndWalkers_61 hl (by decide) rfl (fun ls hl => ?_)
      exact k_X5_hashCellsAndWalkers_63 E h0 n t b0 b1 hh ha ad r FU v3 0 x hf hP _ (lv_sub hl [1, 2, 0] rfl)
    · rw [if_neg hc] at hf
      refine lv_ldc2 (v := 31) hx hb E.2.2.2.1 (E.2.2.2.2.1 _ q694) dX5_hashCellsAndWalkers_24 ?_
      refine lv_lload_n hx hb dX5_hashCellsAndWalkers_27 rfl (lv_at hl 1 rfl) ?_
      refine lv_lmul hx hb dX5_hashCellsAndWalkers_28 ?_
      refine lv_aload_n hx hb dX5_hashCellsAndWalkers_29 rfl (lv_at hl 0 rfl) ?_
      refine lv_iload hx hb dX5_hashCellsAndWalkers_30 (lv_at hl 3 rfl) ?_
      refine lv_iconst (v := 0) hx hb dX5_hashCellsAndWalkers_32 (by decide) ?_
      obtain ⟨z2, h, hf⟩ := rt_s hf
      refine x_ci (x_rV E (As := [.int v6, .int 0]) (rest := [.long (31 * v3)]) (mt_X5_cell l D I J O h0 n t b0 b1 hh ha ad v6 0 x z2 h) blR (x_recv E hP 0 5 rfl rfl rfl) (x_pcR E hP) ok_X5_cell q706 rfl hl.1 rfl (Nat.le_of_ble_eq_true rfl) ⟨Nat.le_of_ble_eq_true rfl, Nat.le_of_ble_eq_true rfl⟩ ⟨Nat.le_of_ble_eq_true rfl, Nat.le_of_ble_eq_true rfl⟩ dX5_hashCellsAndWalkers_33) ?_
      refine lv_i2l (v := z2.toInt64) hx hb dX5_hashCellsAndWalkers_36 rfl ?_
      refine lv_ladd hx hb dX5_hashCellsAndWalkers_37 ?_
      refine lv_lstore_n (lv' := [(3, .long ((31 * v3) + z2.toInt64)), (0, .ref h0), (5, .int v5), (6, .int v6)]) hx hb dX5_hashCellsAndWalkers_38 rfl hl (by decide) rfl (fun ls hl => ?_)
      refine lv_ldc2 (v := 31) hx hb E.2.2.2.1 (E.2.2.2.2.1 _ q694) dX5_hashCellsAndWalkers_39 ?_
      refine lv_lload_n hx hb dX5_hashCellsAndWalkers_42 rfl (lv_at hl 0 rfl) ?_
      refine lv_lmul hx hb dX5_hashCellsAndWalkers_43 ?_
      refine lv_aload_n hx hb dX5_hashCellsAndWalkers_44 rfl (lv_at hl 1 rfl) ?_
      refine lv_iload hx hb dX5_hashCellsAndWalkers_45 (lv_at hl 3 rfl) ?_
      refine lv_iconst (v := 1) hx hb dX5_hashCellsAndWalkers_47 (by decide) ?_
      obtain ⟨z3, h, hf⟩ := rt_s hf
      refine x_ci (x_rV E (As := [.int v6, .int 1]) (rest := [.long (31 * ((31 * v3) + z2.toInt64))]) (mt_X5_cell l D I J O h0 n t b0 b1 hh ha ad v6 1 x z3 h) blR (x_recv E hP 0 5 rfl rfl rfl) (x_pcR E hP) ok_X5_cell q706 rfl hl.1 rfl (Nat.le_of_ble_eq_true rfl) ⟨Nat.le_of_ble_eq_true rfl, Nat.le_of_ble_eq_true rfl⟩ ⟨Nat.le_of_ble_eq_true rfl, Nat.le_of_ble_eq_true rfl⟩ dX5_hashCellsAndWalkers_48) ?_
      refine lv_i2l (v := z3.toInt64) hx hb dX5_hashCellsAndWalkers_51 rfl ?_
      refine lv_ladd hx hb dX5_hashCellsAndWalkers_52 ?_
      refine lv_lstore_n (lv' := [(3, .long ((31 * ((31 * v3) + z2.toInt64)) + z3.toInt64)), (0, .ref h0), (5, .int v5), (6, .int v6)]) hx hb dX5_hashCellsAndWalkers_53 rfl hl (by decide) rfl (fun ls hl => ?_)
      refine lv_iinc (v := v6 + 1) (lv' := [(6, .int (v6 + 1)), (3, .long ((31 * ((31 * v3) + z2.toInt64)) + z3.toInt64)), (0, .ref h0), (5, .int v5)]) hx hb dX5_hashCellsAndWalkers_54 hl (k := 3) rfl rfl (by decide) rfl (fun ls hl => ?_)
      refine lv_goto (tgt := 17) hx hb dX5_hashCellsAndWalkers_57 (by decide) ?_
      exact ih ((31 * ((31 * v3) + z2.toInt64)) + z3.toInt64) v5 (v6 + 1) x hf hP _ (lv_sub hl [2, 1, 3, 0] rfl)
set_option maxRecDepth 100000 in
set_option maxHeartbeats 4000000 in
theorem mt_X5_hashCellsAndWalkers (l : Launch) (D : va_G) (I J O : ClassId) (h0 : Nat) (n t : Nat → Nat) (b0 b1 hh ha : Nat) (ad : Nat → Nat → Nat) (p0 : Int64) (x : ClC) (r : Int64) (hf : f_X5_hashCellsAndWalkers p0 x = some r) : mR l yX5_hashCellsAndWalkers cX5_hashCellsAndWalkers 8 (some .long) 5 109 D I J O [.ref h0, .long p0] (wCl I h0 n t b0 b1 hh x ++ wHi I O hh ha ad x.2.2.1) (qRl r) := by
  refine mR_open (own := RX5) rfl (by decide +kernel) (Nat.le_of_ble_eq_true rfl) (fun p e s m below meth c ls E hP hl => ?_)
  have hx := E.1
  have hb := E.2.1
  have hl : lv_has ls 8 [(0, .ref h0), (1, .long p0)] := hl
  unfold f_X5_hashCellsAndWalkers at hf
  refine lv_lload_n hx hb dX5_hashCellsAndWalkers_0 rfl (lv_at hl 1 rfl) ?_
  refine lv_lstore_n (lv' := [(3, .long p0), (0, .ref h0), (1, .long p0)]) hx hb dX5_hashCellsAndWalkers_1 rfl hl (by decide) rfl (fun ls hl => ?_)
  refine lv_aload_n hx hb dX5_hashCellsAndWalkers_2 rfl (lv_at hl 1 rfl) ?_
  refine x_get E hP 0 rfl rfl in5 0 (by decide) q131 rfl rfl dX5_hashCellsAndWalkers_3 ?_
  refine x_getN E hP 1 rfl rfl in3 0 (by decide) E.2.2.2.2.2.1.2.2.1 rfl rfl dX5_hashCellsAndWalkers_6 ?_
  obtain ⟨z1, h, hf⟩ := bd_s hf
  refine x_ci (x_rV E (As := []) (rest := []) (mt_X2_cellsNow l D I J O (n 1) (n 2) (n 3) (n 4) (n 5) (n 6) (n 7) x.1.1 z1 h) blR (x_recv E hP 2 2 rfl rfl rfl) (x_pcR E (x_pick hP [2, 3, 4, 5, 6, 7, 8] rfl)) ok_X2_cellsNow q419 rfl hl.1 rfl (Nat.le_of_ble_eq_true rfl) ⟨Nat.le_of_ble_eq_true rfl, Nat.le_of_ble_eq_true rfl⟩ ⟨Nat.le_of_ble_eq_true rfl, Nat.le_of_ble_eq_true rfl⟩ dX5_hashCellsAndWalkers_9) ?_
  refine lv_istore (lv' := [(5, .int z1), (3, .long p0), (0, .ref h0), (1, .long p0)]) hx hb dX5_hashCellsAndWalkers_12 hl (by decide) rfl (fun ls hl => ?_)
  refine lv_iconst (v := 0) hx hb dX5_hashCellsAndWalkers_14 (by decide) ?_
  refine lv_istore (lv' := [(6, .int 0), (5, .int z1), (3, .long p0), (0, .ref h0), (1, .long p0)]) hx hb dX5_hashCellsAndWalkers_15 hl (by decide) rfl (fun ls hl => ?_)
  exact k_X5_hashCellsAndWalkers_17 E h0 n t b0 b1 hh ha ad r FU p0 z1 0 x hf hP _ (lv_sub hl [3, 2, 1, 0] rfl)
theorem ok_X5_hashGaps : yV yX5_hashGaps cX5_hashGaps 6 (some .long) 1 := ⟨q711, q1, q710, qs15, by decide +kernel, by decide +kernel, by decide +kernel⟩
set_option maxRecDepth 100000 in
set_option maxHeartbeats 4000000 in
theorem k_X5_hashGaps_5 {p : Program} {l : Launch} {e : Env} {s : State} {m : MethodId} {args : Array Value} {below : List Frame} {meth : Method} {c : Code} {D : va_G} {I J O : ClassId} (E : fx p s m args meth c cX5_hashGaps RX5 6 (some .long) D I J O) (h0 : Nat) (n t : Nat → Nat) (b0 b1 hh ha : Nat) (ad : Nat → Nat → Nat)  (r : Int64) : ∀ fu : Nat, ∀ (v3 : Int64) (v5 : Int32) (x : ClC), f_X5_hashGaps_5 fu v3 v5 x = some r → va_P D vwCl (wCl I h0 n t b0 b1 hh x ++ wHi I O hh ha ad x.2.2.1) s.heap → ∀ ls : Array Slot, lv_has ls 6 [(0, .ref h0), (3, .long v3), (5, .int v5)] → W p l e (rmB 4 87 0 0) s m args below meth c s.heap [] 0 0 (MQ below (qRl r) args s 0 0 (fun _ => False)) (F0 m 5 ls []) := by
  have hx := E.1
  have hb := E.2.1
  intro fu
  induction fu with
  | zero =>
    intro v3 v5 x hf hP ls hl
    rw [f_X5_hashGaps_5.eq_1] at hf
    cases hf
  | succ fu ih =>
    intro v3 v5 x hf hP ls hl
    rw [f_X5_hashGaps_5.eq_2] at hf
    refine lv_iload hx hb dX5_hashGaps_5 (lv_at hl 2 rfl) ?_
    refine lv_iconst (v := 4) hx hb dX5_hashGaps_7 (by decide) ?_
    refine lv_icmp_gt (tgt := 31) hx hb dX5_hashGaps_8 (by decide) (fun hc => ?_) (fun hc => ?_)
    · rw [if_pos hc] at hf
      refine lv_ldc2 (v := 31) hx hb E.2.2.2.1 (E.2.2.2.2.1 _ q694) dX5_hashGaps_31 ?_
      refine lv_lload_n hx hb dX5_hashGaps_34 rfl (lv_at hl 1 rfl) ?_
      refine lv_lmul hx hb dX5_hashGaps_35 ?_
      refine lv_aload_n hx hb dX5_hashGaps_36 rfl (lv_at hl 0 rfl) ?_
      refine lv_iconst (v := 0) hx hb dX5_hashGaps_37 (by decide) ?_
      obtain ⟨z1, h, hf⟩ := rt_s hf
      refine x_ci (x_rV E (As := [.int 0]) (rest := [.long (31 * v3)]) (mt_X5_gap l D I J O h0 n t b0 b1 hh ha ad 0 x z1 h) blR (x_recv E hP 0 5 rfl rfl rfl) (x_pcR E hP) ok_X5_gap q713 rfl hl.1 rfl (Nat.le_of_ble_eq_true rfl) ⟨Nat.le_of_ble_eq_true rfl, Nat.le_of_ble_eq_true rfl⟩ ⟨Nat.le_of_ble_eq_true rfl, Nat.le_of_ble_eq_true rfl⟩ dX5_hashGaps_38) ?_
      refine lv_i2l (v := z1.toInt64) hx hb dX5_hashGaps_41 rfl ?_
      refine lv_ladd hx hb dX5_hashGaps_42 ?_
      refine lv_lstore_n (lv' := [(3, .long ((31 * v3) + z1.toInt64)), (0, .ref h0), (5, .int v5)]) hx hb dX5_hashGaps_43 rfl hl (by decide) rfl (fun ls hl => ?_)
      refine lv_ldc2 (v := 31) hx hb E.2.2.2.1 (E.2.2.2.2.1 _ q694) dX5_hashGaps_44 ?_
      refine lv_lload_n hx hb dX5_hashGaps_47 rfl (lv_at hl 0 rfl) ?_
      refine lv_lmul hx hb dX5_hashGaps_48 ?_
      refine lv_aload_n hx hb dX5_hashGaps_49 rfl (lv_at hl 1 rfl) ?_
      refine lv_iconst (v := 1) hx hb dX5_hashGaps_50 (by decide) ?_
      obtain ⟨z2, h, hf⟩ := rt_s hf
      refine x_ci (x_rV E (As := [.int 1]) (rest := [.long (31 * ((31 * v3) + z1.toInt64))]) (mt_X5_gap l D I J O h0 n t b0 b1 hh ha ad 1 x z2 h) blR (x_recv E hP 0 5 rfl rfl rfl) (x_pcR E hP) ok_X5_gap q713 rfl hl.1 rfl (Nat.le_of_ble_eq_true rfl) ⟨Nat.le_of_ble_eq_true rfl, Nat.le_of_ble_eq_true rfl⟩ ⟨Nat.le_of_ble_eq_true rfl, Nat.le_of_ble_eq_true rfl⟩ dX5_hashGaps_51) ?_
      refine lv_i2l (v := z2.toInt64) hx hb dX5_hashGaps_54 rfl ?_
      refine lv_ladd hx hb dX5_hashGaps_55 ?_
      exact x_lR E (Option.some.inj hf) dX5_hashGaps_56
    · rw [if_neg hc] at hf
      refine lv_ldc2 (v := 31) hx hb E.2.2.2.1 (E.2.2.2.2.1 _ q694) dX5_hashGaps_11 ?_
      refine lv_lload_n hx hb dX5_hashGaps_14 rfl (lv_at hl 1 rfl) ?_
      refine lv_lmul hx hb dX5_hashGaps_15 ?_
      refine lv_aload_n hx hb dX5_hashGaps_16 rfl (lv_at hl 0 rfl) ?_
      refine lv_iload hx hb dX5_hashGaps_17 (lv_at hl 2 rfl) ?_
      obtain ⟨z3, h, hf⟩ := rt_s hf
      refine x_ci (x_rV E (As := [.int v5]) (rest := [.long (31 * v3)]) (mt_X5_begins l D I J O h0 n t b0 b1 hh ha ad v5 x z3 h) blR (x_recv E hP 0 5 rfl rfl rfl) (x_pcR E hP) ok_X5_begins q712 rfl hl.1 rfl (Nat.le_of_ble_eq_true rfl) ⟨Nat.le_of_ble_eq_true rfl, Nat.le_of_ble_eq_true rfl⟩ ⟨Nat.le_of_ble_eq_true rfl, Nat.le_of_ble_eq_true rfl⟩ dX5_hashGaps_19) ?_
      refine lv_i2l (v := z3.toInt64) hx hb dX5_hashGaps_22 rfl ?_
      refine lv_ladd hx hb dX5_hashGaps_23 ?_
      refine lv_lstore_n (lv' := [(3, .long ((31 * v3) + z3.toInt64)), (0, .ref h0), (5, .int v5)]) hx hb dX5_hashGaps_24 rfl hl (by decide) rfl (fun ls hl => ?_)
      refine lv_iinc (v := v5 + 1) (lv' := [(5, .int (v5 + 1)), (3, .long ((31 * v3) + z3.toInt64)), (0, .ref h0)]) hx hb dX5_hashGaps_25 hl (k := 2) rfl rfl (by decide) rfl (fun ls hl => ?_)
      refine lv_goto (tgt := 5) hx hb dX5_hashGaps_28 (by decide) ?_
      exact ih ((31 * v3) + z3.toInt64) (v5 + 1) x hf hP _ (lv_sub hl [2, 1, 0] rfl)
set_option maxRecDepth 100000 in
set_option maxHeartbeats 4000000 in
theorem mt_X5_hashGaps (l : Launch) (D : va_G) (I J O : ClassId) (h0 : Nat) (n t : Nat → Nat) (b0 b1 hh ha : Nat) (ad : Nat → Nat → Nat) (p0 : Int64) (x : ClC) (r : Int64) (hf : f_X5_hashGaps p0 x = some r) : mR l yX5_hashGaps cX5_hashGaps 6 (some .long) 4 87 D I J O [.ref h0, .long p0] (wCl I h0 n t b0 b1 hh x ++ wHi I O hh ha ad x.2.2.1) (qRl r) := by
  refine mR_open (own := RX5) rfl (by decide +kernel) (Nat.le_of_ble_eq_true rfl) (fun p e s m below meth c ls E hP hl => ?_)
  have hx := E.1
  have hb := E.2.1
  have hl : lv_has ls 6 [(0, .ref h0), (1, .long p0)] := hl
  unfold f_X5_hashGaps at hf
  refine lv_lload_n hx hb dX5_hashGaps_0 rfl (lv_at hl 1 rfl) ?_
  refine lv_lstore_n (lv' := [(3, .long p0), (0, .ref h0), (1, .long p0)]) hx hb dX5_hashGaps_1 rfl hl (by decide) rfl (fun ls hl => ?_)
  refine lv_iconst (v := 1) hx hb dX5_hashGaps_2 (by decide) ?_
  refine lv_istore (lv' := [(5, .int 1), (3, .long p0), (0, .ref h0), (1, .long p0)]) hx hb dX5_hashGaps_3 hl (by decide) rfl (fun ls hl => ?_)
  exact k_X5_hashGaps_5 E h0 n t b0 b1 hh ha ad r FU p0 1 x hf hP _ (lv_sub hl [2, 1, 0] rfl)
theorem ok_X5_hashRoom : yV yX5_hashRoom cX5_hashRoom 6 (some .long) 1 := ⟨q717, q1, q716, qs16, by decide +kernel, by decide +kernel, by decide +kernel⟩
set_option maxRecDepth 100000 in
set_option maxHeartbeats 4000000 in
theorem k_X5_hashRoom_5 {p : Program} {l : Launch} {e : Env} {s : State} {m : MethodId} {args : Array Value} {below : List Frame} {meth : Method} {c : Code} {D : va_G} {I J O : ClassId} (E : fx p s m args meth c cX5_hashRoom RX5 6 (some .long) D I J O) (h0 : Nat) (n t : Nat → Nat) (b0 b1 hh ha : Nat) (ad : Nat → Nat → Nat)  (r : Int64) : ∀ fu : Nat, ∀ (v3 : Int64) (v5 : Int32) (x : ClC), f_X5_hashRoom_5 fu v3 v5 x = some r → va_P D vwCl (wCl I h0 n t b0 b1 hh x ++ wHi I O hh ha ad x.2.2.1) s.heap → ∀ ls : Array Slot, lv_has ls 6 [(0, .ref h0), (3, .long v3), (5, .int v5)] → W p l e (rmB 5 108 0 0) s m args below meth c s.heap [] 0 0 (MQ below (qRl r) args s 0 0 (fun _ => False)) (F0 m 5 ls []) := by
  have hx := E.1
  have hb := E.2.1
  intro fu
  induction fu with
  | zero =>
    intro v3 v5 x hf hP ls hl
    rw [f_X5_hashRoom_5.eq_1] at hf
    cases hf
  | succ fu ih =>
    intro v3 v5 x hf hP ls hl
    rw [f_X5_hashRoom_5.eq_2] at hf
    refine lv_iload hx hb dX5_hashRoom_5 (lv_at hl 2 rfl) ?_
    refine lv_iconst (v := 4) hx hb dX5_hashRoom_7 (by decide) ?_
    refine lv_icmp_gt (tgt := 47) hx hb dX5_hashRoom_8 (by decide) (fun hc => ?_) (fun hc => ?_)
    · rw [if_pos hc] at hf
      refine lv_ldc2 (v := 31) hx hb E.2.2.2.1 (E.2.2.2.2.1 _ q694) dX5_hashRoom_47 ?_
      refine lv_lload_n hx hb dX5_hashRoom_50 rfl (lv_at hl 1 rfl) ?_
      refine lv_lmul hx hb dX5_hashRoom_51 ?_
      refine lv_aload_n hx hb dX5_hashRoom_52 rfl (lv_at hl 0 rfl) ?_
      obtain ⟨z1, h, hf⟩ := bd_s hf
      refine x_cd (x_rV E (As := []) (rest := [.long (31 * v3)]) (mt_X5_fullness l D I J O h0 n t b0 b1 hh ha ad x z1 h) blR (x_recv E hP 0 5 rfl rfl rfl) (x_pcR E hP) ok_X5_fullness q719 rfl hl.1 rfl (Nat.le_of_ble_eq_true rfl) ⟨Nat.le_of_ble_eq_true rfl, Nat.le_of_ble_eq_true rfl⟩ ⟨Nat.le_of_ble_eq_true rfl, Nat.le_of_ble_eq_true rfl⟩ dX5_hashRoom_53) ?_
      obtain ⟨z2, h, hf⟩ := bd_s hf
      refine x_cl (x_rS E (As := [.double z1]) (rest := [.long (31 * v3)]) (mt_X5_bitsOfShare l D I J O z1 z2 h) blR (x_pcR E x_none) ok_X5_bitsOfShare q723 rfl hl.1 rfl (Nat.le_of_ble_eq_true rfl) ⟨Nat.le_of_ble_eq_true rfl, Nat.le_of_ble_eq_true rfl⟩ ⟨Nat.le_of_ble_eq_true rfl, Nat.le_of_ble_eq_true rfl⟩ dX5_hashRoom_56) ?_
      refine lv_ladd hx hb dX5_hashRoom_59 ?_
      exact x_lR E (Option.some.inj hf) dX5_hashRoom_60
    · rw [if_neg hc] at hf
      refine lv_ldc2 (v := 31) hx hb E.2.2.2.1 (E.2.2.2.2.1 _ q694) dX5_hashRoom_11 ?_
      refine lv_lload_n hx hb dX5_hashRoom_14 rfl (lv_at hl 1 rfl) ?_
      refine lv_lmul hx hb dX5_hashRoom_15 ?_
      refine lv_aload_n hx hb dX5_hashRoom_16 rfl (lv_at hl 0 rfl) ?_
      refine lv_iload hx hb dX5_hashRoom_17 (lv_at hl 2 rfl) ?_
      refine lv_iconst (v := 0) hx hb dX5_hashRoom_19 (by decide) ?_
      obtain ⟨z3, h, hf⟩ := rt_s hf
      refine x_ci (x_rV E (As := [.int v5, .int 0]) (rest := [.long (31 * v3)]) (mt_X5_room l D I J O h0 n t b0 b1 hh ha ad v5 0 x z3 h) blR (x_recv E hP 0 5 rfl rfl rfl) (x_pcR E hP) ok_X5_room q718 rfl hl.1 rfl (Nat.le_of_ble_eq_true rfl) ⟨Nat.le_of_ble_eq_true rfl, Nat.le_of_ble_eq_true rfl⟩ ⟨Nat.le_of_ble_eq_true rfl, Nat.le_of_ble_eq_true rfl⟩ dX5_hashRoom_20) ?_
      refine lv_i2l (v := z3.toInt64) hx hb dX5_hashRoom_23 rfl ?_
      refine lv_ladd hx hb dX5_hashRoom_24 ?_
      refine lv_lstore_n (lv' := [(3, .long ((31 * v3) + z3.toInt64)), (0, .ref h0), (5, .int v5)]) hx hb dX5_hashRoom_25 rfl hl (by decide) rfl (fun ls hl => ?_)
      refine lv_ldc2 (v := 31) hx hb E.2.2.2.1 (E.2.2.2.2.1 _ q694) dX5_hashRoom_26 ?_
      refine lv_lload_n hx hb dX5_hashRoom_29 rfl (lv_at hl 0 rfl) ?_
      refine lv_lmul hx hb dX5_hashRoom_30 ?_
      refine lv_aload_n hx hb dX5_hashRoom_31 rfl (lv_at hl 1 rfl) ?_
      refine lv_iload hx hb dX5_hashRoom_32 (lv_at hl 2 rfl) ?_
      refine lv_iconst (v := 1) hx hb dX5_hashRoom_34 (by decide) ?_
      obtain ⟨z4, h, hf⟩ := rt_s hf
      refine x_ci (x_rV E (As := [.int v5, .int 1]) (rest := [.long (31 * ((31 * v3) + z3.toInt64))]) (mt_X5_room l D I J O h0 n t b0 b1 hh ha ad v5 1 x z4 h) blR (x_recv E hP 0 5 rfl rfl rfl) (x_pcR E hP) ok_X5_room q718 rfl hl.1 rfl (Nat.le_of_ble_eq_true rfl) ⟨Nat.le_of_ble_eq_true rfl, Nat.le_of_ble_eq_true rfl⟩ ⟨Nat.le_of_ble_eq_true rfl, Nat.le_of_ble_eq_true rfl⟩ dX5_hashRoom_35) ?_
      refine lv_i2l (v := z4.toInt64) hx hb dX5_hashRoom_38 rfl ?_
      refine lv_ladd hx hb dX5_hashRoom_39 ?_
      refine lv_lstore_n (lv' := [(3, .long ((31 * ((31 * v3) + z3.toInt64)) + z4.toInt64)), (0, .ref h0), (5, .int v5)]) hx hb dX5_hashRoom_40 rfl hl (by decide) rfl (fun ls hl => ?_)
      refine lv_iinc (v := v5 + 1) (lv' := [(5, .int (v5 + 1)), (3, .long ((31 * ((31 * v3) + z3.toInt64)) + z4.toInt64)), (0, .ref h0)]) hx hb dX5_hashRoom_41 hl (k := 2) rfl rfl (by decide) rfl (fun ls hl => ?_)
      refine lv_goto (tgt := 5) hx hb dX5_hashRoom_44 (by decide) ?_
      exact ih ((31 * ((31 * v3) + z3.toInt64)) + z4.toInt64) (v5 + 1) x hf hP _ (lv_sub hl [2, 1, 0] rfl)
set_option maxRecDepth 100000 in
set_option maxHeartbeats 4000000 in
theorem mt_X5_hashRoom (l : Launch) (D : va_G) (I J O : ClassId) (h0 : Nat) (n t : Nat → Nat) (b0 b1 hh ha : Nat) (ad : Nat → Nat → Nat) (p0 : Int64) (x : ClC) (r : Int64) (hf : f_X5_hashRoom p0 x = some r) : mR l yX5_hashRoom cX5_hashRoom 6 (some .long) 5 108 D I J O [.ref h0, .long p0] (wCl I h0 n t b0 b1 hh x ++ wHi I O hh ha ad x.2.2.1) (qRl r) := by
  refine mR_open (own := RX5) rfl (by decide +kernel) (Nat.le_of_ble_eq_true rfl) (fun p e s m below meth c ls E hP hl => ?_)
  have hx := E.1
  have hb := E.2.1
  have hl : lv_has ls 6 [(0, .ref h0), (1, .long p0)] := hl
  unfold f_X5_hashRoom at hf
  refine lv_lload_n hx hb dX5_hashRoom_0 rfl (lv_at hl 1 rfl) ?_
  refine lv_lstore_n (lv' := [(3, .long p0), (0, .ref h0), (1, .long p0)]) hx hb dX5_hashRoom_1 rfl hl (by decide) rfl (fun ls hl => ?_)
  refine lv_iconst (v := 1) hx hb dX5_hashRoom_2 (by decide) ?_
  refine lv_istore (lv' := [(5, .int 1), (3, .long p0), (0, .ref h0), (1, .long p0)]) hx hb dX5_hashRoom_3 hl (by decide) rfl (fun ls hl => ?_)
  exact k_X5_hashRoom_5 E h0 n t b0 b1 hh ha ad r FU p0 1 x hf hP _ (lv_sub hl [2, 1, 0] rfl)
theorem ok_X5_hashBuffer : yV yX5_hashBuffer cX5_hashBuffer 7 (some .long) 1 := ⟨q732, q1, q731, qs17, by decide +kernel, by decide +kernel, by decide +kernel⟩
set_option maxRecDepth 100000 in
set_option maxHeartbeats 4000000 in
theorem k_X5_hashBuffer_21 {p : Program} {l : Launch} {e : Env} {s : State} {m : MethodId} {args : Array Value} {below : List Frame} {meth : Method} {c : Code} {D : va_G} {I J O : ClassId} (E : fx p s m args meth c cX5_hashBuffer RX5 7 (some .long) D I J O) (h0 : Nat) (n t : Nat → Nat) (b0 b1 hh ha : Nat) (ad : Nat → Nat → Nat)  (r : Int64) : ∀ fu : Nat, ∀ (v3 : Int32) (v4 : Int64) (v6 : Int32) (x : ClC), f_X5_hashBuffer_21 fu v3 v4 v6 x = some r → va_P D vwCl (wCl I h0 n t b0 b1 hh x ++ wHi I O hh ha ad x.2.2.1) s.heap → ∀ ls : Array Slot, lv_has ls 7 [(0, .ref h0), (3, .int v3), (4, .long v4), (6, .int v6)] → W p l e (rmB 1 21 0 0) s m args below meth c s.heap [] 0 0 (MQ below (qRl r) args s 0 0 (fun _ => False)) (F0 m 21 ls []) := by
  have hx := E.1
  have hb := E.2.1
  intro fu
  induction fu with
  | zero =>
    intro v3 v4 v6 x hf hP ls hl
    rw [f_X5_hashBuffer_21.eq_1] at hf
    cases hf
  | succ fu ih =>
    intro v3 v4 v6 x hf hP ls hl
    rw [f_X5_hashBuffer_21.eq_2] at hf
    refine lv_iload hx hb dX5_hashBuffer_21 (lv_at hl 3 rfl) ?_
    refine lv_iload_n hx hb dX5_hashBuffer_23 rfl (lv_at hl 1 rfl) ?_
    refine lv_icmp_ge (tgt := 52) hx hb dX5_hashBuffer_24 (by decide) (fun hc => ?_) (fun hc => ?_)
    · rw [if_pos hc] at hf
      refine lv_lload hx hb dX5_hashBuffer_52 (lv_at hl 2 rfl) ?_
      exact x_lR E (Option.some.inj hf) dX5_hashBuffer_54
    · rw [if_neg hc] at hf
      refine lv_ldc2 (v := 31) hx hb E.2.2.2.1 (E.2.2.2.2.1 _ q694) dX5_hashBuffer_27 ?_
      refine lv_lload hx hb dX5_hashBuffer_30 (lv_at hl 2 rfl) ?_
      refine lv_lmul hx hb dX5_hashBuffer_32 ?_
      refine lv_aload_n hx hb dX5_hashBuffer_33 rfl (lv_at hl 0 rfl) ?_
      refine x_get E hP 0 rfl rfl in5 3 (by decide) q134 rfl rfl dX5_hashBuffer_34 ?_
      refine lv_iload hx hb dX5_hashBuffer_37 (lv_at hl 3 rfl) ?_
      obtain ⟨z2, h, hf⟩ := bd_s hf
      refine x_ci (x_rV E (As := [.int v6]) (rest := [.long (31 * v4)]) (mt_X4_codeAt l D I J O b0 b1 v6 x.2.2.2 z2 h) blR (x_recv E hP 25 4 rfl rfl rfl) (x_pcR E (x_pick hP [25, 26] rfl)) ok_X4_codeAt q614 rfl hl.1 rfl (Nat.le_of_ble_eq_true rfl) ⟨Nat.le_of_ble_eq_true rfl, Nat.le_of_ble_eq_true rfl⟩ ⟨Nat.le_of_ble_eq_true rfl, Nat.le_of_ble_eq_true rfl⟩ dX5_hashBuffer_39) ?_
      refine lv_i2l (v := z2.toInt64) hx hb dX5_hashBuffer_42 rfl ?_
      refine lv_ladd hx hb dX5_hashBuffer_43 ?_
      refine lv_lstore (lv' := [(4, .long ((31 * v4) + z2.toInt64)), (0, .ref h0), (3, .int v3), (6, .int v6)]) hx hb dX5_hashBuffer_44 hl (by decide) rfl (fun ls hl => ?_)
      refine lv_iinc (v := v6 + 1) (lv' := [(6, .int (v6 + 1)), (4, .long ((31 * v4) + z2.toInt64)), (0, .ref h0), (3, .int v3)]) hx hb dX5_hashBuffer_46 hl (k := 3) rfl rfl (by decide) rfl (fun ls hl => ?_)
      refine lv_goto (tgt := 21) hx hb dX5_hashBuffer_49 (by decide) ?_
      exact ih v3 ((31 * v4) + z2.toInt64) (v6 + 1) x hf hP _ (lv_sub hl [2, 3, 1, 0] rfl)
set_option maxRecDepth 100000 in
set_option maxHeartbeats 4000000 in
theorem mt_X5_hashBuffer (l : Launch) (D : va_G) (I J O : ClassId) (h0 : Nat) (n t : Nat → Nat) (b0 b1 hh ha : Nat) (ad : Nat → Nat → Nat) (p0 : Int64) (x : ClC) (r : Int64) (hf : f_X5_hashBuffer p0 x = some r) : mR l yX5_hashBuffer cX5_hashBuffer 7 (some .long) 1 21 D I J O [.ref h0, .long p0] (wCl I h0 n t b0 b1 hh x ++ wHi I O hh ha ad x.2.2.1) (qRl r) := by
  refine mR_open (own := RX5) rfl (by decide +kernel) (Nat.le_of_ble_eq_true rfl) (fun p e s m below meth c ls E hP hl => ?_)
  have hx := E.1
  have hb := E.2.1
  have hl : lv_has ls 7 [(0, .ref h0), (1, .long p0)] := hl
  unfold f_X5_hashBuffer at hf
  refine lv_aload_n hx hb dX5_hashBuffer_0 rfl (lv_at hl 0 rfl) ?_
  refine x_get E hP 0 rfl rfl in5 3 (by decide) q134 rfl rfl dX5_hashBuffer_1 ?_
  obtain ⟨z1, h, hf⟩ := bd_s hf
  refine x_ci (x_rV E (As := []) (rest := []) (mt_X4_size l D I J O b0 b1 x.2.2.2 z1 h) blR (x_recv E hP 25 4 rfl rfl rfl) (x_pcR E (x_pick hP [25, 26] rfl)) ok_X4_size q573 rfl hl.1 rfl (Nat.le_of_ble_eq_true rfl) ⟨Nat.le_of_ble_eq_true rfl, Nat.le_of_ble_eq_true rfl⟩ ⟨Nat.le_of_ble_eq_true rfl, Nat.le_of_ble_eq_true rfl⟩ dX5_hashBuffer_4) ?_
  refine lv_istore_n (lv' := [(3, .int z1), (0, .ref h0), (1, .long p0)]) hx hb dX5_hashBuffer_7 rfl hl (by decide) rfl (fun ls hl => ?_)
  refine lv_ldc2 (v := 31) hx hb E.2.2.2.1 (E.2.2.2.2.1 _ q694) dX5_hashBuffer_8 ?_
  refine lv_lload_n hx hb dX5_hashBuffer_11 rfl (lv_at hl 2 rfl) ?_
  refine lv_lmul hx hb dX5_hashBuffer_12 ?_
  refine lv_iload_n hx hb dX5_hashBuffer_13 rfl (lv_at hl 0 rfl) ?_
  refine lv_i2l (v := z1.toInt64) hx hb dX5_hashBuffer_14 rfl ?_
  refine lv_ladd hx hb dX5_hashBuffer_15 ?_
  refine lv_lstore (lv' := [(4, .long ((31 * p0) + z1.toInt64)), (3, .int z1), (0, .ref h0), (1, .long p0)]) hx hb dX5_hashBuffer_16 hl (by decide) rfl (fun ls hl => ?_)
  refine lv_iconst (v := 0) hx hb dX5_hashBuffer_18 (by decide) ?_
  refine lv_istore (lv' := [(6, .int 0), (4, .long ((31 * p0) + z1.toInt64)), (3, .int z1), (0, .ref h0), (1, .long p0)]) hx hb dX5_hashBuffer_19 hl (by decide) rfl (fun ls hl => ?_)
  exact k_X5_hashBuffer_21 E h0 n t b0 b1 hh ha ad r FU z1 ((31 * p0) + z1.toInt64) 0 x hf hP _ (lv_sub hl [3, 2, 1, 0] rfl)
theorem ok_X5_digest : yV yX5_digest cX5_digest 4 (some .long) 0 := ⟨q692, q1, q690, q691, by decide +kernel, by decide +kernel, by decide +kernel⟩
set_option maxRecDepth 100000 in
set_option maxHeartbeats 4000000 in
theorem k_X5_digest_6 {p : Program} {l : Launch} {e : Env} {s : State} {m : MethodId} {args : Array Value} {below : List Frame} {meth : Method} {c : Code} {D : va_G} {I J O : ClassId} (E : fx p s m args meth c cX5_digest RX5 4 (some .long) D I J O) (h0 : Nat) (n t : Nat → Nat) (b0 b1 hh ha : Nat) (ad : Nat → Nat → Nat)  {ws0 : va_W} {sz : Nat} (r : Int64) (y0 : ClC) : ∀ fu : Nat, ∀ (v1 : Int64) (v3 : Int32) (x : ClC), f_X5_digest_6 fu v1 v3 x = some (r, y0) → ∀ (H : Heap) (locs : List Loc), fy D (va_A ws0 sz) s.heap H locs (wCl I h0 n t b0 b1 hh x ++ wHi I O hh ha ad x.2.2.1) → ∀ ls : Array Slot, lv_has ls 4 [(0, .ref h0), (1, .long v1), (3, .int v3)] → W p l e (rmB 7 156 0 0) s m args below meth c H locs 0 0 (MQ below (qMl D sz ws0 r (fun ad9 : Nat → Nat → Nat => wCl I h0 n t b0 b1 hh y0 ++ wHi I O hh ha ad9 y0.2.2.1)) args s 0 0 (va_A ws0 sz)) (F0 m 6 ls []) := by
  have hx := E.1
  have hb := E.2.1
  intro fu
  induction fu with
  | zero =>
    intro v1 v3 x hf H locs hw ls hl
    rw [f_X5_digest_6.eq_1] at hf
    cases hf
  | succ fu ih =>
    intro v1 v3 x hf H locs hw ls hl
    rw [f_X5_digest_6.eq_2] at hf
    refine lv_iload_n hx hb dX5_digest_6 rfl (lv_at hl 2 rfl) ?_
    refine lv_bipush (v := 9) hx hb dX5_digest_7 (by decide) ?_
    refine lv_icmp_gt (tgt := 31) hx hb dX5_digest_9 (by decide) (fun hc => ?_) (fun hc => ?_)
    · rw [if_pos hc] at hf
      refine lv_aload_n hx hb dX5_digest_31 rfl (lv_at hl 0 rfl) ?_
      refine lv_lload_n hx hb dX5_digest_32 rfl (lv_at hl 1 rfl) ?_
      obtain ⟨z1, h, hf⟩ := bd_s hf
      refine x_cl (x_rV E (As := [.long v1]) (rest := []) (mt_X5_hashThings l D I J O h0 n t b0 b1 hh ha ad v1 x z1 h) blR (x_recv E hw.1 0 5 rfl rfl rfl) (x_pcR E hw.1) ok_X5_hashThings q696 rfl hl.1 rfl (Nat.le_of_ble_eq_true rfl) ⟨Nat.le_of_ble_eq_true rfl, Nat.le_of_ble_eq_true rfl⟩ ⟨Nat.le_of_ble_eq_true rfl, Nat.le_of_ble_eq_true rfl⟩ dX5_digest_33) ?_
      refine lv_lstore_n (lv' := [(1, .long z1), (0, .ref h0), (3, .int v3)]) hx hb dX5_digest_36 rfl hl (by decide) rfl (fun ls hl => ?_)
      refine lv_aload_n hx hb dX5_digest_37 rfl (lv_at hl 1 rfl) ?_
      refine lv_lload_n hx hb dX5_digest_38 rfl (lv_at hl 0 rfl) ?_
      obtain ⟨z2, h, hf⟩ := bd_s hf
      refine x_cl (x_rV E (As := [.long z1]) (rest := []) (mt_X5_hashCellsAndWalkers l D I J O h0 n t b0 b1 hh ha ad z1 x z2 h) blR (x_recv E hw.1 0 5 rfl rfl rfl) (x_pcR E hw.1) ok_X5_hashCellsAndWalkers q702 rfl hl.1 rfl (Nat.le_of_ble_eq_true rfl) ⟨Nat.le_of_ble_eq_true rfl, Nat.le_of_ble_eq_true rfl⟩ ⟨Nat.le_of_ble_eq_true rfl, Nat.le_of_ble_eq_true rfl⟩ dX5_digest_39) ?_
      refine lv_lstore_n (lv' := [(1, .long z2), (0, .ref h0), (3, .int v3)]) hx hb dX5_digest_42 rfl hl (by decide) rfl (fun ls hl => ?_)
      refine lv_aload_n hx hb dX5_digest_43 rfl (lv_at hl 1 rfl) ?_
      refine lv_lload_n hx hb dX5_digest_44 rfl (lv_at hl 0 rfl) ?_
      obtain ⟨z3, h, hf⟩ := bd_s hf
      refine x_cl (x_rV E (As := [.long z2]) (rest := []) (mt_X5_hashGaps l D I J O h0 n t b0 b1 hh ha ad z2 x z3 h) blR (x_recv E hw.1 0 5 rfl rfl rfl) (x_pcR E hw.1) ok_X5_hashGaps q708 rfl hl.1 rfl (Nat.le_of_ble_eq_true rfl) ⟨Nat.le_of_ble_eq_true rfl, Nat.le_of_ble_eq_true rfl⟩ ⟨Nat.le_of_ble_eq_true rfl, Nat.le_of_ble_eq_true rfl⟩ dX5_digest_45) ?_
      refine lv_lstore_n (lv' := [(1, .long z3), (0, .ref h0), (3, .int v3)]) hx hb dX5_digest_48 rfl hl (by decide) rfl (fun ls hl => ?_)
      refine lv_ldc2 (v := 31) hx hb E.2.2.2.1 (E.2.2.2.2.1 _ q694) dX5_digest_49 ?_
      refine lv_lload_n hx hb dX5_digest_52 rfl (lv_at hl 0 rfl) ?_
      refine lv_lmul hx hb dX5_digest_53 ?_
      refine lv_aload_n hx hb dX5_digest_54 rfl (lv_at hl 1 rfl) ?_
      refine lv_iconst (v := 2) hx hb dX5_digest_55 (by decide) ?_
      obtain ⟨z4, h, hf⟩ := bd_s hf
      refine x_miFP0 hw (x_rV E (As := [.int 2]) (rest := [.long (31 * z3)]) (mt_X5_tryEvents l D I J O h0 n t b0 b1 hh ha ad H.size 2 x z4.1 z4.2 h) blM (x_recv E hw.1 0 5 rfl rfl rfl) (x_pcMPF0 E hw) ok_X5_tryEvents q676 rfl hl.1 rfl (Nat.le_of_ble_eq_true rfl) ⟨Nat.le_of_ble_eq_true rfl, Nat.le_of_ble_eq_true rfl⟩ ⟨Nat.le_of_ble_eq_true rfl, Nat.le_of_ble_eq_true rfl⟩ dX5_digest_56) (fun _ => rfl) (fun ad5 H locs hw => ?_)
      have hw : fy D (va_A ws0 sz) s.heap H locs (wCl I h0 n t b0 b1 hh z4.2 ++ wHi I O hh ha ad5 z4.2.2.2.1) := hw
      refine lv_i2l (v := z4.1.toInt64) hx hb dX5_digest_59 rfl ?_
      refine lv_ladd hx hb dX5_digest_60 ?_
      refine lv_lstore_n (lv' := [(1, .long ((31 * z3) + z4.1.toInt64)), (0, .ref h0), (3, .int v3)]) hx hb dX5_digest_61 rfl hl (by decide) rfl (fun ls hl => ?_)
      refine lv_ldc2 (v := 31) hx hb E.2.2.2.1 (E.2.2.2.2.1 _ q694) dX5_digest_62 ?_
      refine lv_lload_n hx hb dX5_digest_65 rfl (lv_at hl 0 rfl) ?_
      refine lv_lmul hx hb dX5_digest_66 ?_
      refine lv_aload_n hx hb dX5_digest_67 rfl (lv_at hl 1 rfl) ?_
      refine x_get E hw.1 0 rfl rfl in5 1 (by decide) q132 rfl rfl dX5_digest_68 ?_
      refine x_getN E hw.1 13 rfl rfl in3 1 (by decide) E.2.2.2.2.2.1.2.2.2.1 rfl rfl dX5_digest_71 ?_
      obtain ⟨z6, h, hf⟩ := bd_s hf
      refine x_ci (x_rV E (As := []) (rest := [.long (31 * ((31 * z3) + z4.1.toInt64))]) (mt_X1_things l D I J O (t 8) (t 9) (t 10) z4.2.2.1.2.1 z6 h) blR (x_recv E hw.1 21 1 rfl rfl rfl) (x_pcR E (x_pick hw.1 [21, 22, 23] rfl)) ok_X1_things q403 rfl hl.1 rfl (Nat.le_of_ble_eq_true rfl) ⟨Nat.le_of_ble_eq_true rfl, Nat.le_of_ble_eq_true rfl⟩ ⟨Nat.le_of_ble_eq_true rfl, Nat.le_of_ble_eq_true rfl⟩ dX5_digest_74) ?_
      refine lv_i2l (v := z6.toInt64) hx hb dX5_digest_77 rfl ?_
      refine lv_ladd hx hb dX5_digest_78 ?_
      refine lv_lstore_n (lv' := [(1, .long ((31 * ((31 * z3) + z4.1.toInt64)) + z6.toInt64)), (0, .ref h0), (3, .int v3)]) hx hb dX5_digest_79 rfl hl (by decide) rfl (fun ls hl => ?_)
      refine lv_ldc2 (v := 31) hx hb E.2.2.2.1 (E.2.2.2.2.1 _ q694) dX5_digest_80 ?_
      refine lv_lload_n hx hb dX5_digest_83 rfl (lv_at hl 0 rfl) ?_
      refine lv_lmul hx hb dX5_digest_84 ?_
      refine lv_aload_n hx hb dX5_digest_85 rfl (lv_at hl 1 rfl) ?_
      refine x_get E hw.1 0 rfl rfl in5 1 (by decide) q132 rfl rfl dX5_digest_86 ?_
      refine x_getN E hw.1 13 rfl rfl in3 0 (by decide) E.2.2.2.2.2.1.2.2.1 rfl rfl dX5_digest_89 ?_
      obtain ⟨z7, h, hf⟩ := bd_s hf
      refine x_ci (x_rV E (As := []) (rest := [.long (31 * ((31 * ((31 * z3) + z4.1.toInt64)) + z6.toInt64))]) (mt_X2_cellsNow l D I J O (t 1) (t 2) (t 3) (t 4) (t 5) (t 6) (t 7) z4.2.2.1.1 z7 h) blR (x_recv E hw.1 14 2 rfl rfl rfl) (x_pcR E (x_pick hw.1 [14, 15, 16, 17, 18, 19, 20] rfl)) ok_X2_cellsNow q419 rfl hl.1 rfl (Nat.le_of_ble_eq_true rfl) ⟨Nat.le_of_ble_eq_true rfl, Nat.le_of_ble_eq_true rfl⟩ ⟨Nat.le_of_ble_eq_true rfl, Nat.le_of_ble_eq_true rfl⟩ dX5_digest_92) ?_
      refine lv_i2l (v := z7.toInt64) hx hb dX5_digest_95 rfl ?_
      refine lv_ladd hx hb dX5_digest_96 ?_
      refine lv_lstore_n (lv' := [(1, .long ((31 * ((31 * ((31 * z3) + z4.1.toInt64)) + z6.toInt64)) + z7.toInt64)), (0, .ref h0), (3, .int v3)]) hx hb dX5_digest_97 rfl hl (by decide) rfl (fun ls hl => ?_)
      refine lv_aload_n hx hb dX5_digest_98 rfl (lv_at hl 1 rfl) ?_
      refine lv_lload_n hx hb dX5_digest_99 rfl (lv_at hl 0 rfl) ?_
      obtain ⟨z8, h, hf⟩ := bd_s hf
      refine x_cl (x_rV E (As := [.long ((31 * ((31 * ((31 * z3) + z4.1.toInt64)) + z6.toInt64)) + z7.toInt64)]) (rest := []) (mt_X5_hashRoom l D I J O h0 n t b0 b1 hh ha ad5 ((31 * ((31 * ((31 * z3) + z4.1.toInt64)) + z6.toInt64)) + z7.toInt64) z4.2 z8 h) blR (x_recv E hw.1 0 5 rfl rfl rfl) (x_pcR E hw.1) ok_X5_hashRoom q714 rfl hl.1 rfl (Nat.le_of_ble_eq_true rfl) ⟨Nat.le_of_ble_eq_true rfl, Nat.le_of_ble_eq_true rfl⟩ ⟨Nat.le_of_ble_eq_true rfl, Nat.le_of_ble_eq_true rfl⟩ dX5_digest_100) ?_
      refine lv_lstore_n (lv' := [(1, .long z8), (0, .ref h0), (3, .int v3)]) hx hb dX5_digest_103 rfl hl (by decide) rfl (fun ls hl => ?_)
      refine lv_aload_n hx hb dX5_digest_104 rfl (lv_at hl 1 rfl) ?_
      refine lv_lload_n hx hb dX5_digest_105 rfl (lv_at hl 0 rfl) ?_
      obtain ⟨z9, h, hf⟩ := bd_s hf
      refine x_cl (x_rV E (As := [.long z8]) (rest := []) (mt_X5_hashBuffer l D I J O h0 n t b0 b1 hh ha ad5 z8 z4.2 z9 h) blR (x_recv E hw.1 0 5 rfl rfl rfl) (x_pcR E hw.1) ok_X5_hashBuffer q729 rfl hl.1 rfl (Nat.le_of_ble_eq_true rfl) ⟨Nat.le_of_ble_eq_true rfl, Nat.le_of_ble_eq_true rfl⟩ ⟨Nat.le_of_ble_eq_true rfl, Nat.le_of_ble_eq_true rfl⟩ dX5_digest_106) ?_
      obtain ⟨he0, hr⟩ := Prod.mk.inj (Option.some.inj hf)
      have he1 := hr
      subst he1
      exact x_lM E ad5 hw he0 dX5_digest_109
    · rw [if_neg hc] at hf
      refine lv_ldc2 (v := 31) hx hb E.2.2.2.1 (E.2.2.2.2.1 _ q694) dX5_digest_12 ?_
      refine lv_lload_n hx hb dX5_digest_15 rfl (lv_at hl 1 rfl) ?_
      refine lv_lmul hx hb dX5_digest_16 ?_
      refine lv_aload_n hx hb dX5_digest_17 rfl (lv_at hl 0 rfl) ?_
      refine lv_iload_n hx hb dX5_digest_18 rfl (lv_at hl 2 rfl) ?_
      obtain ⟨z10, h, hf⟩ := rt_s hf
      refine x_ci (x_rV E (As := [.int v3]) (rest := [.long (31 * v1)]) (mt_X5_count l D I J O h0 n t b0 b1 hh ha ad v3 x z10 h) blR (x_recv E hw.1 0 5 rfl rfl rfl) (x_pcR E hw.1) ok_X5_count q695 rfl hl.1 rfl (Nat.le_of_ble_eq_true rfl) ⟨Nat.le_of_ble_eq_true rfl, Nat.le_of_ble_eq_true rfl⟩ ⟨Nat.le_of_ble_eq_true rfl, Nat.le_of_ble_eq_true rfl⟩ dX5_digest_19) ?_
      refine lv_i2l (v := z10.toInt64) hx hb dX5_digest_22 rfl ?_
      refine lv_ladd hx hb dX5_digest_23 ?_
      refine lv_lstore_n (lv' := [(1, .long ((31 * v1) + z10.toInt64)), (0, .ref h0), (3, .int v3)]) hx hb dX5_digest_24 rfl hl (by decide) rfl (fun ls hl => ?_)
      refine lv_iinc (v := v3 + 1) (lv' := [(3, .int (v3 + 1)), (1, .long ((31 * v1) + z10.toInt64)), (0, .ref h0)]) hx hb dX5_digest_25 hl (k := 2) rfl rfl (by decide) rfl (fun ls hl => ?_)
      refine lv_goto (tgt := 6) hx hb dX5_digest_28 (by decide) ?_
      exact ih ((31 * v1) + z10.toInt64) (v3 + 1) x hf _ _ hw _ (lv_sub hl [2, 1, 0] rfl)
set_option maxRecDepth 100000 in
set_option maxHeartbeats 4000000 in
theorem mt_X5_digest (l : Launch) (D : va_G) (I J O : ClassId) (h0 : Nat) (n t : Nat → Nat) (b0 b1 hh ha : Nat) (ad : Nat → Nat → Nat) (sz : Nat)  (x : ClC) (r : Int64) (y0 : ClC) (hf : f_X5_digest x = some (r, y0)) : mM l yX5_digest cX5_digest 4 (some .long) 7 156 0 0 D I J O sz [.ref h0] (wCl I h0 n t b0 b1 hh x ++ wHi I O hh ha ad x.2.2.1) (qMl D sz (wCl I h0 n t b0 b1 hh x ++ wHi I O hh ha ad x.2.2.1) r (fun ad9 : Nat → Nat → Nat => wCl I h0 n t b0 b1 hh y0 ++ wHi I O hh ha ad9 y0.2.2.1)) := by
  refine mM_open (own := RX5) rfl (by decide +kernel) (Nat.le_of_ble_eq_true rfl) (fun p e s m below meth c ls E hnm hsz hw hl => ?_)
  obtain ⟨ws0, hws⟩ : ∃ ws0 : va_W, ws0 = wCl I h0 n t b0 b1 hh x ++ wHi I O hh ha ad x.2.2.1 := ⟨_, rfl⟩
  have hw : fy D (va_A ws0 sz) s.heap s.heap [] (wCl I h0 n t b0 b1 hh x ++ wHi I O hh ha ad x.2.2.1) := by rw [hws]; exact hw
  rw [← hws]
  have hx := E.1
  have hb := E.2.1
  have hl : lv_has ls 4 [(0, .ref h0)] := hl
  unfold f_X5_digest at hf
  refine lv_ldc2 (v := 3251) hx hb E.2.2.2.1 (E.2.2.2.2.1 _ q693) dX5_digest_0 ?_
  refine lv_lstore_n (lv' := [(1, .long 3251), (0, .ref h0)]) hx hb dX5_digest_3 rfl hl (by decide) rfl (fun ls hl => ?_)
  refine lv_iconst (v := 0) hx hb dX5_digest_4 (by decide) ?_
  refine lv_istore_n (lv' := [(3, .int 0), (1, .long 3251), (0, .ref h0)]) hx hb dX5_digest_5 rfl hl (by decide) rfl (fun ls hl => ?_)
  exact k_X5_digest_6 E h0 n t b0 b1 hh ha ad r y0 FU 3251 0 x hf _ _ hw _ (lv_sub hl [2, 1, 0] rfl)
