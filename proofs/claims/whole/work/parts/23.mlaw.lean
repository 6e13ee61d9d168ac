theorem ok_L_cell : yW yL_cell cL_cell 5 (some .int) [(0, 10, 13, 21), (0, 10, 17, 13)] 4 := ⟨q765, q0, q764, by decide +kernel, by decide +kernel, by decide +kernel⟩
set_option maxRecDepth 100000 in
set_option maxHeartbeats 4000000 in
theorem mt_L_cell (l : Launch) (hfl : l.stackTraces = false) (D : va_G) (I J O : ClassId) (h0 : Nat) (n t : Nat → Nat) (b0 b1 hh ha : Nat) (ad : Nat → Nat → Nat) (c0 : Nat) (sz : Nat) (p1 : Int32) (p2 : Int32) (x : ClC) (o : FnL) (r : Int32) (y1 : FnL) (hf : f_L_cell p1 p2 x o = some (r, y1)) : mW l yL_cell cL_cell 5 (some .int) [(0, 10, 13, 21), (0, 10, 17, 13)] 7 104 D I J O sz [.ref h0, .int p1, .int p2, .ref c0] (wCl I h0 n t b0 b1 hh x ++ wLo J c0 1 o ++ wHi I O hh ha ad x.2.2.1) (qMi D sz (wCl I h0 n t b0 b1 hh x ++ wLo J c0 1 o ++ wHi I O hh ha ad x.2.2.1) r (fun ad9 : Nat → Nat → Nat => wCl I h0 n t b0 b1 hh x ++ wLo J c0 1 y1 ++ wHi I O hh ha ad9 x.2.2.1)) := by
  refine mW_open (own := RL) rfl (by decide +kernel) (Nat.le_of_ble_eq_true rfl) (fun p e s m below meth c ls E htab hX hsz hw hl => ?_)
  obtain ⟨ws0, hws⟩ : ∃ ws0 : va_W, ws0 = wCl I h0 n t b0 b1 hh x ++ wLo J c0 1 o ++ wHi I O hh ha ad x.2.2.1 := ⟨_, rfl⟩
  have hw : fy D (va_A ws0 sz) s.heap s.heap [] (wCl I h0 n t b0 b1 hh x ++ wLo J c0 1 o ++ wHi I O hh ha ad x.2.2.1) := by rw [hws]; exact hw
  rw [← hws]
  have hx := E.1
  have hb := E.2.1
  have hl : lv_has ls 5 [(0, .ref h0), (1, .int p1), (2, .int p2), (3, .ref c0)] := hl
  unfold f_L_cell at hf
  refine lv_aload_n hx hb dL_cell_0 rfl (lv_at hl 3 rfl) ?_
  refine lv_iconst (v := 0) hx hb dL_cell_1 (by decide) ?_
  refine lv_aload_n hx hb dL_cell_2 rfl (lv_at hl 0 rfl) ?_
  refine lv_iload_n hx hb dL_cell_3 rfl (lv_at hl 1 rfl) ?_
  refine lv_iload_n hx hb dL_cell_4 rfl (lv_at hl 2 rfl) ?_
  rcases ct_s hf with ⟨z1, h, hf⟩ | ⟨ex, h, hf⟩
  · refine x_ci (x_rV E (As := [.int p1, .int p2]) (rest := [.int 0, .ref c0]) (mt_X5_cell l D I J O h0 n t b0 b1 hh ha ad p1 p2 x z1 h) blR (x_recv E hw.1 0 5 rfl rfl rfl) (x_pcR E (va_P.part hw.1 [0, 1, 2, 3, 4, 5, 6, 7, 8, 9, 10, 11, 12, 13, 14, 15, 16, 17, 18, 19, 20, 21, 22, 23, 24, 25, 26] rfl)) ok_X5_cell q766 rfl hl.1 rfl (Nat.le_of_ble_eq_true rfl) ⟨Nat.le_of_ble_eq_true rfl, Nat.le_of_ble_eq_true rfl⟩ ⟨Nat.le_of_ble_eq_true rfl, Nat.le_of_ble_eq_true rfl⟩ dL_cell_5) ?_
    refine lv_i2l (v := z1.toInt64) hx hb dL_cell_8 rfl ?_
    obtain ⟨g, hf⟩ := gi_s hf
    refine x_last E hw 27 rfl g dL_cell_9 (fun H locs hw => ?_)
    have hw : fy D (va_A ws0 sz) s.heap H locs (wCl I h0 n t b0 b1 hh x ++ wLo J c0 1 (vp_updL o (0 : Int32).toNatClampNeg z1.toInt64) ++ wHi I O hh ha ad x.2.2.1) := hw
    refine lv_goto (tgt := 21) hx hb dL_cell_10 (by decide) ?_
    refine lv_iconst (v := 0) hx hb dL_cell_21 (by decide) ?_
    obtain ⟨he0, hr⟩ := Prod.mk.inj (Option.some.inj hf)
    have he1 := hr
    subst he1
    refine W.widen (k := 1) (n := 6) (by decide) (by decide) ?_
    exact x_iM E ad hw he0 dL_cell_22
  · by_cases hq : ex = 3
    · rw [if_pos hq] at hf
      subst hq
      refine x_cX (en := "java/lang/IndexOutOfBoundsException") (free := fun q => s.heap.size ≤ q) hw (fun q hq => hw.2.2.2 q hq) (x_rX E (As := [.int p1, .int p2]) (rest := [.int 0, .ref c0]) (mx_X5_cell l hfl D I J O h0 n t b0 b1 hh ha ad s.heap.size p1 p2 x 3 h) blX (x_recv E hw.1 0 5 rfl rfl rfl) (x_pcX E hX rfl (va_P.part hw.1 [0, 1, 2, 3, 4, 5, 6, 7, 8, 9, 10, 11, 12, 13, 14, 15, 16, 17, 18, 19, 20, 21, 22, 23, 24, 25, 26] rfl)) ok_X5_cell q766 rfl hl.1 rfl (Nat.le_of_ble_eq_true rfl) ⟨Nat.le_of_ble_eq_true rfl, Nat.le_of_ble_eq_true rfl⟩ ⟨Nat.le_of_ble_eq_true rfl, Nat.le_of_ble_eq_true rfl⟩ dL_cell_5) (fun ce q9 H locs hw hce hcv hcl => ?_)
      refine vx_catch (own := RL) (name := "java/lang/IndexOutOfBoundsException") E.2.2.2.1 [] (⟨0, 10, 13, 21⟩ : ExceptionTableEntry) [(⟨0, 10, 17, 13⟩ : ExceptionTableEntry)] (htab.trans rfl) (fun z hz => nomatch hz) (by decide) (by decide) (E.2.2.2.2.1 _ q636) (va_Nw.use rfl hX.2.2.1.2.2) hce hcv hcl ?_
      refine lv_astore (lv' := [(4, .ref q9), (0, .ref h0), (1, .int p1), (2, .int p2), (3, .ref c0)]) hx hb dL_cell_13 hl (by decide) rfl (fun ls hl => ?_)
      refine lv_iconst (v := 1) hx hb dL_cell_15 (by decide) ?_
      obtain ⟨he0, hr⟩ := Prod.mk.inj (Option.some.inj hf)
      have he1 := hr
      subst he1
      refine W.widen (k := 1) (n := 6) (by decide) (by decide) ?_
      exact x_iM E ad hw he0 dL_cell_16
    · rw [if_neg hq] at hf
      by_cases hq : ex = 1
      · rw [if_pos hq] at hf
        subst hq
        refine x_cX (en := "java/lang/IllegalArgumentException") (free := fun q => s.heap.size ≤ q) hw (fun q hq => hw.2.2.2 q hq) (x_rX E (As := [.int p1, .int p2]) (rest := [.int 0, .ref c0]) (mx_X5_cell l hfl D I J O h0 n t b0 b1 hh ha ad s.heap.size p1 p2 x 1 h) blX (x_recv E hw.1 0 5 rfl rfl rfl) (x_pcX E hX rfl (va_P.part hw.1 [0, 1, 2, 3, 4, 5, 6, 7, 8, 9, 10, 11, 12, 13, 14, 15, 16, 17, 18, 19, 20, 21, 22, 23, 24, 25, 26] rfl)) ok_X5_cell q766 rfl hl.1 rfl (Nat.le_of_ble_eq_true rfl) ⟨Nat.le_of_ble_eq_true rfl, Nat.le_of_ble_eq_true rfl⟩ ⟨Nat.le_of_ble_eq_true rfl, Nat.le_of_ble_eq_true rfl⟩ dL_cell_5) (fun ce q9 H locs hw hce hcv hcl => ?_)
        refine vx_catch (own := RL) (name := "java/lang/IllegalArgumentException") E.2.2.2.1 [(⟨0, 10, 13, 21⟩ : ExceptionTableEntry)] (⟨0, 10, 17, 13⟩ : ExceptionTableEntry) [] (htab.trans rfl) (fun z hz => by rcases List.mem_cons.mp hz with rfl | hz; exact Or.inr ⟨by decide, _, E.2.2.2.2.1 _ q636, hX.2.2.2.1.2.1⟩; cases hz) (by decide) (by decide) (E.2.2.2.2.1 _ q602) (va_Nw.use rfl hX.2.2.1.1) hce hcv hcl ?_
        refine lv_astore (lv' := [(4, .ref q9), (0, .ref h0), (1, .int p1), (2, .int p2), (3, .ref c0)]) hx hb dL_cell_17 hl (by decide) rfl (fun ls hl => ?_)
        refine lv_iconst (v := 2) hx hb dL_cell_19 (by decide) ?_
        obtain ⟨he0, hr⟩ := Prod.mk.inj (Option.some.inj hf)
        have he1 := hr
        subst he1
        refine W.widen (k := 1) (n := 6) (by decide) (by decide) ?_
        exact x_iM E ad hw he0 dL_cell_20
      · rw [if_neg hq] at hf
        cases hf
theorem ok_L_put : yW yL_put cL_put 6 (some .int) [(0, 12, 15, 13), (0, 12, 19, 15)] 5 := ⟨q601, q0, q600, by decide +kernel, by decide +kernel, by decide +kernel⟩
set_option maxRecDepth 100000 in
set_option maxHeartbeats 4000000 in
theorem mt_L_put (l : Launch) (hfl : l.stackTraces = false) (D : va_G) (I J O : ClassId) (h0 : Nat) (n t : Nat → Nat) (b0 b1 hh ha : Nat) (ad : Nat → Nat → Nat) (c0 : Nat) (sz : Nat) (p1 : Int32) (p2 : Int32) (p3 : Int32) (x : ClC) (o : FnL) (r : Int32) (y0 : ClC) (y1 : FnL) (hf : f_L_put p1 p2 p3 x o = some (r, y0, y1)) : mW l yL_put cL_put 6 (some .int) [(0, 12, 15, 13), (0, 12, 19, 15)] 7 117 D I J O sz [.ref h0, .int p1, .int p2, .int p3, .ref c0] (wCl I h0 n t b0 b1 hh x ++ wLo J c0 1 o ++ wHi I O hh ha ad x.2.2.1) (qMi D sz (wCl I h0 n t b0 b1 hh x ++ wLo J c0 1 o ++ wHi I O hh ha ad x.2.2.1) r (fun ad9 : Nat → Nat → Nat => wCl I h0 n t b0 b1 hh y0 ++ wLo J c0 1 y1 ++ wHi I O hh ha ad9 y0.2.2.1)) := by
  refine mW_open (own := RL) rfl (by decide +kernel) (Nat.le_of_ble_eq_true rfl) (fun p e s m below meth c ls E htab hX hsz hw hl => ?_)
  obtain ⟨ws0, hws⟩ : ∃ ws0 : va_W, ws0 = wCl I h0 n t b0 b1 hh x ++ wLo J c0 1 o ++ wHi I O hh ha ad x.2.2.1 := ⟨_, rfl⟩
  have hw : fy D (va_A ws0 sz) s.heap s.heap [] (wCl I h0 n t b0 b1 hh x ++ wLo J c0 1 o ++ wHi I O hh ha ad x.2.2.1) := by rw [hws]; exact hw
  rw [← hws]
  have hx := E.1
  have hb := E.2.1
  have hl : lv_has ls 6 [(0, .ref h0), (1, .int p1), (2, .int p2), (3, .int p3), (4, .ref c0)] := hl
  unfold f_L_put at hf
  refine lv_aload hx hb dL_put_0 (lv_at hl 4 rfl) ?_
  refine lv_iconst (v := 0) hx hb dL_put_2 (by decide) ?_
  refine lv_aload_n hx hb dL_put_3 rfl (lv_at hl 0 rfl) ?_
  refine lv_iload_n hx hb dL_put_4 rfl (lv_at hl 1 rfl) ?_
  refine lv_iload_n hx hb dL_put_5 rfl (lv_at hl 2 rfl) ?_
  refine lv_iload_n hx hb dL_put_6 rfl (lv_at hl 3 rfl) ?_
  rcases ct_s hf with ⟨z1, h, hf⟩ | ⟨ex, h, hf⟩
  · refine x_miFP hw (x_rV E (As := [.int p1, .int p2, .int p3]) (rest := [.int 0, .ref c0]) (mt_X5_put l D I J O h0 n t b0 b1 hh ha ad s.heap.size p1 p2 p3 x z1.1 z1.2 h) blM (x_recv E hw.1 0 5 rfl rfl rfl) (x_pcMPF E hw) ok_X5_put q604 rfl hl.1 rfl (Nat.le_of_ble_eq_true rfl) ⟨Nat.le_of_ble_eq_true rfl, Nat.le_of_ble_eq_true rfl⟩ ⟨Nat.le_of_ble_eq_true rfl, Nat.le_of_ble_eq_true rfl⟩ dL_put_7) (fun _ => rfl) (fun ad2 H locs hw => ?_)
    have hw : fy D (va_A ws0 sz) s.heap H locs (wCl I h0 n t b0 b1 hh z1.2 ++ wLo J c0 1 o ++ wHi I O hh ha ad2 z1.2.2.2.1) := hw
    refine lv_i2l (v := z1.1.toInt64) hx hb dL_put_10 rfl ?_
    obtain ⟨g, hf⟩ := gi_s hf
    refine x_last E hw 27 rfl g dL_put_11 (fun H locs hw => ?_)
    have hw : fy D (va_A ws0 sz) s.heap H locs (wCl I h0 n t b0 b1 hh z1.2 ++ wLo J c0 1 (vp_updL o (0 : Int32).toNatClampNeg z1.1.toInt64) ++ wHi I O hh ha ad2 z1.2.2.2.1) := hw
    refine lv_goto (tgt := 23) hx hb dL_put_12 (by decide) ?_
    refine lv_iconst (v := 0) hx hb dL_put_23 (by decide) ?_
    obtain ⟨he0, hr⟩ := Prod.mk.inj (Option.some.inj hf)
    obtain ⟨he1, hr⟩ := Prod.mk.inj hr
    have he2 := hr
    subst he1
    subst he2
    refine W.widen (k := 1) (n := 6) (by decide) (by decide) ?_
    exact x_iM E ad2 hw he0 dL_put_24
  · by_cases hq : ex = 1
    · rw [if_pos hq] at hf
      subst hq
      refine x_cX (en := "java/lang/IllegalArgumentException") (free := fun q => s.heap.size ≤ q) hw (fun q hq => hw.2.2.2 q hq) (x_rX E (As := [.int p1, .int p2, .int p3]) (rest := [.int 0, .ref c0]) (mx_X5_put l hfl D I J O h0 n t b0 b1 hh ha ad s.heap.size p1 p2 p3 x 1 h) blX (x_recv E hw.1 0 5 rfl rfl rfl) (x_pcX E hX rfl (va_P.part hw.1 [0, 1, 2, 3, 4, 5, 6, 7, 8, 9, 10, 11, 12, 13, 14, 15, 16, 17, 18, 19, 20, 21, 22, 23, 24, 25, 26] rfl)) ok_X5_put q604 rfl hl.1 rfl (Nat.le_of_ble_eq_true rfl) ⟨Nat.le_of_ble_eq_true rfl, Nat.le_of_ble_eq_true rfl⟩ ⟨Nat.le_of_ble_eq_true rfl, Nat.le_of_ble_eq_true rfl⟩ dL_put_7) (fun ce q9 H locs hw hce hcv hcl => ?_)
      refine vx_catch (own := RL) (name := "java/lang/IllegalArgumentException") E.2.2.2.1 [] (⟨0, 12, 15, 13⟩ : ExceptionTableEntry) [(⟨0, 12, 19, 15⟩ : ExceptionTableEntry)] (htab.trans rfl) (fun z hz => nomatch hz) (by decide) (by decide) (E.2.2.2.2.1 _ q602) (va_Nw.use rfl hX.2.2.1.1) hce hcv hcl ?_
      refine lv_astore (lv' := [(5, .ref q9), (0, .ref h0), (1, .int p1), (2, .int p2), (3, .int p3), (4, .ref c0)]) hx hb dL_put_15 hl (by decide) rfl (fun ls hl => ?_)
      refine lv_iconst (v := 1) hx hb dL_put_17 (by decide) ?_
      obtain ⟨he0, hr⟩ := Prod.mk.inj (Option.some.inj hf)
      obtain ⟨he1, hr⟩ := Prod.mk.inj hr
      have he2 := hr
      subst he1
      subst he2
      refine W.widen (k := 1) (n := 6) (by decide) (by decide) ?_
      exact x_iM E ad hw he0 dL_put_18
    · rw [if_neg hq] at hf
      by_cases hq : ex = 2
      · rw [if_pos hq] at hf
        subst hq
        refine x_cX (en := "java/lang/IllegalStateException") (free := fun q => s.heap.size ≤ q) hw (fun q hq => hw.2.2.2 q hq) (x_rX E (As := [.int p1, .int p2, .int p3]) (rest := [.int 0, .ref c0]) (mx_X5_put l hfl D I J O h0 n t b0 b1 hh ha ad s.heap.size p1 p2 p3 x 2 h) blX (x_recv E hw.1 0 5 rfl rfl rfl) (x_pcX E hX rfl (va_P.part hw.1 [0, 1, 2, 3, 4, 5, 6, 7, 8, 9, 10, 11, 12, 13, 14, 15, 16, 17, 18, 19, 20, 21, 22, 23, 24, 25, 26] rfl)) ok_X5_put q604 rfl hl.1 rfl (Nat.le_of_ble_eq_true rfl) ⟨Nat.le_of_ble_eq_true rfl, Nat.le_of_ble_eq_true rfl⟩ ⟨Nat.le_of_ble_eq_true rfl, Nat.le_of_ble_eq_true rfl⟩ dL_put_7) (fun ce q9 H locs hw hce hcv hcl => ?_)
        refine vx_catch (own := RL) (name := "java/lang/IllegalStateException") E.2.2.2.1 [(⟨0, 12, 15, 13⟩ : ExceptionTableEntry)] (⟨0, 12, 19, 15⟩ : ExceptionTableEntry) [] (htab.trans rfl) (fun z hz => by rcases List.mem_cons.mp hz with rfl | hz; exact Or.inr ⟨by decide, _, E.2.2.2.2.1 _ q602, hX.2.2.2.1.1⟩; cases hz) (by decide) (by decide) (E.2.2.2.2.1 _ q603) (va_Nw.use rfl hX.2.2.1.2.1) hce hcv hcl ?_
        refine lv_astore (lv' := [(5, .ref q9), (0, .ref h0), (1, .int p1), (2, .int p2), (3, .int p3), (4, .ref c0)]) hx hb dL_put_19 hl (by decide) rfl (fun ls hl => ?_)
        refine lv_iconst (v := 2) hx hb dL_put_21 (by decide) ?_
        obtain ⟨he0, hr⟩ := Prod.mk.inj (Option.some.inj hf)
        obtain ⟨he1, hr⟩ := Prod.mk.inj hr
        have he2 := hr
        subst he1
        subst he2
        refine W.widen (k := 1) (n := 6) (by decide) (by decide) ?_
        exact x_iM E ad hw he0 dL_put_22
      · rw [if_neg hq] at hf
        cases hf
theorem ok_L_putBehind : yW yL_putBehind cL_putBehind 7 (some .int) [(0, 14, 17, 21), (0, 14, 21, 13), (0, 14, 25, 15)] 6 := ⟨q635, q0, q634, by decide +kernel, by decide +kernel, by decide +kernel⟩
set_option maxRecDepth 100000 in
set_option maxHeartbeats 4000000 in
theorem mt_L_putBehind (l : Launch) (hfl : l.stackTraces = false) (D : va_G) (I J O : ClassId) (h0 : Nat) (n t : Nat → Nat) (b0 b1 hh ha : Nat) (ad : Nat → Nat → Nat) (c0 : Nat) (sz : Nat) (p1 : Int32) (p2 : Int32) (p3 : Int32) (p4 : Int32) (x : ClC) (o : FnL) (r : Int32) (y0 : ClC) (y1 : FnL) (hf : f_L_putBehind p1 p2 p3 p4 x o = some (r, y0, y1)) : mW l yL_putBehind cL_putBehind 7 (some .int) [(0, 14, 17, 21), (0, 14, 21, 13), (0, 14, 25, 15)] 7 119 D I J O sz [.ref h0, .int p1, .int p2, .int p3, .int p4, .ref c0] (wCl I h0 n t b0 b1 hh x ++ wLo J c0 1 o ++ wHi I O hh ha ad x.2.2.1) (qMi D sz (wCl I h0 n t b0 b1 hh x ++ wLo J c0 1 o ++ wHi I O hh ha ad x.2.2.1) r (fun ad9 : Nat → Nat → Nat => wCl I h0 n t b0 b1 hh y0 ++ wLo J c0 1 y1 ++ wHi I O hh ha ad9 y0.2.2.1)) := by
  refine mW_open (own := RL) rfl (by decide +kernel) (Nat.le_of_ble_eq_true rfl) (fun p e s m below meth c ls E htab hX hsz hw hl => ?_)
  obtain ⟨ws0, hws⟩ : ∃ ws0 : va_W, ws0 = wCl I h0 n t b0 b1 hh x ++ wLo J c0 1 o ++ wHi I O hh ha ad x.2.2.1 := ⟨_, rfl⟩
  have hw : fy D (va_A ws0 sz) s.heap s.heap [] (wCl I h0 n t b0 b1 hh x ++ wLo J c0 1 o ++ wHi I O hh ha ad x.2.2.1) := by rw [hws]; exact hw
  rw [← hws]
  have hx := E.1
  have hb := E.2.1
  have hl : lv_has ls 7 [(0, .ref h0), (1, .int p1), (2, .int p2), (3, .int p3), (4, .int p4), (5, .ref c0)] := hl
  unfold f_L_putBehind at hf
  refine lv_aload hx hb dL_putBehind_0 (lv_at hl 5 rfl) ?_
  refine lv_iconst (v := 0) hx hb dL_putBehind_2 (by decide) ?_
  refine lv_aload_n hx hb dL_putBehind_3 rfl (lv_at hl 0 rfl) ?_
  refine lv_iload_n hx hb dL_putBehind_4 rfl (lv_at hl 1 rfl) ?_
  refine lv_iload_n hx hb dL_putBehind_5 rfl (lv_at hl 2 rfl) ?_
  refine lv_iload_n hx hb dL_putBehind_6 rfl (lv_at hl 3 rfl) ?_
  refine lv_iload hx hb dL_putBehind_7 (lv_at hl 4 rfl) ?_
  rcases ct_s hf with ⟨z1, h, hf⟩ | ⟨ex, h, hf⟩
  · refine x_miFP hw (x_rV E (As := [.int p1, .int p2, .int p3, .int p4]) (rest := [.int 0, .ref c0]) (mt_X5_putBehind l D I J O h0 n t b0 b1 hh ha ad s.heap.size p1 p2 p3 p4 x z1.1 z1.2 h) blM (x_recv E hw.1 0 5 rfl rfl rfl) (x_pcMPF E hw) ok_X5_putBehind q637 rfl hl.1 rfl (Nat.le_of_ble_eq_true rfl) ⟨Nat.le_of_ble_eq_true rfl, Nat.le_of_ble_eq_true rfl⟩ ⟨Nat.le_of_ble_eq_true rfl, Nat.le_of_ble_eq_true rfl⟩ dL_putBehind_9) (fun _ => rfl) (fun ad2 H locs hw => ?_)
    have hw : fy D (va_A ws0 sz) s.heap H locs (wCl I h0 n t b0 b1 hh z1.2 ++ wLo J c0 1 o ++ wHi I O hh ha ad2 z1.2.2.2.1) := hw
    refine lv_i2l (v := z1.1.toInt64) hx hb dL_putBehind_12 rfl ?_
    obtain ⟨g, hf⟩ := gi_s hf
    refine x_last E hw 27 rfl g dL_putBehind_13 (fun H locs hw => ?_)
    have hw : fy D (va_A ws0 sz) s.heap H locs (wCl I h0 n t b0 b1 hh z1.2 ++ wLo J c0 1 (vp_updL o (0 : Int32).toNatClampNeg z1.1.toInt64) ++ wHi I O hh ha ad2 z1.2.2.2.1) := hw
    refine lv_goto (tgt := 29) hx hb dL_putBehind_14 (by decide) ?_
    refine lv_iconst (v := 0) hx hb dL_putBehind_29 (by decide) ?_
    obtain ⟨he0, hr⟩ := Prod.mk.inj (Option.some.inj hf)
    obtain ⟨he1, hr⟩ := Prod.mk.inj hr
    have he2 := hr
    subst he1
    subst he2
    refine W.widen (k := 1) (n := 6) (by decide) (by decide) ?_
    exact x_iM E ad2 hw he0 dL_putBehind_30
  · by_cases hq : ex = 3
    · rw [if_pos hq] at hf
      subst hq
      refine x_cX (en := "java/lang/IndexOutOfBoundsException") (free := fun q => s.heap.size ≤ q) hw (fun q hq => hw.2.2.2 q hq) (x_rX E (As := [.int p1, .int p2, .int p3, .int p4]) (rest := [.int 0, .ref c0]) (mx_X5_putBehind l hfl D I J O h0 n t b0 b1 hh ha ad s.heap.size p1 p2 p3 p4 x 3 h) blX (x_recv E hw.1 0 5 rfl rfl rfl) (x_pcX E hX rfl (va_P.part hw.1 [0, 1, 2, 3, 4, 5, 6, 7, 8, 9, 10, 11, 12, 13, 14, 15, 16, 17, 18, 19, 20, 21, 22, 23, 24, 25, 26] rfl)) ok_X5_putBehind q637 rfl hl.1 rfl (Nat.le_of_ble_eq_true rfl) ⟨Nat.le_of_ble_eq_true rfl, Nat.le_of_ble_eq_true rfl⟩ ⟨Nat.le_of_ble_eq_true rfl, Nat.le_of_ble_eq_true rfl⟩ dL_putBehind_9) (fun ce q9 H locs hw hce hcv hcl => ?_)
      refine vx_catch (own := RL) (name := "java/lang/IndexOutOfBoundsException") E.2.2.2.1 [] (⟨0, 14, 17, 21⟩ : ExceptionTableEntry) [(⟨0, 14, 21, 13⟩ : ExceptionTableEntry), (⟨0, 14, 25, 15⟩ : ExceptionTableEntry)] (htab.trans rfl) (fun z hz => nomatch hz) (by decide) (by decide) (E.2.2.2.2.1 _ q636) (va_Nw.use rfl hX.2.2.1.2.2) hce hcv hcl ?_
      refine lv_astore (lv' := [(6, .ref q9), (0, .ref h0), (1, .int p1), (2, .int p2), (3, .int p3), (4, .int p4), (5, .ref c0)]) hx hb dL_putBehind_17 hl (by decide) rfl (fun ls hl => ?_)
      refine lv_iconst (v := 1) hx hb dL_putBehind_19 (by decide) ?_
      obtain ⟨he0, hr⟩ := Prod.mk.inj (Option.some.inj hf)
      obtain ⟨he1, hr⟩ := Prod.mk.inj hr
      have he2 := hr
      subst he1
      subst he2
      refine W.widen (k := 1) (n := 6) (by decide) (by decide) ?_
      exact x_iM E ad hw he0 dL_putBehind_20
    · rw [if_neg hq] at hf
      by_cases hq : ex = 1
      · rw [if_pos hq] at hf
        subst hq
        refine x_cX (en := "java/lang/IllegalArgumentException") (free := fun q => s.heap.size ≤ q) hw (fun q hq => hw.2.2.2 q hq) (x_rX E (As := [.int p1, .int p2, .int p3, .int p4]) (rest := [.int 0, .ref c0]) (mx_X5_putBehind l hfl D I J O h0 n t b0 b1 hh ha ad s.heap.size p1 p2 p3 p4 x 1 h) blX (x_recv E hw.1 0 5 rfl rfl rfl) (x_pcX E hX rfl (va_P.part hw.1 [0, 1, 2, 3, 4, 5, 6, 7, 8, 9, 10, 11, 12, 13, 14, 15, 16, 17, 18, 19, 20, 21, 22, 23, 24, 25, 26] rfl)) ok_X5_putBehind q637 rfl hl.1 rfl (Nat.le_of_ble_eq_true rfl) ⟨Nat.le_of_ble_eq_true rfl, Nat.le_of_ble_eq_true rfl⟩ ⟨Nat.le_of_ble_eq_true rfl, Nat.le_of_ble_eq_true rfl⟩ dL_putBehind_9) (fun ce q9 H locs hw hce hcv hcl => ?_)
        refine vx_catch (own := RL) (name := "java/lang/IllegalArgumentException") E.2.2.2.1 [(⟨0, 14, 17, 21⟩ : ExceptionTableEntry)] (⟨0, 14, 21, 13⟩ : ExceptionTableEntry) [(⟨0, 14, 25, 15⟩ : ExceptionTableEntry)] (htab.trans rfl) (fun z hz => by rcases List.mem_cons.mp hz with rfl | hz; exact Or.inr ⟨by decide, _, E.2.2.2.2.1 _ q636, hX.2.2.2.1.2.1⟩; cases hz) (by decide) (by decide) (E.2.2.2.2.1 _ q602) (va_Nw.use rfl hX.2.2.1.1) hce hcv hcl ?_
        refine lv_astore (lv' := [(6, .ref q9), (0, .ref h0), (1, .int p1), (2, .int p2), (3, .int p3), (4, .int p4), (5, .ref c0)]) hx hb dL_putBehind_21 hl (by decide) rfl (fun ls hl => ?_)
        refine lv_iconst (v := 2) hx hb dL_putBehind_23 (by decide) ?_
        obtain ⟨he0, hr⟩ := Prod.mk.inj (Option.some.inj hf)
        obtain ⟨he1, hr⟩ := Prod.mk.inj hr
        have he2 := hr
        subst he1
        subst he2
        refine W.widen (k := 1) (n := 6) (by decide) (by decide) ?_
        exact x_iM E ad hw he0 dL_putBehind_24
      · rw [if_neg hq] at hf
        by_cases hq : ex = 2
        · rw [if_pos hq] at hf
          subst hq
          refine x_cX (en := "java/lang/IllegalStateException") (free := fun q => s.heap.size ≤ q) hw (fun q hq => hw.2.2.2 q hq) (x_rX E (As := [.int p1, .int p2, .int p3, .int p4]) (rest := [.int 0, .ref c0]) (mx_X5_putBehind l hfl D I J O h0 n t b0 b1 hh ha ad s.heap.size p1 p2 p3 p4 x 2 h) blX (x_recv E hw.1 0 5 rfl rfl rfl) (x_pcX E hX rfl (va_P.part hw.1 [0, 1, 2, 3, 4, 5, 6, 7, 8, 9, 10, 11, 12, 13, 14, 15, 16, 17, 18, 19, 20, 21, 22, 23, 24, 25, 26] rfl)) ok_X5_putBehind q637 rfl hl.1 rfl (Nat.le_of_ble_eq_true rfl) ⟨Nat.le_of_ble_eq_true rfl, Nat.le_of_ble_eq_true rfl⟩ ⟨Nat.le_of_ble_eq_true rfl, Nat.le_of_ble_eq_true rfl⟩ dL_putBehind_9) (fun ce q9 H locs hw hce hcv hcl => ?_)
          refine vx_catch (own := RL) (name := "java/lang/IllegalStateException") E.2.2.2.1 [(⟨0, 14, 17, 21⟩ : ExceptionTableEntry), (⟨0, 14, 21, 13⟩ : ExceptionTableEntry)] (⟨0, 14, 25, 15⟩ : ExceptionTableEntry) [] (htab.trans rfl) (fun z hz => by rcases List.mem_cons.mp hz with rfl | hz; exact Or.inr ⟨by decide, _, E.2.2.2.2.1 _ q636, hX.2.2.2.1.2.2⟩; rcases List.mem_cons.mp hz with rfl | hz; exact Or.inr ⟨by decide, _, E.2.2.2.2.1 _ q602, hX.2.2.2.1.1⟩; cases hz) (by decide) (by decide) (E.2.2.2.2.1 _ q603) (va_Nw.use rfl hX.2.2.1.2.1) hce hcv hcl ?_
          refine lv_astore (lv' := [(6, .ref q9), (0, .ref h0), (1, .int p1), (2, .int p2), (3, .int p3), (4, .int p4), (5, .ref c0)]) hx hb dL_putBehind_25 hl (by decide) rfl (fun ls hl => ?_)
          refine lv_iconst (v := 3) hx hb dL_putBehind_27 (by decide) ?_
          obtain ⟨he0, hr⟩ := Prod.mk.inj (Option.some.inj hf)
          obtain ⟨he1, hr⟩ := Prod.mk.inj hr
          have he2 := hr
          subst he1
          subst he2
          refine W.widen (k := 1) (n := 6) (by decide) (by decide) ?_
          exact x_iM E ad hw he0 dL_putBehind_28
        · rw [if_neg hq] at hf
          cases hf
theorem ok_L_remove : yW yL_remove cL_remove 4 (some .int) [(0, 9, 12, 21)] 3 := ⟨q643, q0, q642, by decide +kernel, by decide +kernel, by decide +kernel⟩
set_option maxRecDepth 100000 in
set_option maxHeartbeats 4000000 in
theorem mt_L_remove (l : Launch) (hfl : l.stackTraces = false) (D : va_G) (I J O : ClassId) (h0 : Nat) (n t : Nat → Nat) (b0 b1 hh ha : Nat) (ad : Nat → Nat → Nat) (c0 : Nat) (sz : Nat) (p1 : Int32) (x : ClC) (o : FnL) (r : Int32) (y0 : ClC) (y1 : FnL) (hf : f_L_remove p1 x o = some (r, y0, y1)) : mW l yL_remove cL_remove 4 (some .int) [(0, 9, 12, 21)] 7 130 D I J O sz [.ref h0, .int p1, .ref c0] (wCl I h0 n t b0 b1 hh x ++ wLo J c0 1 o ++ wHi I O hh ha ad x.2.2.1) (qMi D sz (wCl I h0 n t b0 b1 hh x ++ wLo J c0 1 o ++ wHi I O hh ha ad x.2.2.1) r (fun ad9 : Nat → Nat → Nat => wCl I h0 n t b0 b1 hh y0 ++ wLo J c0 1 y1 ++ wHi I O hh ha ad9 y0.2.2.1)) := by
  refine mW_open (own := RL) rfl (by decide +kernel) (Nat.le_of_ble_eq_true rfl) (fun p e s m below meth c ls E htab hX hsz hw hl => ?_)
  obtain ⟨ws0, hws⟩ : ∃ ws0 : va_W, ws0 = wCl I h0 n t b0 b1 hh x ++ wLo J c0 1 o ++ wHi I O hh ha ad x.2.2.1 := ⟨_, rfl⟩
  have hw : fy D (va_A ws0 sz) s.heap s.heap [] (wCl I h0 n t b0 b1 hh x ++ wLo J c0 1 o ++ wHi I O hh ha ad x.2.2.1) := by rw [hws]; exact hw
  rw [← hws]
  have hx := E.1
  have hb := E.2.1
  have hl : lv_has ls 4 [(0, .ref h0), (1, .int p1), (2, .ref c0)] := hl
  unfold f_L_remove at hf
  refine lv_aload_n hx hb dL_remove_0 rfl (lv_at hl 2 rfl) ?_
  refine lv_iconst (v := 0) hx hb dL_remove_1 (by decide) ?_
  refine lv_aload_n hx hb dL_remove_2 rfl (lv_at hl 0 rfl) ?_
  refine lv_iload_n hx hb dL_remove_3 rfl (lv_at hl 1 rfl) ?_
  rcases ct_s hf with ⟨z1, h, hf⟩ | ⟨ex, h, hf⟩
  · refine x_miFP hw (x_rV E (As := [.int p1]) (rest := [.int 0, .ref c0]) (mt_X5_remove l D I J O h0 n t b0 b1 hh ha ad s.heap.size p1 x z1.1 z1.2 h) blM (x_recv E hw.1 0 5 rfl rfl rfl) (x_pcMPF E hw) ok_X5_remove q644 rfl hl.1 rfl (Nat.le_of_ble_eq_true rfl) ⟨Nat.le_of_ble_eq_true rfl, Nat.le_of_ble_eq_true rfl⟩ ⟨Nat.le_of_ble_eq_true rfl, Nat.le_of_ble_eq_true rfl⟩ dL_remove_4) (fun _ => rfl) (fun ad2 H locs hw => ?_)
    have hw : fy D (va_A ws0 sz) s.heap H locs (wCl I h0 n t b0 b1 hh z1.2 ++ wLo J c0 1 o ++ wHi I O hh ha ad2 z1.2.2.2.1) := hw
    refine lv_i2l (v := z1.1.toInt64) hx hb dL_remove_7 rfl ?_
    obtain ⟨g, hf⟩ := gi_s hf
    refine x_last E hw 27 rfl g dL_remove_8 (fun H locs hw => ?_)
    have hw : fy D (va_A ws0 sz) s.heap H locs (wCl I h0 n t b0 b1 hh z1.2 ++ wLo J c0 1 (vp_updL o (0 : Int32).toNatClampNeg z1.1.toInt64) ++ wHi I O hh ha ad2 z1.2.2.2.1) := hw
    refine lv_goto (tgt := 15) hx hb dL_remove_9 (by decide) ?_
    refine lv_iconst (v := 0) hx hb dL_remove_15 (by decide) ?_
    obtain ⟨he0, hr⟩ := Prod.mk.inj (Option.some.inj hf)
    obtain ⟨he1, hr⟩ := Prod.mk.inj hr
    have he2 := hr
    subst he1
    subst he2
    refine W.widen (k := 1) (n := 6) (by decide) (by decide) ?_
    exact x_iM E ad2 hw he0 dL_remove_16
  · by_cases hq : ex = 3
    · rw [if_pos hq] at hf
      subst hq
      refine x_cX (en := "java/lang/IndexOutOfBoundsException") (free := fun q => s.heap.size ≤ q) hw (fun q hq => hw.2.2.2 q hq) (x_rX E (As := [.int p1]) (rest := [.int 0, .ref c0]) (mx_X5_remove l hfl D I J O h0 n t b0 b1 hh ha ad s.heap.size p1 x 3 h) blX (x_recv E hw.1 0 5 rfl rfl rfl) (x_pcX E hX rfl (va_P.part hw.1 [0, 1, 2, 3, 4, 5, 6, 7, 8, 9, 10, 11, 12, 13, 14, 15, 16, 17, 18, 19, 20, 21, 22, 23, 24, 25, 26] rfl)) ok_X5_remove q644 rfl hl.1 rfl (Nat.le_of_ble_eq_true rfl) ⟨Nat.le_of_ble_eq_true rfl, Nat.le_of_ble_eq_true rfl⟩ ⟨Nat.le_of_ble_eq_true rfl, Nat.le_of_ble_eq_true rfl⟩ dL_remove_4) (fun ce q9 H locs hw hce hcv hcl => ?_)
      refine vx_catch (own := RL) (name := "java/lang/IndexOutOfBoundsException") E.2.2.2.1 [] (⟨0, 9, 12, 21⟩ : ExceptionTableEntry) [] (htab.trans rfl) (fun z hz => nomatch hz) (by decide) (by decide) (E.2.2.2.2.1 _ q636) (va_Nw.use rfl hX.2.2.1.2.2) hce hcv hcl ?_
      refine lv_astore_n (lv' := [(3, .ref q9), (0, .ref h0), (1, .int p1), (2, .ref c0)]) hx hb dL_remove_12 rfl hl (by decide) rfl (fun ls hl => ?_)
      refine lv_iconst (v := 1) hx hb dL_remove_13 (by decide) ?_
      obtain ⟨he0, hr⟩ := Prod.mk.inj (Option.some.inj hf)
      obtain ⟨he1, hr⟩ := Prod.mk.inj hr
      have he2 := hr
      subst he1
      subst he2
      refine W.widen (k := 1) (n := 6) (by decide) (by decide) ?_
      exact x_iM E ad hw he0 dL_remove_14
    · rw [if_neg hq] at hf
      cases hf
theorem ok_L_change : yW yL_change cL_change 5 (some .int) [(0, 10, 13, 21), (0, 10, 17, 13)] 4 := ⟨q651, q0, q650, by decide +kernel, by decide +kernel, by decide +kernel⟩
set_option maxRecDepth 100000 in
set_option maxHeartbeats 4000000 in
theorem mt_L_change (l : Launch) (hfl : l.stackTraces = false) (D : va_G) (I J O : ClassId) (h0 : Nat) (n t : Nat → Nat) (b0 b1 hh ha : Nat) (ad : Nat → Nat → Nat) (c0 : Nat) (sz : Nat) (p1 : Int32) (p2 : Int32) (x : ClC) (o : FnL) (r : Int32) (y0 : ClC) (y1 : FnL) (hf : f_L_change p1 p2 x o = some (r, y0, y1)) : mW l yL_change cL_change 5 (some .int) [(0, 10, 13, 21), (0, 10, 17, 13)] 7 106 D I J O sz [.ref h0, .int p1, .int p2, .ref c0] (wCl I h0 n t b0 b1 hh x ++ wLo J c0 1 o ++ wHi I O hh ha ad x.2.2.1) (qMi D sz (wCl I h0 n t b0 b1 hh x ++ wLo J c0 1 o ++ wHi I O hh ha ad x.2.2.1) r (fun ad9 : Nat → Nat → Nat => wCl I h0 n t b0 b1 hh y0 ++ wLo J c0 1 y1 ++ wHi I O hh ha ad9 y0.2.2.1)) := by
  refine mW_open (own := RL) rfl (by decide +kernel) (Nat.le_of_ble_eq_true rfl) (fun p e s m below meth c ls E htab hX hsz hw hl => ?_)
  obtain ⟨ws0, hws⟩ : ∃ ws0 : va_W, ws0 = wCl I h0 n t b0 b1 hh x ++ wLo J c0 1 o ++ wHi I O hh ha ad x.2.2.1 := ⟨_, rfl⟩
  have hw : fy D (va_A ws0 sz) s.heap s.heap [] (wCl I h0 n t b0 b1 hh x ++ wLo J c0 1 o ++ wHi I O hh ha ad x.2.2.1) := by rw [hws]; exact hw
  rw [← hws]
  have hx := E.1
  have hb := E.2.1
  have hl : lv_has ls 5 [(0, .ref h0), (1, .int p1), (2, .int p2), (3, .ref c0)] := hl
  unfold f_L_change at hf
  refine lv_aload_n hx hb dL_change_0 rfl (lv_at hl 3 rfl) ?_
  refine lv_iconst (v := 0) hx hb dL_change_1 (by decide) ?_
  refine lv_aload_n hx hb dL_change_2 rfl (lv_at hl 0 rfl) ?_
  refine lv_iload_n hx hb dL_change_3 rfl (lv_at hl 1 rfl) ?_
  refine lv_iload_n hx hb dL_change_4 rfl (lv_at hl 2 rfl) ?_
  rcases ct_s hf with ⟨z1, h, hf⟩ | ⟨ex, h, hf⟩
  · refine x_miFP hw (x_rV E (As := [.int p1, .int p2]) (rest := [.int 0, .ref c0]) (mt_X5_change l D I J O h0 n t b0 b1 hh ha ad s.heap.size p1 p2 x z1.1 z1.2 h) blM (x_recv E hw.1 0 5 rfl rfl rfl) (x_pcMPF E hw) ok_X5_change q652 rfl hl.1 rfl (Nat.le_of_ble_eq_true rfl) ⟨Nat.le_of_ble_eq_true rfl, Nat.le_of_ble_eq_true rfl⟩ ⟨Nat.le_of_ble_eq_true rfl, Nat.le_of_ble_eq_true rfl⟩ dL_change_5) (fun _ => rfl) (fun ad2 H locs hw => ?_)
    have hw : fy D (va_A ws0 sz) s.heap H locs (wCl I h0 n t b0 b1 hh z1.2 ++ wLo J c0 1 o ++ wHi I O hh ha ad2 z1.2.2.2.1) := hw
    refine lv_i2l (v := z1.1.toInt64) hx hb dL_change_8 rfl ?_
    obtain ⟨g, hf⟩ := gi_s hf
    refine x_last E hw 27 rfl g dL_change_9 (fun H locs hw => ?_)
    have hw : fy D (va_A ws0 sz) s.heap H locs (wCl I h0 n t b0 b1 hh z1.2 ++ wLo J c0 1 (vp_updL o (0 : Int32).toNatClampNeg z1.1.toInt64) ++ wHi I O hh ha ad2 z1.2.2.2.1) := hw
    refine lv_goto (tgt := 21) hx hb dL_change_10 (by decide) ?_
    refine lv_iconst (v := 0) hx hb dL_change_21 (by decide) ?_
    obtain ⟨he0, hr⟩ := Prod.mk.inj (Option.some.inj hf)
    obtain ⟨he1, hr⟩ := Prod.mk.inj hr
    have he2 := hr
    subst he1
    subst he2
    refine W.widen (k := 1) (n := 6) (by decide) (by decide) ?_
    exact x_iM E ad2 hw he0 dL_change_22
  · by_cases hq : ex = 3
    · rw [if_pos hq] at hf
      subst hq
      refine x_cX (en := "java/lang/IndexOutOfBoundsException") (free := fun q => s.heap.size ≤ q) hw (fun q hq => hw.2.2.2 q hq) (x_rX E (As := [.int p1, .int p2]) (rest := [.int 0, .ref c0]) (mx_X5_change l hfl D I J O h0 n t b0 b1 hh ha ad s.heap.size p1 p2 x 3 h) blX (x_recv E hw.1 0 5 rfl rfl rfl) (x_pcX E hX rfl (va_P.part hw.1 [0, 1, 2, 3, 4, 5, 6, 7, 8, 9, 10, 11, 12, 13, 14, 15, 16, 17, 18, 19, 20, 21, 22, 23, 24, 25, 26] rfl)) ok_X5_change q652 rfl hl.1 rfl (Nat.le_of_ble_eq_true rfl) ⟨Nat.le_of_ble_eq_true rfl, Nat.le_of_ble_eq_true rfl⟩ ⟨Nat.le_of_ble_eq_true rfl, Nat.le_of_ble_eq_true rfl⟩ dL_change_5) (fun ce q9 H locs hw hce hcv hcl => ?_)
      refine vx_catch (own := RL) (name := "java/lang/IndexOutOfBoundsException") E.2.2.2.1 [] (⟨0, 10, 13, 21⟩ : ExceptionTableEntry) [(⟨0, 10, 17, 13⟩ : ExceptionTableEntry)] (htab.trans rfl) (fun z hz => nomatch hz) (by decide) (by decide) (E.2.2.2.2.1 _ q636) (va_Nw.use rfl hX.2.2.1.2.2) hce hcv hcl ?_
      refine lv_astore (lv' := [(4, .ref q9), (0, .ref h0), (1, .int p1), (2, .int p2), (3, .ref c0)]) hx hb dL_change_13 hl (by decide) rfl (fun ls hl => ?_)
      refine lv_iconst (v := 1) hx hb dL_change_15 (by decide) ?_
      obtain ⟨he0, hr⟩ := Prod.mk.inj (Option.some.inj hf)
      obtain ⟨he1, hr⟩ := Prod.mk.inj hr
      have he2 := hr
      subst he1
      subst he2
      refine W.widen (k := 1) (n := 6) (by decide) (by decide) ?_
      exact x_iM E ad hw he0 dL_change_16
    · rw [if_neg hq] at hf
      by_cases hq : ex = 1
      · rw [if_pos hq] at hf
        subst hq
        refine x_cX (en := "java/lang/IllegalArgumentException") (free := fun q => s.heap.size ≤ q) hw (fun q hq => hw.2.2.2 q hq) (x_rX E (As := [.int p1, .int p2]) (rest := [.int 0, .ref c0]) (mx_X5_change l hfl D I J O h0 n t b0 b1 hh ha ad s.heap.size p1 p2 x 1 h) blX (x_recv E hw.1 0 5 rfl rfl rfl) (x_pcX E hX rfl (va_P.part hw.1 [0, 1, 2, 3, 4, 5, 6, 7, 8, 9, 10, 11, 12, 13, 14, 15, 16, 17, 18, 19, 20, 21, 22, 23, 24, 25, 26] rfl)) ok_X5_change q652 rfl hl.1 rfl (Nat.le_of_ble_eq_true rfl) ⟨Nat.le_of_ble_eq_true rfl, Nat.le_of_ble_eq_true rfl⟩ ⟨Nat.le_of_ble_eq_true rfl, Nat.le_of_ble_eq_true rfl⟩ dL_change_5) (fun ce q9 H locs hw hce hcv hcl => ?_)
        refine vx_catch (own := RL) (name := "java/lang/IllegalArgumentException") E.2.2.2.1 [(⟨0, 10, 13, 21⟩ : ExceptionTableEntry)] (⟨0, 10, 17, 13⟩ : ExceptionTableEntry) [] (htab.trans rfl) (fun z hz => by rcases List.mem_cons.mp hz with rfl | hz; exact Or.inr ⟨by decide, _, E.2.2.2.2.1 _ q636, hX.2.2.2.1.2.1⟩; cases hz) (by decide) (by decide) (E.2.2.2.2.1 _ q602) (va_Nw.use rfl hX.2.2.1.1) hce hcv hcl ?_
        refine lv_astore (lv' := [(4, .ref q9), (0, .ref h0), (1, .int p1), (2, .int p2), (3, .ref c0)]) hx hb dL_change_17 hl (by decide) rfl (fun ls hl => ?_)
        refine lv_iconst (v := 2) hx hb dL_change_19 (by decide) ?_
        obtain ⟨he0, hr⟩ := Prod.mk.inj (Option.some.inj hf)
        obtain ⟨he1, hr⟩ := Prod.mk.inj hr
        have he2 := hr
        subst he1
        subst he2
        refine W.widen (k := 1) (n := 6) (by decide) (by decide) ?_
        exact x_iM E ad hw he0 dL_change_20
      · rw [if_neg hq] at hf
        cases hf
theorem ok_L_restart : yW yL_restart cL_restart 4 (some .int) [(0, 9, 12, 21)] 3 := ⟨q663, q0, q662, by decide +kernel, by decide +kernel, by decide +kernel⟩
set_option maxRecDepth 100000 in
set_option maxHeartbeats 4000000 in
theorem mt_L_restart (l : Launch) (hfl : l.stackTraces = false) (D : va_G) (I J O : ClassId) (h0 : Nat) (n t : Nat → Nat) (b0 b1 hh ha : Nat) (ad : Nat → Nat → Nat) (c0 : Nat) (sz : Nat) (p1 : Int32) (x : ClC) (o : FnL) (r : Int32) (y0 : ClC) (y1 : FnL) (hf : f_L_restart p1 x o = some (r, y0, y1)) : mW l yL_restart cL_restart 4 (some .int) [(0, 9, 12, 21)] 7 111 D I J O sz [.ref h0, .int p1, .ref c0] (wCl I h0 n t b0 b1 hh x ++ wLo J c0 1 o ++ wHi I O hh ha ad x.2.2.1) (qMi D sz (wCl I h0 n t b0 b1 hh x ++ wLo J c0 1 o ++ wHi I O hh ha ad x.2.2.1) r (fun ad9 : Nat → Nat → Nat => wCl I h0 n t b0 b1 hh y0 ++ wLo J c0 1 y1 ++ wHi I O hh ha ad9 y0.2.2.1)) := by
  refine mW_open (own := RL) rfl (by decide +kernel) (Nat.le_of_ble_eq_true rfl) (fun p e s m below meth c ls E htab hX hsz hw hl => ?_)
  obtain ⟨ws0, hws⟩ : ∃ ws0 : va_W, ws0 = wCl I h0 n t b0 b1 hh x ++ wLo J c0 1 o ++ wHi I O hh ha ad x.2.2.1 := ⟨_, rfl⟩
  have hw : fy D (va_A ws0 sz) s.heap s.heap [] (wCl I h0 n t b0 b1 hh x ++ wLo J c0 1 o ++ wHi I O hh ha ad x.2.2.1) := by rw [hws]; exact hw
  rw [← hws]
  have hx := E.1
  have hb := E.2.1
  have hl : lv_has ls 4 [(0, .ref h0), (1, .int p1), (2, .ref c0)] := hl
  unfold f_L_restart at hf
  refine lv_aload_n hx hb dL_restart_0 rfl (lv_at hl 2 rfl) ?_
  refine lv_iconst (v := 0) hx hb dL_restart_1 (by decide) ?_
  refine lv_aload_n hx hb dL_restart_2 rfl (lv_at hl 0 rfl) ?_
  refine lv_iload_n hx hb dL_restart_3 rfl (lv_at hl 1 rfl) ?_
  rcases ct_s hf with ⟨z1, h, hf⟩ | ⟨ex, h, hf⟩
  · refine x_miFP hw (x_rV E (As := [.int p1]) (rest := [.int 0, .ref c0]) (mt_X5_restart l D I J O h0 n t b0 b1 hh ha ad s.heap.size p1 x z1.1 z1.2 h) blM (x_recv E hw.1 0 5 rfl rfl rfl) (x_pcMPF E hw) ok_X5_restart q664 rfl hl.1 rfl (Nat.le_of_ble_eq_true rfl) ⟨Nat.le_of_ble_eq_true rfl, Nat.le_of_ble_eq_true rfl⟩ ⟨Nat.le_of_ble_eq_true rfl, Nat.le_of_ble_eq_true rfl⟩ dL_restart_4) (fun _ => rfl) (fun ad2 H locs hw => ?_)
    have hw : fy D (va_A ws0 sz) s.heap H locs (wCl I h0 n t b0 b1 hh z1.2 ++ wLo J c0 1 o ++ wHi I O hh ha ad2 z1.2.2.2.1) := hw
    refine lv_i2l (v := z1.1.toInt64) hx hb dL_restart_7 rfl ?_
    obtain ⟨g, hf⟩ := gi_s hf
    refine x_last E hw 27 rfl g dL_restart_8 (fun H locs hw => ?_)
    have hw : fy D (va_A ws0 sz) s.heap H locs (wCl I h0 n t b0 b1 hh z1.2 ++ wLo J c0 1 (vp_updL o (0 : Int32).toNatClampNeg z1.1.toInt64) ++ wHi I O hh ha ad2 z1.2.2.2.1) := hw
    refine lv_goto (tgt := 15) hx hb dL_restart_9 (by decide) ?_
    refine lv_iconst (v := 0) hx hb dL_restart_15 (by decide) ?_
    obtain ⟨he0, hr⟩ := Prod.mk.inj (Option.some.inj hf)
    obtain ⟨he1, hr⟩ := Prod.mk.inj hr
    have he2 := hr
    subst he1
    subst he2
    refine W.widen (k := 1) (n := 6) (by decide) (by decide) ?_
    exact x_iM E ad2 hw he0 dL_restart_16
  · by_cases hq : ex = 3
    · rw [if_pos hq] at hf
      subst hq
      refine x_cX (en := "java/lang/IndexOutOfBoundsException") (free := fun q => s.heap.size ≤ q) hw (fun q hq => hw.2.2.2 q hq) (x_rX E (As := [.int p1]) (rest := [.int 0, .ref c0]) (mx_X5_restart l hfl D I J O h0 n t b0 b1 hh ha ad s.heap.size p1 x 3 h) blX (x_recv E hw.1 0 5 rfl rfl rfl) (x_pcX E hX rfl (va_P.part hw.1 [0, 1, 2, 3, 4, 5, 6, 7, 8, 9, 10, 11, 12, 13, 14, 15, 16, 17, 18, 19, 20, 21, 22, 23, 24, 25, 26] rfl)) ok_X5_restart q664 rfl hl.1 rfl (Nat.le_of_ble_eq_true rfl) ⟨Nat.le_of_ble_eq_true rfl, Nat.le_of_ble_eq_true rfl⟩ ⟨Nat.le_of_ble_eq_true rfl, Nat.le_of_ble_eq_true rfl⟩ dL_restart_4) (fun ce q9 H locs hw hce hcv hcl => ?_)
      refine vx_catch (own := RL) (name := "java/lang/IndexOutOfBoundsException") E.2.2.2.1 [] (⟨0, 9, 12, 21⟩ : ExceptionTableEntry) [] (htab.trans rfl) (fun z hz => nomatch hz) (by decide) (by decide) (E.2.2.2.2.1 _ q636) (va_Nw.use rfl hX.2.2.1.2.2) hce hcv hcl ?_
      refine lv_astore_n (lv' := [(3, .ref q9), (0, .ref h0), (1, .int p1), (2, .ref c0)]) hx hb dL_restart_12 rfl hl (by decide) rfl (fun ls hl => ?_)
      refine lv_iconst (v := 1) hx hb dL_restart_13 (by decide) ?_
      obtain ⟨he0, hr⟩ := Prod.mk.inj (Option.some.inj hf)
      obtain ⟨he1, hr⟩ := Prod.mk.inj hr
      have he2 := hr
      subst he1
      subst he2
      refine W.widen (k := 1) (n := 6) (by decide) (by decide) ?_
      exact x_iM E ad hw he0 dL_restart_14
    · rw [if_neg hq] at hf
      cases hf
theorem ok_L_goOn : yW yL_goOn cL_goOn 4 (some .int) [(0, 9, 12, 21)] 3 := ⟨q678, q0, q677, by decide +kernel, by decide +kernel, by decide +kernel⟩
set_option maxRecDepth 100000 in
set_option maxHeartbeats 4000000 in
theorem mt_L_goOn (l : Launch) (hfl : l.stackTraces = false) (D : va_G) (I J O : ClassId) (h0 : Nat) (n t : Nat → Nat) (b0 b1 hh ha : Nat) (ad : Nat → Nat → Nat) (c0 : Nat) (sz : Nat) (p1 : Int32) (x : ClC) (o : FnL) (r : Int32) (y0 : ClC) (y1 : FnL) (hf : f_L_goOn p1 x o = some (r, y0, y1)) : mW l yL_goOn cL_goOn 4 (some .int) [(0, 9, 12, 21)] 7 111 D I J O sz [.ref h0, .int p1, .ref c0] (wCl I h0 n t b0 b1 hh x ++ wLo J c0 1 o ++ wHi I O hh ha ad x.2.2.1) (qMi D sz (wCl I h0 n t b0 b1 hh x ++ wLo J c0 1 o ++ wHi I O hh ha ad x.2.2.1) r (fun ad9 : Nat → Nat → Nat => wCl I h0 n t b0 b1 hh y0 ++ wLo J c0 1 y1 ++ wHi I O hh ha ad9 y0.2.2.1)) := by
  refine mW_open (own := RL) rfl (by decide +kernel) (Nat.le_of_ble_eq_true rfl) (fun p e s m below meth c ls E htab hX hsz hw hl => ?_)
  obtain ⟨ws0, hws⟩ : ∃ ws0 : va_W, ws0 = wCl I h0 n t b0 b1 hh x ++ wLo J c0 1 o ++ wHi I O hh ha ad x.2.2.1 := ⟨_, rfl⟩
  have hw : fy D (va_A ws0 sz) s.heap s.heap [] (wCl I h0 n t b0 b1 hh x ++ wLo J c0 1 o ++ wHi I O hh ha ad x.2.2.1) := by rw [hws]; exact hw
  rw [← hws]
  have hx := E.1
  have hb := E.2.1
  have hl : lv_has ls 4 [(0, .ref h0), (1, .int p1), (2, .ref c0)] := hl
  unfold f_L_goOn at hf
  refine lv_aload_n hx hb dL_goOn_0 rfl (lv_at hl 2 rfl) ?_
  refine lv_iconst (v := 0) hx hb dL_goOn_1 (by decide) ?_
  refine lv_aload_n hx hb dL_goOn_2 rfl (lv_at hl 0 rfl) ?_
  refine lv_iload_n hx hb dL_goOn_3 rfl (lv_at hl 1 rfl) ?_
  rcases ct_s hf with ⟨z1, h, hf⟩ | ⟨ex, h, hf⟩
  · refine x_miFP hw (x_rV E (As := [.int p1]) (rest := [.int 0, .ref c0]) (mt_X5_goOn l D I J O h0 n t b0 b1 hh ha ad s.heap.size p1 x z1.1 z1.2 h) blM (x_recv E hw.1 0 5 rfl rfl rfl) (x_pcMPF E hw) ok_X5_goOn q679 rfl hl.1 rfl (Nat.le_of_ble_eq_true rfl) ⟨Nat.le_of_ble_eq_true rfl, Nat.le_of_ble_eq_true rfl⟩ ⟨Nat.le_of_ble_eq_true rfl, Nat.le_of_ble_eq_true rfl⟩ dL_goOn_4) (fun _ => rfl) (fun ad2 H locs hw => ?_)
    have hw : fy D (va_A ws0 sz) s.heap H locs (wCl I h0 n t b0 b1 hh z1.2 ++ wLo J c0 1 o ++ wHi I O hh ha ad2 z1.2.2.2.1) := hw
    refine lv_i2l (v := z1.1.toInt64) hx hb dL_goOn_7 rfl ?_
    obtain ⟨g, hf⟩ := gi_s hf
    refine x_last E hw 27 rfl g dL_goOn_8 (fun H locs hw => ?_)
    have hw : fy D (va_A ws0 sz) s.heap H locs (wCl I h0 n t b0 b1 hh z1.2 ++ wLo J c0 1 (vp_updL o (0 : Int32).toNatClampNeg z1.1.toInt64) ++ wHi I O hh ha ad2 z1.2.2.2.1) := hw
    refine lv_goto (tgt := 15) hx hb dL_goOn_9 (by decide) ?_
    refine lv_iconst (v := 0) hx hb dL_goOn_15 (by decide) ?_
    obtain ⟨he0, hr⟩ := Prod.mk.inj (Option.some.inj hf)
    obtain ⟨he1, hr⟩ := Prod.mk.inj hr
    have he2 := hr
    subst he1
    subst he2
    refine W.widen (k := 1) (n := 6) (by decide) (by decide) ?_
    exact x_iM E ad2 hw he0 dL_goOn_16
  · by_cases hq : ex = 3
    · rw [if_pos hq] at hf
      subst hq
      refine x_cX (en := "java/lang/IndexOutOfBoundsException") (free := fun q => s.heap.size ≤ q) hw (fun q hq => hw.2.2.2 q hq) (x_rX E (As := [.int p1]) (rest := [.int 0, .ref c0]) (mx_X5_goOn l hfl D I J O h0 n t b0 b1 hh ha ad s.heap.size p1 x 3 h) blX (x_recv E hw.1 0 5 rfl rfl rfl) (x_pcX E hX rfl (va_P.part hw.1 [0, 1, 2, 3, 4, 5, 6, 7, 8, 9, 10, 11, 12, 13, 14, 15, 16, 17, 18, 19, 20, 21, 22, 23, 24, 25, 26] rfl)) ok_X5_goOn q679 rfl hl.1 rfl (Nat.le_of_ble_eq_true rfl) ⟨Nat.le_of_ble_eq_true rfl, Nat.le_of_ble_eq_true rfl⟩ ⟨Nat.le_of_ble_eq_true rfl, Nat.le_of_ble_eq_true rfl⟩ dL_goOn_4) (fun ce q9 H locs hw hce hcv hcl => ?_)
      refine vx_catch (own := RL) (name := "java/lang/IndexOutOfBoundsException") E.2.2.2.1 [] (⟨0, 9, 12, 21⟩ : ExceptionTableEntry) [] (htab.trans rfl) (fun z hz => nomatch hz) (by decide) (by decide) (E.2.2.2.2.1 _ q636) (va_Nw.use rfl hX.2.2.1.2.2) hce hcv hcl ?_
      refine lv_astore_n (lv' := [(3, .ref q9), (0, .ref h0), (1, .int p1), (2, .ref c0)]) hx hb dL_goOn_12 rfl hl (by decide) rfl (fun ls hl => ?_)
      refine lv_iconst (v := 1) hx hb dL_goOn_13 (by decide) ?_
      obtain ⟨he0, hr⟩ := Prod.mk.inj (Option.some.inj hf)
      obtain ⟨he1, hr⟩ := Prod.mk.inj hr
      have he2 := hr
      subst he1
      subst he2
      refine W.widen (k := 1) (n := 6) (by decide) (by decide) ?_
      exact x_iM E ad hw he0 dL_goOn_14
    · rw [if_neg hq] at hf
      cases hf
theorem ok_L_take : yW yL_take cL_take 4 (some .int) [(0, 9, 12, 21), (0, 9, 15, 15)] 3 := ⟨q693, q0, q692, by decide +kernel, by decide +kernel, by decide +kernel⟩
set_option maxRecDepth 100000 in
set_option maxHeartbeats 4000000 in
theorem mt_L_take (l : Launch) (hfl : l.stackTraces = false) (D : va_G) (I J O : ClassId) (h0 : Nat) (n t : Nat → Nat) (b0 b1 hh ha : Nat) (ad : Nat → Nat → Nat) (c0 : Nat) (sz : Nat) (p1 : Int32) (x : ClC) (o : FnL) (r : Int32) (y0 : ClC) (y1 : FnL) (hf : f_L_take p1 x o = some (r, y0, y1)) : mW l yL_take cL_take 4 (some .int) [(0, 9, 12, 21), (0, 9, 15, 15)] 7 130 D I J O sz [.ref h0, .int p1, .ref c0] (wCl I h0 n t b0 b1 hh x ++ wLo J c0 1 o ++ wHi I O hh ha ad x.2.2.1) (qMi D sz (wCl I h0 n t b0 b1 hh x ++ wLo J c0 1 o ++ wHi I O hh ha ad x.2.2.1) r (fun ad9 : Nat → Nat → Nat => wCl I h0 n t b0 b1 hh y0 ++ wLo J c0 1 y1 ++ wHi I O hh ha ad9 y0.2.2.1)) := by
  refine mW_open (own := RL) rfl (by decide +kernel) (Nat.le_of_ble_eq_true rfl) (fun p e s m below meth c ls E htab hX hsz hw hl => ?_)
  obtain ⟨ws0, hws⟩ : ∃ ws0 : va_W, ws0 = wCl I h0 n t b0 b1 hh x ++ wLo J c0 1 o ++ wHi I O hh ha ad x.2.2.1 := ⟨_, rfl⟩
  have hw : fy D (va_A ws0 sz) s.heap s.heap [] (wCl I h0 n t b0 b1 hh x ++ wLo J c0 1 o ++ wHi I O hh ha ad x.2.2.1) := by rw [hws]; exact hw
  rw [← hws]
  have hx := E.1
  have hb := E.2.1
  have hl : lv_has ls 4 [(0, .ref h0), (1, .int p1), (2, .ref c0)] := hl
  unfold f_L_take at hf
  refine lv_aload_n hx hb dL_take_0 rfl (lv_at hl 2 rfl) ?_
  refine lv_iconst (v := 0) hx hb dL_take_1 (by decide) ?_
  refine lv_aload_n hx hb dL_take_2 rfl (lv_at hl 0 rfl) ?_
  refine lv_iload_n hx hb dL_take_3 rfl (lv_at hl 1 rfl) ?_
  rcases ct_s hf with ⟨z1, h, hf⟩ | ⟨ex, h, hf⟩
  · refine x_miFP hw (x_rV E (As := [.int p1]) (rest := [.int 0, .ref c0]) (mt_X5_take l D I J O h0 n t b0 b1 hh ha ad s.heap.size p1 x z1.1 z1.2 h) blM (x_recv E hw.1 0 5 rfl rfl rfl) (x_pcMPF E hw) ok_X5_take q694 rfl hl.1 rfl (Nat.le_of_ble_eq_true rfl) ⟨Nat.le_of_ble_eq_true rfl, Nat.le_of_ble_eq_true rfl⟩ ⟨Nat.le_of_ble_eq_true rfl, Nat.le_of_ble_eq_true rfl⟩ dL_take_4) (fun _ => rfl) (fun ad2 H locs hw => ?_)
    have hw : fy D (va_A ws0 sz) s.heap H locs (wCl I h0 n t b0 b1 hh z1.2 ++ wLo J c0 1 o ++ wHi I O hh ha ad2 z1.2.2.2.1) := hw
    refine lv_i2l (v := z1.1.toInt64) hx hb dL_take_7 rfl ?_
    obtain ⟨g, hf⟩ := gi_s hf
    refine x_last E hw 27 rfl g dL_take_8 (fun H locs hw => ?_)
    have hw : fy D (va_A ws0 sz) s.heap H locs (wCl I h0 n t b0 b1 hh z1.2 ++ wLo J c0 1 (vp_updL o (0 : Int32).toNatClampNeg z1.1.toInt64) ++ wHi I O hh ha ad2 z1.2.2.2.1) := hw
    refine lv_goto (tgt := 18) hx hb dL_take_9 (by decide) ?_
    refine lv_iconst (v := 0) hx hb dL_take_18 (by decide) ?_
    obtain ⟨he0, hr⟩ := Prod.mk.inj (Option.some.inj hf)
    obtain ⟨he1, hr⟩ := Prod.mk.inj hr
    have he2 := hr
    subst he1
    subst he2
    refine W.widen (k := 1) (n := 6) (by decide) (by decide) ?_
    exact x_iM E ad2 hw he0 dL_take_19
  · by_cases hq : ex = 3
    · rw [if_pos hq] at hf
      subst hq
      refine x_cX (en := "java/lang/IndexOutOfBoundsException") (free := fun q => s.heap.size ≤ q) hw (fun q hq => hw.2.2.2 q hq) (x_rX E (As := [.int p1]) (rest := [.int 0, .ref c0]) (mx_X5_take l hfl D I J O h0 n t b0 b1 hh ha ad s.heap.size p1 x 3 h) blX (x_recv E hw.1 0 5 rfl rfl rfl) (x_pcX E hX rfl (va_P.part hw.1 [0, 1, 2, 3, 4, 5, 6, 7, 8, 9, 10, 11, 12, 13, 14, 15, 16, 17, 18, 19, 20, 21, 22, 23, 24, 25, 26] rfl)) ok_X5_take q694 rfl hl.1 rfl (Nat.le_of_ble_eq_true rfl) ⟨Nat.le_of_ble_eq_true rfl, Nat.le_of_ble_eq_true rfl⟩ ⟨Nat.le_of_ble_eq_true rfl, Nat.le_of_ble_eq_true rfl⟩ dL_take_4) (fun ce q9 H locs hw hce hcv hcl => ?_)
      refine vx_catch (own := RL) (name := "java/lang/IndexOutOfBoundsException") E.2.2.2.1 [] (⟨0, 9, 12, 21⟩ : ExceptionTableEntry) [(⟨0, 9, 15, 15⟩ : ExceptionTableEntry)] (htab.trans rfl) (fun z hz => nomatch hz) (by decide) (by decide) (E.2.2.2.2.1 _ q636) (va_Nw.use rfl hX.2.2.1.2.2) hce hcv hcl ?_
      refine lv_astore_n (lv' := [(3, .ref q9), (0, .ref h0), (1, .int p1), (2, .ref c0)]) hx hb dL_take_12 rfl hl (by decide) rfl (fun ls hl => ?_)
      refine lv_iconst (v := 1) hx hb dL_take_13 (by decide) ?_
      obtain ⟨he0, hr⟩ := Prod.mk.inj (Option.some.inj hf)
      obtain ⟨he1, hr⟩ := Prod.mk.inj hr
      have he2 := hr
      subst he1
      subst he2
      refine W.widen (k := 1) (n := 6) (by decide) (by decide) ?_
      exact x_iM E ad hw he0 dL_take_14
    · rw [if_neg hq] at hf
      by_cases hq : ex = 2
      · rw [if_pos hq] at hf
        subst hq
        refine x_cX (en := "java/lang/IllegalStateException") (free := fun q => s.heap.size ≤ q) hw (fun q hq => hw.2.2.2 q hq) (x_rX E (As := [.int p1]) (rest := [.int 0, .ref c0]) (mx_X5_take l hfl D I J O h0 n t b0 b1 hh ha ad s.heap.size p1 x 2 h) blX (x_recv E hw.1 0 5 rfl rfl rfl) (x_pcX E hX rfl (va_P.part hw.1 [0, 1, 2, 3, 4, 5, 6, 7, 8, 9, 10, 11, 12, 13, 14, 15, 16, 17, 18, 19, 20, 21, 22, 23, 24, 25, 26] rfl)) ok_X5_take q694 rfl hl.1 rfl (Nat.le_of_ble_eq_true rfl) ⟨Nat.le_of_ble_eq_true rfl, Nat.le_of_ble_eq_true rfl⟩ ⟨Nat.le_of_ble_eq_true rfl, Nat.le_of_ble_eq_true rfl⟩ dL_take_4) (fun ce q9 H locs hw hce hcv hcl => ?_)
        refine vx_catch (own := RL) (name := "java/lang/IllegalStateException") E.2.2.2.1 [(⟨0, 9, 12, 21⟩ : ExceptionTableEntry)] (⟨0, 9, 15, 15⟩ : ExceptionTableEntry) [] (htab.trans rfl) (fun z hz => by rcases List.mem_cons.mp hz with rfl | hz; exact Or.inr ⟨by decide, _, E.2.2.2.2.1 _ q636, hX.2.2.2.1.2.2⟩; cases hz) (by decide) (by decide) (E.2.2.2.2.1 _ q603) (va_Nw.use rfl hX.2.2.1.2.1) hce hcv hcl ?_
        refine lv_astore_n (lv' := [(3, .ref q9), (0, .ref h0), (1, .int p1), (2, .ref c0)]) hx hb dL_take_15 rfl hl (by decide) rfl (fun ls hl => ?_)
        refine lv_iconst (v := 2) hx hb dL_take_16 (by decide) ?_
        obtain ⟨he0, hr⟩ := Prod.mk.inj (Option.some.inj hf)
        obtain ⟨he1, hr⟩ := Prod.mk.inj hr
        have he2 := hr
        subst he1
        subst he2
        refine W.widen (k := 1) (n := 6) (by decide) (by decide) ?_
        exact x_iM E ad hw he0 dL_take_17
      · rw [if_neg hq] at hf
        cases hf
theorem ok_L_append : yW yL_append cL_append 4 (some .int) [(0, 9, 12, 13), (0, 9, 15, 15)] 3 := ⟨q701, q0, q700, by decide +kernel, by decide +kernel, by decide +kernel⟩
set_option maxRecDepth 100000 in
set_option maxHeartbeats 4000000 in
theorem mt_L_append (l : Launch) (hfl : l.stackTraces = false) (D : va_G) (I J O : ClassId) (h0 : Nat) (n t : Nat → Nat) (b0 b1 hh ha : Nat) (ad : Nat → Nat → Nat) (c0 : Nat) (sz : Nat) (p1 : Int32) (x : ClC) (o : FnL) (r : Int32) (y0 : ClC) (y1 : FnL) (hf : f_L_append p1 x o = some (r, y0, y1)) : mW l yL_append cL_append 4 (some .int) [(0, 9, 12, 13), (0, 9, 15, 15)] 7 103 D I J O sz [.ref h0, .int p1, .ref c0] (wCl I h0 n t b0 b1 hh x ++ wLo J c0 1 o ++ wHi I O hh ha ad x.2.2.1) (qMi D sz (wCl I h0 n t b0 b1 hh x ++ wLo J c0 1 o ++ wHi I O hh ha ad x.2.2.1) r (fun ad9 : Nat → Nat → Nat => wCl I h0 n t b0 b1 hh y0 ++ wLo J c0 1 y1 ++ wHi I O hh ha ad9 y0.2.2.1)) := by
  refine mW_open (own := RL) rfl (by decide +kernel) (Nat.le_of_ble_eq_true rfl) (fun p e s m below meth c ls E htab hX hsz hw hl => ?_)
  obtain ⟨ws0, hws⟩ : ∃ ws0 : va_W, ws0 = wCl I h0 n t b0 b1 hh x ++ wLo J c0 1 o ++ wHi I O hh ha ad x.2.2.1 := ⟨_, rfl⟩
  have hw : fy D (va_A ws0 sz) s.heap s.heap [] (wCl I h0 n t b0 b1 hh x ++ wLo J c0 1 o ++ wHi I O hh ha ad x.2.2.1) := by rw [hws]; exact hw
  rw [← hws]
  have hx := E.1
  have hb := E.2.1
  have hl : lv_has ls 4 [(0, .ref h0), (1, .int p1), (2, .ref c0)] := hl
  unfold f_L_append at hf
  refine lv_aload_n hx hb dL_append_0 rfl (lv_at hl 2 rfl) ?_
  refine lv_iconst (v := 0) hx hb dL_append_1 (by decide) ?_
  refine lv_aload_n hx hb dL_append_2 rfl (lv_at hl 0 rfl) ?_
  refine lv_iload_n hx hb dL_append_3 rfl (lv_at hl 1 rfl) ?_
  rcases ct_s hf with ⟨z1, h, hf⟩ | ⟨ex, h, hf⟩
  · refine x_miFP hw (x_rV E (As := [.int p1]) (rest := [.int 0, .ref c0]) (mt_X5_append l D I J O h0 n t b0 b1 hh ha ad s.heap.size p1 x z1.1 z1.2 h) blM (x_recv E hw.1 0 5 rfl rfl rfl) (x_pcMPF E hw) ok_X5_append q702 rfl hl.1 rfl (Nat.le_of_ble_eq_true rfl) ⟨Nat.le_of_ble_eq_true rfl, Nat.le_of_ble_eq_true rfl⟩ ⟨Nat.le_of_ble_eq_true rfl, Nat.le_of_ble_eq_true rfl⟩ dL_append_4) (fun _ => rfl) (fun ad2 H locs hw => ?_)
    have hw : fy D (va_A ws0 sz) s.heap H locs (wCl I h0 n t b0 b1 hh z1.2 ++ wLo J c0 1 o ++ wHi I O hh ha ad2 z1.2.2.2.1) := hw
    refine lv_i2l (v := z1.1.toInt64) hx hb dL_append_7 rfl ?_
    obtain ⟨g, hf⟩ := gi_s hf
    refine x_last E hw 27 rfl g dL_append_8 (fun H locs hw => ?_)
    have hw : fy D (va_A ws0 sz) s.heap H locs (wCl I h0 n t b0 b1 hh z1.2 ++ wLo J c0 1 (vp_updL o (0 : Int32).toNatClampNeg z1.1.toInt64) ++ wHi I O hh ha ad2 z1.2.2.2.1) := hw
    refine lv_goto (tgt := 18) hx hb dL_append_9 (by decide) ?_
    refine lv_iconst (v := 0) hx hb dL_append_18 (by decide) ?_
    obtain ⟨he0, hr⟩ := Prod.mk.inj (Option.some.inj hf)
    obtain ⟨he1, hr⟩ := Prod.mk.inj hr
    have he2 := hr
    subst he1
    subst he2
    refine W.widen (k := 1) (n := 6) (by decide) (by decide) ?_
    exact x_iM E ad2 hw he0 dL_append_19
  · by_cases hq : ex = 1
    · rw [if_pos hq] at hf
      subst hq
      refine x_cX (en := "java/lang/IllegalArgumentException") (free := fun q => s.heap.size ≤ q) hw (fun q hq => hw.2.2.2 q hq) (x_rX E (As := [.int p1]) (rest := [.int 0, .ref c0]) (mx_X5_append l hfl D I J O h0 n t b0 b1 hh ha ad s.heap.size p1 x 1 h) blX (x_recv E hw.1 0 5 rfl rfl rfl) (x_pcX E hX rfl (va_P.part hw.1 [0, 1, 2, 3, 4, 5, 6, 7, 8, 9, 10, 11, 12, 13, 14, 15, 16, 17, 18, 19, 20, 21, 22, 23, 24, 25, 26] rfl)) ok_X5_append q702 rfl hl.1 rfl (Nat.le_of_ble_eq_true rfl) ⟨Nat.le_of_ble_eq_true rfl, Nat.le_of_ble_eq_true rfl⟩ ⟨Nat.le_of_ble_eq_true rfl, Nat.le_of_ble_eq_true rfl⟩ dL_append_4) (fun ce q9 H locs hw hce hcv hcl => ?_)
      refine vx_catch (own := RL) (name := "java/lang/IllegalArgumentException") E.2.2.2.1 [] (⟨0, 9, 12, 13⟩ : ExceptionTableEntry) [(⟨0, 9, 15, 15⟩ : ExceptionTableEntry)] (htab.trans rfl) (fun z hz => nomatch hz) (by decide) (by decide) (E.2.2.2.2.1 _ q602) (va_Nw.use rfl hX.2.2.1.1) hce hcv hcl ?_
      refine lv_astore_n (lv' := [(3, .ref q9), (0, .ref h0), (1, .int p1), (2, .ref c0)]) hx hb dL_append_12 rfl hl (by decide) rfl (fun ls hl => ?_)
      refine lv_iconst (v := 1) hx hb dL_append_13 (by decide) ?_
      obtain ⟨he0, hr⟩ := Prod.mk.inj (Option.some.inj hf)
      obtain ⟨he1, hr⟩ := Prod.mk.inj hr
      have he2 := hr
      subst he1
      subst he2
      refine W.widen (k := 1) (n := 6) (by decide) (by decide) ?_
      exact x_iM E ad hw he0 dL_append_14
    · rw [if_neg hq] at hf
      by_cases hq : ex = 2
      · rw [if_pos hq] at hf
        subst hq
        refine x_cX (en := "java/lang/IllegalStateException") (free := fun q => s.heap.size ≤ q) hw (fun q hq => hw.2.2.2 q hq) (x_rX E (As := [.int p1]) (rest := [.int 0, .ref c0]) (mx_X5_append l hfl D I J O h0 n t b0 b1 hh ha ad s.heap.size p1 x 2 h) blX (x_recv E hw.1 0 5 rfl rfl rfl) (x_pcX E hX rfl (va_P.part hw.1 [0, 1, 2, 3, 4, 5, 6, 7, 8, 9, 10, 11, 12, 13, 14, 15, 16, 17, 18, 19, 20, 21, 22, 23, 24, 25, 26] rfl)) ok_X5_append q702 rfl hl.1 rfl (Nat.le_of_ble_eq_true rfl) ⟨Nat.le_of_ble_eq_true rfl, Nat.le_of_ble_eq_true rfl⟩ ⟨Nat.le_of_ble_eq_true rfl, Nat.le_of_ble_eq_true rfl⟩ dL_append_4) (fun ce q9 H locs hw hce hcv hcl => ?_)
        refine vx_catch (own := RL) (name := "java/lang/IllegalStateException") E.2.2.2.1 [(⟨0, 9, 12, 13⟩ : ExceptionTableEntry)] (⟨0, 9, 15, 15⟩ : ExceptionTableEntry) [] (htab.trans rfl) (fun z hz => by rcases List.mem_cons.mp hz with rfl | hz; exact Or.inr ⟨by decide, _, E.2.2.2.2.1 _ q602, hX.2.2.2.1.1⟩; cases hz) (by decide) (by decide) (E.2.2.2.2.1 _ q603) (va_Nw.use rfl hX.2.2.1.2.1) hce hcv hcl ?_
        refine lv_astore_n (lv' := [(3, .ref q9), (0, .ref h0), (1, .int p1), (2, .ref c0)]) hx hb dL_append_15 rfl hl (by decide) rfl (fun ls hl => ?_)
        refine lv_iconst (v := 2) hx hb dL_append_16 (by decide) ?_
        obtain ⟨he0, hr⟩ := Prod.mk.inj (Option.some.inj hf)
        obtain ⟨he1, hr⟩ := Prod.mk.inj hr
        have he2 := hr
        subst he1
        subst he2
        refine W.widen (k := 1) (n := 6) (by decide) (by decide) ?_
        exact x_iM E ad hw he0 dL_append_17
      · rw [if_neg hq] at hf
        cases hf
theorem ok_L_putAll : yW yL_putAll cL_putAll 3 (some .int) [(0, 8, 11, 13)] 2 := ⟨q718, q0, q717, by decide +kernel, by decide +kernel, by decide +kernel⟩
set_option maxRecDepth 100000 in
set_option maxHeartbeats 4000000 in
theorem mt_L_putAll (l : Launch) (hfl : l.stackTraces = false) (D : va_G) (I J O : ClassId) (h0 : Nat) (n t : Nat → Nat) (b0 b1 hh ha : Nat) (ad : Nat → Nat → Nat) (c0 : Nat) (sz : Nat)  (x : ClC) (o : FnL) (r : Int32) (y0 : ClC) (y1 : FnL) (hf : f_L_putAll x o = some (r, y0, y1)) : mW l yL_putAll cL_putAll 3 (some .int) [(0, 8, 11, 13)] 7 144 D I J O sz [.ref h0, .ref c0] (wCl I h0 n t b0 b1 hh x ++ wLo J c0 1 o ++ wHi I O hh ha ad x.2.2.1) (qMi D sz (wCl I h0 n t b0 b1 hh x ++ wLo J c0 1 o ++ wHi I O hh ha ad x.2.2.1) r (fun ad9 : Nat → Nat → Nat => wCl I h0 n t b0 b1 hh y0 ++ wLo J c0 1 y1 ++ wHi I O hh ha ad9 y0.2.2.1)) := by
  refine mW_open (own := RL) rfl (by decide +kernel) (Nat.le_of_ble_eq_true rfl) (fun p e s m below meth c ls E htab hX hsz hw hl => ?_)
  obtain ⟨ws0, hws⟩ : ∃ ws0 : va_W, ws0 = wCl I h0 n t b0 b1 hh x ++ wLo J c0 1 o ++ wHi I O hh ha ad x.2.2.1 := ⟨_, rfl⟩
  have hw : fy D (va_A ws0 sz) s.heap s.heap [] (wCl I h0 n t b0 b1 hh x ++ wLo J c0 1 o ++ wHi I O hh ha ad x.2.2.1) := by rw [hws]; exact hw
  rw [← hws]
  have hx := E.1
  have hb := E.2.1
  have hl : lv_has ls 3 [(0, .ref h0), (1, .ref c0)] := hl
  unfold f_L_putAll at hf
  refine lv_aload_n hx hb dL_putAll_0 rfl (lv_at hl 1 rfl) ?_
  refine lv_iconst (v := 0) hx hb dL_putAll_1 (by decide) ?_
  refine lv_aload_n hx hb dL_putAll_2 rfl (lv_at hl 0 rfl) ?_
  rcases ct_s hf with ⟨z1, h, hf⟩ | ⟨ex, h, hf⟩
  · refine x_miFP hw (x_rV E (As := []) (rest := [.int 0, .ref c0]) (mt_X5_putAll l D I J O h0 n t b0 b1 hh ha ad s.heap.size x z1.1 z1.2 h) blM (x_recv E hw.1 0 5 rfl rfl rfl) (x_pcMPF E hw) ok_X5_putAll q719 rfl hl.1 rfl (Nat.le_of_ble_eq_true rfl) ⟨Nat.le_of_ble_eq_true rfl, Nat.le_of_ble_eq_true rfl⟩ ⟨Nat.le_of_ble_eq_true rfl, Nat.le_of_ble_eq_true rfl⟩ dL_putAll_3) (fun _ => rfl) (fun ad2 H locs hw => ?_)
    have hw : fy D (va_A ws0 sz) s.heap H locs (wCl I h0 n t b0 b1 hh z1.2 ++ wLo J c0 1 o ++ wHi I O hh ha ad2 z1.2.2.2.1) := hw
    refine lv_i2l (v := z1.1.toInt64) hx hb dL_putAll_6 rfl ?_
    obtain ⟨g, hf⟩ := gi_s hf
    refine x_last E hw 27 rfl g dL_putAll_7 (fun H locs hw => ?_)
    have hw : fy D (va_A ws0 sz) s.heap H locs (wCl I h0 n t b0 b1 hh z1.2 ++ wLo J c0 1 (vp_updL o (0 : Int32).toNatClampNeg z1.1.toInt64) ++ wHi I O hh ha ad2 z1.2.2.2.1) := hw
    refine lv_goto (tgt := 14) hx hb dL_putAll_8 (by decide) ?_
    refine lv_iconst (v := 0) hx hb dL_putAll_14 (by decide) ?_
    obtain ⟨he0, hr⟩ := Prod.mk.inj (Option.some.inj hf)
    obtain ⟨he1, hr⟩ := Prod.mk.inj hr
    have he2 := hr
    subst he1
    subst he2
    refine W.widen (k := 1) (n := 6) (by decide) (by decide) ?_
    exact x_iM E ad2 hw he0 dL_putAll_15
  · by_cases hq : ex = 1
    · rw [if_pos hq] at hf
      subst hq
      refine x_cX (en := "java/lang/IllegalArgumentException") (free := fun q => s.heap.size ≤ q) hw (fun q hq => hw.2.2.2 q hq) (x_rX E (As := []) (rest := [.int 0, .ref c0]) (mx_X5_putAll l hfl D I J O h0 n t b0 b1 hh ha ad s.heap.size x 1 h) blX (x_recv E hw.1 0 5 rfl rfl rfl) (x_pcX E hX rfl (va_P.part hw.1 [0, 1, 2, 3, 4, 5, 6, 7, 8, 9, 10, 11, 12, 13, 14, 15, 16, 17, 18, 19, 20, 21, 22, 23, 24, 25, 26] rfl)) ok_X5_putAll q719 rfl hl.1 rfl (Nat.le_of_ble_eq_true rfl) ⟨Nat.le_of_ble_eq_true rfl, Nat.le_of_ble_eq_true rfl⟩ ⟨Nat.le_of_ble_eq_true rfl, Nat.le_of_ble_eq_true rfl⟩ dL_putAll_3) (fun ce q9 H locs hw hce hcv hcl => ?_)
      refine vx_catch (own := RL) (name := "java/lang/IllegalArgumentException") E.2.2.2.1 [] (⟨0, 8, 11, 13⟩ : ExceptionTableEntry) [] (htab.trans rfl) (fun z hz => nomatch hz) (by decide) (by decide) (E.2.2.2.2.1 _ q602) (va_Nw.use rfl hX.2.2.1.1) hce hcv hcl ?_
      refine lv_astore_n (lv' := [(2, .ref q9), (0, .ref h0), (1, .ref c0)]) hx hb dL_putAll_11 rfl hl (by decide) rfl (fun ls hl => ?_)
      refine lv_iconst (v := 1) hx hb dL_putAll_12 (by decide) ?_
      obtain ⟨he0, hr⟩ := Prod.mk.inj (Option.some.inj hf)
      obtain ⟨he1, hr⟩ := Prod.mk.inj hr
      have he2 := hr
      subst he1
      subst he2
      refine W.widen (k := 1) (n := 6) (by decide) (by decide) ?_
      exact x_iM E ad hw he0 dL_putAll_13
    · rw [if_neg hq] at hf
      cases hf
theorem ok_L_undo : yW yL_undo cL_undo 3 (some .int) [(0, 8, 11, 15)] 2 := ⟨q745, q0, q744, by decide +kernel, by decide +kernel, by decide +kernel⟩
set_option maxRecDepth 100000 in
set_option maxHeartbeats 4000000 in
theorem mt_L_undo (l : Launch) (hfl : l.stackTraces = false) (D : va_G) (I J O : ClassId) (h0 : Nat) (n t : Nat → Nat) (b0 b1 hh ha : Nat) (ad : Nat → Nat → Nat) (c0 : Nat) (sz : Nat)  (x : ClC) (o : FnL) (r : Int32) (y0 : ClC) (y1 : FnL) (hf : f_L_undo x o = some (r, y0, y1)) : mW l yL_undo cL_undo 3 (some .int) [(0, 8, 11, 15)] 7 102 D I J O sz [.ref h0, .ref c0] (wCl I h0 n t b0 b1 hh x ++ wLo J c0 1 o ++ wHi I O hh ha ad x.2.2.1) (qMi D sz (wCl I h0 n t b0 b1 hh x ++ wLo J c0 1 o ++ wHi I O hh ha ad x.2.2.1) r (fun ad9 : Nat → Nat → Nat => wCl I h0 n t b0 b1 hh y0 ++ wLo J c0 1 y1 ++ wHi I O hh ha ad9 y0.2.2.1)) := by
  refine mW_open (own := RL) rfl (by decide +kernel) (Nat.le_of_ble_eq_true rfl) (fun p e s m below meth c ls E htab hX hsz hw hl => ?_)
  obtain ⟨ws0, hws⟩ : ∃ ws0 : va_W, ws0 = wCl I h0 n t b0 b1 hh x ++ wLo J c0 1 o ++ wHi I O hh ha ad x.2.2.1 := ⟨_, rfl⟩
  have hw : fy D (va_A ws0 sz) s.heap s.heap [] (wCl I h0 n t b0 b1 hh x ++ wLo J c0 1 o ++ wHi I O hh ha ad x.2.2.1) := by rw [hws]; exact hw
  rw [← hws]
  have hx := E.1
  have hb := E.2.1
  have hl : lv_has ls 3 [(0, .ref h0), (1, .ref c0)] := hl
  unfold f_L_undo at hf
  refine lv_aload_n hx hb dL_undo_0 rfl (lv_at hl 1 rfl) ?_
  refine lv_iconst (v := 0) hx hb dL_undo_1 (by decide) ?_
  refine lv_aload_n hx hb dL_undo_2 rfl (lv_at hl 0 rfl) ?_
  rcases ct_s hf with ⟨z1, h, hf⟩ | ⟨ex, h, hf⟩
  · refine x_miFP hw (x_rV E (As := []) (rest := [.int 0, .ref c0]) (mt_X5_undo l D I J O h0 n t b0 b1 hh ha ad s.heap.size x z1.1 z1.2 h) blM (x_recv E hw.1 0 5 rfl rfl rfl) (x_pcMPF E hw) ok_X5_undo q746 rfl hl.1 rfl (Nat.le_of_ble_eq_true rfl) ⟨Nat.le_of_ble_eq_true rfl, Nat.le_of_ble_eq_true rfl⟩ ⟨Nat.le_of_ble_eq_true rfl, Nat.le_of_ble_eq_true rfl⟩ dL_undo_3) (fun _ => rfl) (fun ad2 H locs hw => ?_)
    have hw : fy D (va_A ws0 sz) s.heap H locs (wCl I h0 n t b0 b1 hh z1.2 ++ wLo J c0 1 o ++ wHi I O hh ha ad2 z1.2.2.2.1) := hw
    refine lv_i2l (v := z1.1.toInt64) hx hb dL_undo_6 rfl ?_
    obtain ⟨g, hf⟩ := gi_s hf
    refine x_last E hw 27 rfl g dL_undo_7 (fun H locs hw => ?_)
    have hw : fy D (va_A ws0 sz) s.heap H locs (wCl I h0 n t b0 b1 hh z1.2 ++ wLo J c0 1 (vp_updL o (0 : Int32).toNatClampNeg z1.1.toInt64) ++ wHi I O hh ha ad2 z1.2.2.2.1) := hw
    refine lv_goto (tgt := 14) hx hb dL_undo_8 (by decide) ?_
    refine lv_iconst (v := 0) hx hb dL_undo_14 (by decide) ?_
    obtain ⟨he0, hr⟩ := Prod.mk.inj (Option.some.inj hf)
    obtain ⟨he1, hr⟩ := Prod.mk.inj hr
    have he2 := hr
    subst he1
    subst he2
    refine W.widen (k := 1) (n := 6) (by decide) (by decide) ?_
    exact x_iM E ad2 hw he0 dL_undo_15
  · by_cases hq : ex = 2
    · rw [if_pos hq] at hf
      subst hq
      refine x_cX (en := "java/lang/IllegalStateException") (free := fun q => s.heap.size ≤ q) hw (fun q hq => hw.2.2.2 q hq) (x_rX E (As := []) (rest := [.int 0, .ref c0]) (mx_X5_undo l hfl D I J O h0 n t b0 b1 hh ha ad s.heap.size x 2 h) blX (x_recv E hw.1 0 5 rfl rfl rfl) (x_pcX E hX rfl (va_P.part hw.1 [0, 1, 2, 3, 4, 5, 6, 7, 8, 9, 10, 11, 12, 13, 14, 15, 16, 17, 18, 19, 20, 21, 22, 23, 24, 25, 26] rfl)) ok_X5_undo q746 rfl hl.1 rfl (Nat.le_of_ble_eq_true rfl) ⟨Nat.le_of_ble_eq_true rfl, Nat.le_of_ble_eq_true rfl⟩ ⟨Nat.le_of_ble_eq_true rfl, Nat.le_of_ble_eq_true rfl⟩ dL_undo_3) (fun ce q9 H locs hw hce hcv hcl => ?_)
      refine vx_catch (own := RL) (name := "java/lang/IllegalStateException") E.2.2.2.1 [] (⟨0, 8, 11, 15⟩ : ExceptionTableEntry) [] (htab.trans rfl) (fun z hz => nomatch hz) (by decide) (by decide) (E.2.2.2.2.1 _ q603) (va_Nw.use rfl hX.2.2.1.2.1) hce hcv hcl ?_
      refine lv_astore_n (lv' := [(2, .ref q9), (0, .ref h0), (1, .ref c0)]) hx hb dL_undo_11 rfl hl (by decide) rfl (fun ls hl => ?_)
      refine lv_iconst (v := 1) hx hb dL_undo_12 (by decide) ?_
      obtain ⟨he0, hr⟩ := Prod.mk.inj (Option.some.inj hf)
      obtain ⟨he1, hr⟩ := Prod.mk.inj hr
      have he2 := hr
      subst he1
      subst he2
      refine W.widen (k := 1) (n := 6) (by decide) (by decide) ?_
      exact x_iM E ad hw he0 dL_undo_13
    · rw [if_neg hq] at hf
      cases hf
theorem ok_L_thing : yW yL_thing cL_thing 5 (some .int) [(0, 10, 13, 21), (0, 10, 17, 13)] 4 := ⟨q757, q0, q756, by decide +kernel, by decide +kernel, by decide +kernel⟩
set_option maxRecDepth 100000 in
set_option maxHeartbeats 4000000 in
theorem mt_L_thing (l : Launch) (hfl : l.stackTraces = false) (D : va_G) (I J O : ClassId) (h0 : Nat) (n t : Nat → Nat) (b0 b1 hh ha : Nat) (ad : Nat → Nat → Nat) (c0 : Nat) (sz : Nat) (p1 : Int32) (p2 : Int32) (x : ClC) (o : FnL) (r : Int32) (y1 : FnL) (hf : f_L_thing p1 p2 x o = some (r, y1)) : mW l yL_thing cL_thing 5 (some .int) [(0, 10, 13, 21), (0, 10, 17, 13)] 7 105 D I J O sz [.ref h0, .int p1, .int p2, .ref c0] (wCl I h0 n t b0 b1 hh x ++ wLo J c0 1 o ++ wHi I O hh ha ad x.2.2.1) (qMi D sz (wCl I h0 n t b0 b1 hh x ++ wLo J c0 1 o ++ wHi I O hh ha ad x.2.2.1) r (fun ad9 : Nat → Nat → Nat => wCl I h0 n t b0 b1 hh x ++ wLo J c0 1 y1 ++ wHi I O hh ha ad9 x.2.2.1)) := by
  refine mW_open (own := RL) rfl (by decide +kernel) (Nat.le_of_ble_eq_true rfl) (fun p e s m below meth c ls E htab hX hsz hw hl => ?_)
  obtain ⟨ws0, hws⟩ : ∃ ws0 : va_W, ws0 = wCl I h0 n t b0 b1 hh x ++ wLo J c0 1 o ++ wHi I O hh ha ad x.2.2.1 := ⟨_, rfl⟩
  have hw : fy D (va_A ws0 sz) s.heap s.heap [] (wCl I h0 n t b0 b1 hh x ++ wLo J c0 1 o ++ wHi I O hh ha ad x.2.2.1) := by rw [hws]; exact hw
  rw [← hws]
  have hx := E.1
  have hb := E.2.1
  have hl : lv_has ls 5 [(0, .ref h0), (1, .int p1), (2, .int p2), (3, .ref c0)] := hl
  unfold f_L_thing at hf
  refine lv_aload_n hx hb dL_thing_0 rfl (lv_at hl 3 rfl) ?_
  refine lv_iconst (v := 0) hx hb dL_thing_1 (by decide) ?_
  refine lv_aload_n hx hb dL_thing_2 rfl (lv_at hl 0 rfl) ?_
  refine lv_iload_n hx hb dL_thing_3 rfl (lv_at hl 1 rfl) ?_
  refine lv_iload_n hx hb dL_thing_4 rfl (lv_at hl 2 rfl) ?_
  rcases ct_s hf with ⟨z1, h, hf⟩ | ⟨ex, h, hf⟩
  · refine x_ci (x_rV E (As := [.int p1, .int p2]) (rest := [.int 0, .ref c0]) (mt_X5_thing l D I J O h0 n t b0 b1 hh ha ad p1 p2 x z1 h) blR (x_recv E hw.1 0 5 rfl rfl rfl) (x_pcR E (va_P.part hw.1 [0, 1, 2, 3, 4, 5, 6, 7, 8, 9, 10, 11, 12, 13, 14, 15, 16, 17, 18, 19, 20, 21, 22, 23, 24, 25, 26] rfl)) ok_X5_thing q758 rfl hl.1 rfl (Nat.le_of_ble_eq_true rfl) ⟨Nat.le_of_ble_eq_true rfl, Nat.le_of_ble_eq_true rfl⟩ ⟨Nat.le_of_ble_eq_true rfl, Nat.le_of_ble_eq_true rfl⟩ dL_thing_5) ?_
    refine lv_i2l (v := z1.toInt64) hx hb dL_thing_8 rfl ?_
    obtain ⟨g, hf⟩ := gi_s hf
    refine x_last E hw 27 rfl g dL_thing_9 (fun H locs hw => ?_)
    have hw : fy D (va_A ws0 sz) s.heap H locs (wCl I h0 n t b0 b1 hh x ++ wLo J c0 1 (vp_updL o (0 : Int32).toNatClampNeg z1.toInt64) ++ wHi I O hh ha ad x.2.2.1) := hw
    refine lv_goto (tgt := 21) hx hb dL_thing_10 (by decide) ?_
    refine lv_iconst (v := 0) hx hb dL_thing_21 (by decide) ?_
    obtain ⟨he0, hr⟩ := Prod.mk.inj (Option.some.inj hf)
    have he1 := hr
    subst he1
    refine W.widen (k := 1) (n := 6) (by decide) (by decide) ?_
    exact x_iM E ad hw he0 dL_thing_22
  · by_cases hq : ex = 3
    · rw [if_pos hq] at hf
      subst hq
      refine x_cX (en := "java/lang/IndexOutOfBoundsException") (free := fun q => s.heap.size ≤ q) hw (fun q hq => hw.2.2.2 q hq) (x_rX E (As := [.int p1, .int p2]) (rest := [.int 0, .ref c0]) (mx_X5_thing l hfl D I J O h0 n t b0 b1 hh ha ad s.heap.size p1 p2 x 3 h) blX (x_recv E hw.1 0 5 rfl rfl rfl) (x_pcX E hX rfl (va_P.part hw.1 [0, 1, 2, 3, 4, 5, 6, 7, 8, 9, 10, 11, 12, 13, 14, 15, 16, 17, 18, 19, 20, 21, 22, 23, 24, 25, 26] rfl)) ok_X5_thing q758 rfl hl.1 rfl (Nat.le_of_ble_eq_true rfl) ⟨Nat.le_of_ble_eq_true rfl, Nat.le_of_ble_eq_true rfl⟩ ⟨Nat.le_of_ble_eq_true rfl, Nat.le_of_ble_eq_true rfl⟩ dL_thing_5) (fun ce q9 H locs hw hce hcv hcl => ?_)
      refine vx_catch (own := RL) (name := "java/lang/IndexOutOfBoundsException") E.2.2.2.1 [] (⟨0, 10, 13, 21⟩ : ExceptionTableEntry) [(⟨0, 10, 17, 13⟩ : ExceptionTableEntry)] (htab.trans rfl) (fun z hz => nomatch hz) (by decide) (by decide) (E.2.2.2.2.1 _ q636) (va_Nw.use rfl hX.2.2.1.2.2) hce hcv hcl ?_
      refine lv_astore (lv' := [(4, .ref q9), (0, .ref h0), (1, .int p1), (2, .int p2), (3, .ref c0)]) hx hb dL_thing_13 hl (by decide) rfl (fun ls hl => ?_)
      refine lv_iconst (v := 1) hx hb dL_thing_15 (by decide) ?_
      obtain ⟨he0, hr⟩ := Prod.mk.inj (Option.some.inj hf)
      have he1 := hr
      subst he1
      refine W.widen (k := 1) (n := 6) (by decide) (by decide) ?_
      exact x_iM E ad hw he0 dL_thing_16
    · rw [if_neg hq] at hf
      by_cases hq : ex = 1
      · rw [if_pos hq] at hf
        subst hq
        refine x_cX (en := "java/lang/IllegalArgumentException") (free := fun q => s.heap.size ≤ q) hw (fun q hq => hw.2.2.2 q hq) (x_rX E (As := [.int p1, .int p2]) (rest := [.int 0, .ref c0]) (mx_X5_thing l hfl D I J O h0 n t b0 b1 hh ha ad s.heap.size p1 p2 x 1 h) blX (x_recv E hw.1 0 5 rfl rfl rfl) (x_pcX E hX rfl (va_P.part hw.1 [0, 1, 2, 3, 4, 5, 6, 7, 8, 9, 10, 11, 12, 13, 14, 15, 16, 17, 18, 19, 20, 21, 22, 23, 24, 25, 26] rfl)) ok_X5_thing q758 rfl hl.1 rfl (Nat.le_of_ble_eq_true rfl) ⟨Nat.le_of_ble_eq_true rfl, Nat.le_of_ble_eq_true rfl⟩ ⟨Nat.le_of_ble_eq_true rfl, Nat.le_of_ble_eq_true rfl⟩ dL_thing_5) (fun ce q9 H locs hw hce hcv hcl => ?_)
        refine vx_catch (own := RL) (name := "java/lang/IllegalArgumentException") E.2.2.2.1 [(⟨0, 10, 13, 21⟩ : ExceptionTableEntry)] (⟨0, 10, 17, 13⟩ : ExceptionTableEntry) [] (htab.trans rfl) (fun z hz => by rcases List.mem_cons.mp hz with rfl | hz; exact Or.inr ⟨by decide, _, E.2.2.2.2.1 _ q636, hX.2.2.2.1.2.1⟩; cases hz) (by decide) (by decide) (E.2.2.2.2.1 _ q602) (va_Nw.use rfl hX.2.2.1.1) hce hcv hcl ?_
        refine lv_astore (lv' := [(4, .ref q9), (0, .ref h0), (1, .int p1), (2, .int p2), (3, .ref c0)]) hx hb dL_thing_17 hl (by decide) rfl (fun ls hl => ?_)
        refine lv_iconst (v := 2) hx hb dL_thing_19 (by decide) ?_
        obtain ⟨he0, hr⟩ := Prod.mk.inj (Option.some.inj hf)
        have he1 := hr
        subst he1
        refine W.widen (k := 1) (n := 6) (by decide) (by decide) ?_
        exact x_iM E ad hw he0 dL_thing_20
      · rw [if_neg hq] at hf
        cases hf
theorem ok_L_at : yW yL_at cL_at 4 (some .int) [(0, 9, 12, 13)] 3 := ⟨q761, q0, q760, by decide +kernel, by decide +kernel, by decide +kernel⟩
set_option maxRecDepth 100000 in
set_option maxHeartbeats 4000000 in
theorem mt_L_at (l : Launch) (hfl : l.stackTraces = false) (D : va_G) (I J O : ClassId) (h0 : Nat) (n t : Nat → Nat) (b0 b1 hh ha : Nat) (ad : Nat → Nat → Nat) (c0 : Nat) (sz : Nat) (p1 : Int32) (x : ClC) (o : FnL) (r : Int32) (y1 : FnL) (hf : f_L_at p1 x o = some (r, y1)) : mW l yL_at cL_at 4 (some .int) [(0, 9, 12, 13)] 7 103 D I J O sz [.ref h0, .int p1, .ref c0] (wCl I h0 n t b0 b1 hh x ++ wLo J c0 1 o ++ wHi I O hh ha ad x.2.2.1) (qMi D sz (wCl I h0 n t b0 b1 hh x ++ wLo J c0 1 o ++ wHi I O hh ha ad x.2.2.1) r (fun ad9 : Nat → Nat → Nat => wCl I h0 n t b0 b1 hh x ++ wLo J c0 1 y1 ++ wHi I O hh ha ad9 x.2.2.1)) := by
  refine mW_open (own := RL) rfl (by decide +kernel) (Nat.le_of_ble_eq_true rfl) (fun p e s m below meth c ls E htab hX hsz hw hl => ?_)
  obtain ⟨ws0, hws⟩ : ∃ ws0 : va_W, ws0 = wCl I h0 n t b0 b1 hh x ++ wLo J c0 1 o ++ wHi I O hh ha ad x.2.2.1 := ⟨_, rfl⟩
  have hw : fy D (va_A ws0 sz) s.heap s.heap [] (wCl I h0 n t b0 b1 hh x ++ wLo J c0 1 o ++ wHi I O hh ha ad x.2.2.1) := by rw [hws]; exact hw
  rw [← hws]
  have hx := E.1
  have hb := E.2.1
  have hl : lv_has ls 4 [(0, .ref h0), (1, .int p1), (2, .ref c0)] := hl
  unfold f_L_at at hf
  refine lv_aload_n hx hb dL_at_0 rfl (lv_at hl 2 rfl) ?_
  refine lv_iconst (v := 0) hx hb dL_at_1 (by decide) ?_
  refine lv_aload_n hx hb dL_at_2 rfl (lv_at hl 0 rfl) ?_
  refine lv_iload_n hx hb dL_at_3 rfl (lv_at hl 1 rfl) ?_
  rcases ct_s hf with ⟨z1, h, hf⟩ | ⟨ex, h, hf⟩
  · refine x_ci (x_rV E (As := [.int p1]) (rest := [.int 0, .ref c0]) (mt_X5_at l D I J O h0 n t b0 b1 hh ha ad p1 x z1 h) blR (x_recv E hw.1 0 5 rfl rfl rfl) (x_pcR E (va_P.part hw.1 [0, 1, 2, 3, 4, 5, 6, 7, 8, 9, 10, 11, 12, 13, 14, 15, 16, 17, 18, 19, 20, 21, 22, 23, 24, 25, 26] rfl)) ok_X5_at q762 rfl hl.1 rfl (Nat.le_of_ble_eq_true rfl) ⟨Nat.le_of_ble_eq_true rfl, Nat.le_of_ble_eq_true rfl⟩ ⟨Nat.le_of_ble_eq_true rfl, Nat.le_of_ble_eq_true rfl⟩ dL_at_4) ?_
    refine lv_i2l (v := z1.toInt64) hx hb dL_at_7 rfl ?_
    obtain ⟨g, hf⟩ := gi_s hf
    refine x_last E hw 27 rfl g dL_at_8 (fun H locs hw => ?_)
    have hw : fy D (va_A ws0 sz) s.heap H locs (wCl I h0 n t b0 b1 hh x ++ wLo J c0 1 (vp_updL o (0 : Int32).toNatClampNeg z1.toInt64) ++ wHi I O hh ha ad x.2.2.1) := hw
    refine lv_goto (tgt := 15) hx hb dL_at_9 (by decide) ?_
    refine lv_iconst (v := 0) hx hb dL_at_15 (by decide) ?_
    obtain ⟨he0, hr⟩ := Prod.mk.inj (Option.some.inj hf)
    have he1 := hr
    subst he1
    refine W.widen (k := 1) (n := 6) (by decide) (by decide) ?_
    exact x_iM E ad hw he0 dL_at_16
  · by_cases hq : ex = 1
    · rw [if_pos hq] at hf
      subst hq
      refine x_cX (en := "java/lang/IllegalArgumentException") (free := fun q => s.heap.size ≤ q) hw (fun q hq => hw.2.2.2 q hq) (x_rX E (As := [.int p1]) (rest := [.int 0, .ref c0]) (mx_X5_at l hfl D I J O h0 n t b0 b1 hh ha ad s.heap.size p1 x 1 h) blX (x_recv E hw.1 0 5 rfl rfl rfl) (x_pcX E hX rfl (va_P.part hw.1 [0, 1, 2, 3, 4, 5, 6, 7, 8, 9, 10, 11, 12, 13, 14, 15, 16, 17, 18, 19, 20, 21, 22, 23, 24, 25, 26] rfl)) ok_X5_at q762 rfl hl.1 rfl (Nat.le_of_ble_eq_true rfl) ⟨Nat.le_of_ble_eq_true rfl, Nat.le_of_ble_eq_true rfl⟩ ⟨Nat.le_of_ble_eq_true rfl, Nat.le_of_ble_eq_true rfl⟩ dL_at_4) (fun ce q9 H locs hw hce hcv hcl => ?_)
      refine vx_catch (own := RL) (name := "java/lang/IllegalArgumentException") E.2.2.2.1 [] (⟨0, 9, 12, 13⟩ : ExceptionTableEntry) [] (htab.trans rfl) (fun z hz => nomatch hz) (by decide) (by decide) (E.2.2.2.2.1 _ q602) (va_Nw.use rfl hX.2.2.1.1) hce hcv hcl ?_
      refine lv_astore_n (lv' := [(3, .ref q9), (0, .ref h0), (1, .int p1), (2, .ref c0)]) hx hb dL_at_12 rfl hl (by decide) rfl (fun ls hl => ?_)
      refine lv_iconst (v := 1) hx hb dL_at_13 (by decide) ?_
      obtain ⟨he0, hr⟩ := Prod.mk.inj (Option.some.inj hf)
      have he1 := hr
      subst he1
      refine W.widen (k := 1) (n := 6) (by decide) (by decide) ?_
      exact x_iM E ad hw he0 dL_at_14
    · rw [if_neg hq] at hf
      cases hf
theorem ok_L_walker : yW yL_walker cL_walker 5 (some .int) [(0, 10, 13, 21), (0, 10, 17, 13)] 4 := ⟨q769, q0, q768, by decide +kernel, by decide +kernel, by decide +kernel⟩
set_option maxRecDepth 100000 in
set_option maxHeartbeats 4000000 in
theorem mt_L_walker (l : Launch) (hfl : l.stackTraces = false) (D : va_G) (I J O : ClassId) (h0 : Nat) (n t : Nat → Nat) (b0 b1 hh ha : Nat) (ad : Nat → Nat → Nat) (c0 : Nat) (sz : Nat) (p1 : Int32) (p2 : Int32) (x : ClC) (o : FnL) (r : Int32) (y1 : FnL) (hf : f_L_walker p1 p2 x o = some (r, y1)) : mW l yL_walker cL_walker 5 (some .int) [(0, 10, 13, 21), (0, 10, 17, 13)] 7 109 D I J O sz [.ref h0, .int p1, .int p2, .ref c0] (wCl I h0 n t b0 b1 hh x ++ wLo J c0 1 o ++ wHi I O hh ha ad x.2.2.1) (qMi D sz (wCl I h0 n t b0 b1 hh x ++ wLo J c0 1 o ++ wHi I O hh ha ad x.2.2.1) r (fun ad9 : Nat → Nat → Nat => wCl I h0 n t b0 b1 hh x ++ wLo J c0 1 y1 ++ wHi I O hh ha ad9 x.2.2.1)) := by
  refine mW_open (own := RL) rfl (by decide +kernel) (Nat.le_of_ble_eq_true rfl) (fun p e s m below meth c ls E htab hX hsz hw hl => ?_)
  obtain ⟨ws0, hws⟩ : ∃ ws0 : va_W, ws0 = wCl I h0 n t b0 b1 hh x ++ wLo J c0 1 o ++ wHi I O hh ha ad x.2.2.1 := ⟨_, rfl⟩
  have hw : fy D (va_A ws0 sz) s.heap s.heap [] (wCl I h0 n t b0 b1 hh x ++ wLo J c0 1 o ++ wHi I O hh ha ad x.2.2.1) := by rw [hws]; exact hw
  rw [← hws]
  have hx := E.1
  have hb := E.2.1
  have hl : lv_has ls 5 [(0, .ref h0), (1, .int p1), (2, .int p2), (3, .ref c0)] := hl
  unfold f_L_walker at hf
  refine lv_aload_n hx hb dL_walker_0 rfl (lv_at hl 3 rfl) ?_
  refine lv_iconst (v := 0) hx hb dL_walker_1 (by decide) ?_
  refine lv_aload_n hx hb dL_walker_2 rfl (lv_at hl 0 rfl) ?_
  refine lv_iload_n hx hb dL_walker_3 rfl (lv_at hl 1 rfl) ?_
  refine lv_iload_n hx hb dL_walker_4 rfl (lv_at hl 2 rfl) ?_
  rcases ct_s hf with ⟨z1, h, hf⟩ | ⟨ex, h, hf⟩
  · refine x_ci (x_rV E (As := [.int p1, .int p2]) (rest := [.int 0, .ref c0]) (mt_X5_walker l D I J O h0 n t b0 b1 hh ha ad p1 p2 x z1 h) blR (x_recv E hw.1 0 5 rfl rfl rfl) (x_pcR E (va_P.part hw.1 [0, 1, 2, 3, 4, 5, 6, 7, 8, 9, 10, 11, 12, 13, 14, 15, 16, 17, 18, 19, 20, 21, 22, 23, 24, 25, 26] rfl)) ok_X5_walker q770 rfl hl.1 rfl (Nat.le_of_ble_eq_true rfl) ⟨Nat.le_of_ble_eq_true rfl, Nat.le_of_ble_eq_true rfl⟩ ⟨Nat.le_of_ble_eq_true rfl, Nat.le_of_ble_eq_true rfl⟩ dL_walker_5) ?_
    refine lv_i2l (v := z1.toInt64) hx hb dL_walker_8 rfl ?_
    obtain ⟨g, hf⟩ := gi_s hf
    refine x_last E hw 27 rfl g dL_walker_9 (fun H locs hw => ?_)
    have hw : fy D (va_A ws0 sz) s.heap H locs (wCl I h0 n t b0 b1 hh x ++ wLo J c0 1 (vp_updL o (0 : Int32).toNatClampNeg z1.toInt64) ++ wHi I O hh ha ad x.2.2.1) := hw
    refine lv_goto (tgt := 21) hx hb dL_walker_10 (by decide) ?_
    refine lv_iconst (v := 0) hx hb dL_walker_21 (by decide) ?_
    obtain ⟨he0, hr⟩ := Prod.mk.inj (Option.some.inj hf)
    have he1 := hr
    subst he1
    refine W.widen (k := 1) (n := 6) (by decide) (by decide) ?_
    exact x_iM E ad hw he0 dL_walker_22
  · by_cases hq : ex = 3
    · rw [if_pos hq] at hf
      subst hq
      refine x_cX (en := "java/lang/IndexOutOfBoundsException") (free := fun q => s.heap.size ≤ q) hw (fun q hq => hw.2.2.2 q hq) (x_rX E (As := [.int p1, .int p2]) (rest := [.int 0, .ref c0]) (mx_X5_walker l hfl D I J O h0 n t b0 b1 hh ha ad s.heap.size p1 p2 x 3 h) blX (x_recv E hw.1 0 5 rfl rfl rfl) (x_pcX E hX rfl (va_P.part hw.1 [0, 1, 2, 3, 4, 5, 6, 7, 8, 9, 10, 11, 12, 13, 14, 15, 16, 17, 18, 19, 20, 21, 22, 23, 24, 25, 26] rfl)) ok_X5_walker q770 rfl hl.1 rfl (Nat.le_of_ble_eq_true rfl) ⟨Nat.le_of_ble_eq_true rfl, Nat.le_of_ble_eq_true rfl⟩ ⟨Nat.le_of_ble_eq_true rfl, Nat.le_of_ble_eq_true rfl⟩ dL_walker_5) (fun ce q9 H locs hw hce hcv hcl => ?_)
      refine vx_catch (own := RL) (name := "java/lang/IndexOutOfBoundsException") E.2.2.2.1 [] (⟨0, 10, 13, 21⟩ : ExceptionTableEntry) [(⟨0, 10, 17, 13⟩ : ExceptionTableEntry)] (htab.trans rfl) (fun z hz => nomatch hz) (by decide) (by decide) (E.2.2.2.2.1 _ q636) (va_Nw.use rfl hX.2.2.1.2.2) hce hcv hcl ?_
      refine lv_astore (lv' := [(4, .ref q9), (0, .ref h0), (1, .int p1), (2, .int p2), (3, .ref c0)]) hx hb dL_walker_13 hl (by decide) rfl (fun ls hl => ?_)
      refine lv_iconst (v := 1) hx hb dL_walker_15 (by decide) ?_
      obtain ⟨he0, hr⟩ := Prod.mk.inj (Option.some.inj hf)
      have he1 := hr
      subst he1
      refine W.widen (k := 1) (n := 6) (by decide) (by decide) ?_
      exact x_iM E ad hw he0 dL_walker_16
    · rw [if_neg hq] at hf
      by_cases hq : ex = 1
      · rw [if_pos hq] at hf
        subst hq
        refine x_cX (en := "java/lang/IllegalArgumentException") (free := fun q => s.heap.size ≤ q) hw (fun q hq => hw.2.2.2 q hq) (x_rX E (As := [.int p1, .int p2]) (rest := [.int 0, .ref c0]) (mx_X5_walker l hfl D I J O h0 n t b0 b1 hh ha ad s.heap.size p1 p2 x 1 h) blX (x_recv E hw.1 0 5 rfl rfl rfl) (x_pcX E hX rfl (va_P.part hw.1 [0, 1, 2, 3, 4, 5, 6, 7, 8, 9, 10, 11, 12, 13, 14, 15, 16, 17, 18, 19, 20, 21, 22, 23, 24, 25, 26] rfl)) ok_X5_walker q770 rfl hl.1 rfl (Nat.le_of_ble_eq_true rfl) ⟨Nat.le_of_ble_eq_true rfl, Nat.le_of_ble_eq_true rfl⟩ ⟨Nat.le_of_ble_eq_true rfl, Nat.le_of_ble_eq_true rfl⟩ dL_walker_5) (fun ce q9 H locs hw hce hcv hcl => ?_)
        refine vx_catch (own := RL) (name := "java/lang/IllegalArgumentException") E.2.2.2.1 [(⟨0, 10, 13, 21⟩ : ExceptionTableEntry)] (⟨0, 10, 17, 13⟩ : ExceptionTableEntry) [] (htab.trans rfl) (fun z hz => by rcases List.mem_cons.mp hz with rfl | hz; exact Or.inr ⟨by decide, _, E.2.2.2.2.1 _ q636, hX.2.2.2.1.2.1⟩; cases hz) (by decide) (by decide) (E.2.2.2.2.1 _ q602) (va_Nw.use rfl hX.2.2.1.1) hce hcv hcl ?_
        refine lv_astore (lv' := [(4, .ref q9), (0, .ref h0), (1, .int p1), (2, .int p2), (3, .ref c0)]) hx hb dL_walker_17 hl (by decide) rfl (fun ls hl => ?_)
        refine lv_iconst (v := 2) hx hb dL_walker_19 (by decide) ?_
        obtain ⟨he0, hr⟩ := Prod.mk.inj (Option.some.inj hf)
        have he1 := hr
        subst he1
        refine W.widen (k := 1) (n := 6) (by decide) (by decide) ?_
        exact x_iM E ad hw he0 dL_walker_20
      · rw [if_neg hq] at hf
        cases hf
theorem ok_L_count : yW yL_count cL_count 4 (some .int) [(0, 9, 12, 13)] 3 := ⟨q773, q0, q772, by decide +kernel, by decide +kernel, by decide +kernel⟩
set_option maxRecDepth 100000 in
set_option maxHeartbeats 4000000 in
theorem mt_L_count (l : Launch) (hfl : l.stackTraces = false) (D : va_G) (I J O : ClassId) (h0 : Nat) (n t : Nat → Nat) (b0 b1 hh ha : Nat) (ad : Nat → Nat → Nat) (c0 : Nat) (sz : Nat) (p1 : Int32) (x : ClC) (o : FnL) (r : Int32) (y1 : FnL) (hf : f_L_count p1 x o = some (r, y1)) : mW l yL_count cL_count 4 (some .int) [(0, 9, 12, 13)] 7 126 D I J O sz [.ref h0, .int p1, .ref c0] (wCl I h0 n t b0 b1 hh x ++ wLo J c0 1 o ++ wHi I O hh ha ad x.2.2.1) (qMi D sz (wCl I h0 n t b0 b1 hh x ++ wLo J c0 1 o ++ wHi I O hh ha ad x.2.2.1) r (fun ad9 : Nat → Nat → Nat => wCl I h0 n t b0 b1 hh x ++ wLo J c0 1 y1 ++ wHi I O hh ha ad9 x.2.2.1)) := by
  refine mW_open (own := RL) rfl (by decide +kernel) (Nat.le_of_ble_eq_true rfl) (fun p e s m below meth c ls E htab hX hsz hw hl => ?_)
  obtain ⟨ws0, hws⟩ : ∃ ws0 : va_W, ws0 = wCl I h0 n t b0 b1 hh x ++ wLo J c0 1 o ++ wHi I O hh ha ad x.2.2.1 := ⟨_, rfl⟩
  have hw : fy D (va_A ws0 sz) s.heap s.heap [] (wCl I h0 n t b0 b1 hh x ++ wLo J c0 1 o ++ wHi I O hh ha ad x.2.2.1) := by rw [hws]; exact hw
  rw [← hws]
  have hx := E.1
  have hb := E.2.1
  have hl : lv_has ls 4 [(0, .ref h0), (1, .int p1), (2, .ref c0)] := hl
  unfold f_L_count at hf
  refine lv_aload_n hx hb dL_count_0 rfl (lv_at hl 2 rfl) ?_
  refine lv_iconst (v := 0) hx hb dL_count_1 (by decide) ?_
  refine lv_aload_n hx hb dL_count_2 rfl (lv_at hl 0 rfl) ?_
  refine lv_iload_n hx hb dL_count_3 rfl (lv_at hl 1 rfl) ?_
  rcases ct_s hf with ⟨z1, h, hf⟩ | ⟨ex, h, hf⟩
  · refine x_ci (x_rV E (As := [.int p1]) (rest := [.int 0, .ref c0]) (mt_X5_count l D I J O h0 n t b0 b1 hh ha ad p1 x z1 h) blR (x_recv E hw.1 0 5 rfl rfl rfl) (x_pcR E (va_P.part hw.1 [0, 1, 2, 3, 4, 5, 6, 7, 8, 9, 10, 11, 12, 13, 14, 15, 16, 17, 18, 19, 20, 21, 22, 23, 24, 25, 26] rfl)) ok_X5_count q774 rfl hl.1 rfl (Nat.le_of_ble_eq_true rfl) ⟨Nat.le_of_ble_eq_true rfl, Nat.le_of_ble_eq_true rfl⟩ ⟨Nat.le_of_ble_eq_true rfl, Nat.le_of_ble_eq_true rfl⟩ dL_count_4) ?_
    refine lv_i2l (v := z1.toInt64) hx hb dL_count_7 rfl ?_
    obtain ⟨g, hf⟩ := gi_s hf
    refine x_last E hw 27 rfl g dL_count_8 (fun H locs hw => ?_)
    have hw : fy D (va_A ws0 sz) s.heap H locs (wCl I h0 n t b0 b1 hh x ++ wLo J c0 1 (vp_updL o (0 : Int32).toNatClampNeg z1.toInt64) ++ wHi I O hh ha ad x.2.2.1) := hw
    refine lv_goto (tgt := 15) hx hb dL_count_9 (by decide) ?_
    refine lv_iconst (v := 0) hx hb dL_count_15 (by decide) ?_
    obtain ⟨he0, hr⟩ := Prod.mk.inj (Option.some.inj hf)
    have he1 := hr
    subst he1
    refine W.widen (k := 1) (n := 6) (by decide) (by decide) ?_
    exact x_iM E ad hw he0 dL_count_16
  · by_cases hq : ex = 1
    · rw [if_pos hq] at hf
      subst hq
      refine x_cX (en := "java/lang/IllegalArgumentException") (free := fun q => s.heap.size ≤ q) hw (fun q hq => hw.2.2.2 q hq) (x_rX E (As := [.int p1]) (rest := [.int 0, .ref c0]) (mx_X5_count l hfl D I J O h0 n t b0 b1 hh ha ad s.heap.size p1 x 1 h) blX (x_recv E hw.1 0 5 rfl rfl rfl) (x_pcX E hX rfl (va_P.part hw.1 [0, 1, 2, 3, 4, 5, 6, 7, 8, 9, 10, 11, 12, 13, 14, 15, 16, 17, 18, 19, 20, 21, 22, 23, 24, 25, 26] rfl)) ok_X5_count q774 rfl hl.1 rfl (Nat.le_of_ble_eq_true rfl) ⟨Nat.le_of_ble_eq_true rfl, Nat.le_of_ble_eq_true rfl⟩ ⟨Nat.le_of_ble_eq_true rfl, Nat.le_of_ble_eq_true rfl⟩ dL_count_4) (fun ce q9 H locs hw hce hcv hcl => ?_)
      refine vx_catch (own := RL) (name := "java/lang/IllegalArgumentException") E.2.2.2.1 [] (⟨0, 9, 12, 13⟩ : ExceptionTableEntry) [] (htab.trans rfl) (fun z hz => nomatch hz) (by decide) (by decide) (E.2.2.2.2.1 _ q602) (va_Nw.use rfl hX.2.2.1.1) hce hcv hcl ?_
      refine lv_astore_n (lv' := [(3, .ref q9), (0, .ref h0), (1, .int p1), (2, .ref c0)]) hx hb dL_count_12 rfl hl (by decide) rfl (fun ls hl => ?_)
      refine lv_iconst (v := 1) hx hb dL_count_13 (by decide) ?_
      obtain ⟨he0, hr⟩ := Prod.mk.inj (Option.some.inj hf)
      have he1 := hr
      subst he1
      refine W.widen (k := 1) (n := 6) (by decide) (by decide) ?_
      exact x_iM E ad hw he0 dL_count_14
    · rw [if_neg hq] at hf
      cases hf
theorem ok_L_begins : yW yL_begins cL_begins 4 (some .int) [(0, 9, 12, 13)] 3 := ⟨q777, q0, q776, by decide +kernel, by decide +kernel, by decide +kernel⟩
set_option maxRecDepth 100000 in
set_option maxHeartbeats 4000000 in
theorem mt_L_begins (l : Launch) (hfl : l.stackTraces = false) (D : va_G) (I J O : ClassId) (h0 : Nat) (n t : Nat → Nat) (b0 b1 hh ha : Nat) (ad : Nat → Nat → Nat) (c0 : Nat) (sz : Nat) (p1 : Int32) (x : ClC) (o : FnL) (r : Int32) (y1 : FnL) (hf : f_L_begins p1 x o = some (r, y1)) : mW l yL_begins cL_begins 4 (some .int) [(0, 9, 12, 13)] 7 103 D I J O sz [.ref h0, .int p1, .ref c0] (wCl I h0 n t b0 b1 hh x ++ wLo J c0 1 o ++ wHi I O hh ha ad x.2.2.1) (qMi D sz (wCl I h0 n t b0 b1 hh x ++ wLo J c0 1 o ++ wHi I O hh ha ad x.2.2.1) r (fun ad9 : Nat → Nat → Nat => wCl I h0 n t b0 b1 hh x ++ wLo J c0 1 y1 ++ wHi I O hh ha ad9 x.2.2.1)) := by
  refine mW_open (own := RL) rfl (by decide +kernel) (Nat.le_of_ble_eq_true rfl) (fun p e s m below meth c ls E htab hX hsz hw hl => ?_)
  obtain ⟨ws0, hws⟩ : ∃ ws0 : va_W, ws0 = wCl I h0 n t b0 b1 hh x ++ wLo J c0 1 o ++ wHi I O hh ha ad x.2.2.1 := ⟨_, rfl⟩
  have hw : fy D (va_A ws0 sz) s.heap s.heap [] (wCl I h0 n t b0 b1 hh x ++ wLo J c0 1 o ++ wHi I O hh ha ad x.2.2.1) := by rw [hws]; exact hw
  rw [← hws]
  have hx := E.1
  have hb := E.2.1
  have hl : lv_has ls 4 [(0, .ref h0), (1, .int p1), (2, .ref c0)] := hl
  unfold f_L_begins at hf
  refine lv_aload_n hx hb dL_begins_0 rfl (lv_at hl 2 rfl) ?_
  refine lv_iconst (v := 0) hx hb dL_begins_1 (by decide) ?_
  refine lv_aload_n hx hb dL_begins_2 rfl (lv_at hl 0 rfl) ?_
  refine lv_iload_n hx hb dL_begins_3 rfl (lv_at hl 1 rfl) ?_
  rcases ct_s hf with ⟨z1, h, hf⟩ | ⟨ex, h, hf⟩
  · refine x_ci (x_rV E (As := [.int p1]) (rest := [.int 0, .ref c0]) (mt_X5_begins l D I J O h0 n t b0 b1 hh ha ad p1 x z1 h) blR (x_recv E hw.1 0 5 rfl rfl rfl) (x_pcR E (va_P.part hw.1 [0, 1, 2, 3, 4, 5, 6, 7, 8, 9, 10, 11, 12, 13, 14, 15, 16, 17, 18, 19, 20, 21, 22, 23, 24, 25, 26] rfl)) ok_X5_begins q778 rfl hl.1 rfl (Nat.le_of_ble_eq_true rfl) ⟨Nat.le_of_ble_eq_true rfl, Nat.le_of_ble_eq_true rfl⟩ ⟨Nat.le_of_ble_eq_true rfl, Nat.le_of_ble_eq_true rfl⟩ dL_begins_4) ?_
    refine lv_i2l (v := z1.toInt64) hx hb dL_begins_7 rfl ?_
    obtain ⟨g, hf⟩ := gi_s hf
    refine x_last E hw 27 rfl g dL_begins_8 (fun H locs hw => ?_)
    have hw : fy D (va_A ws0 sz) s.heap H locs (wCl I h0 n t b0 b1 hh x ++ wLo J c0 1 (vp_updL o (0 : Int32).toNatClampNeg z1.toInt64) ++ wHi I O hh ha ad x.2.2.1) := hw
    refine lv_goto (tgt := 15) hx hb dL_begins_9 (by decide) ?_
    refine lv_iconst (v := 0) hx hb dL_begins_15 (by decide) ?_
    obtain ⟨he0, hr⟩ := Prod.mk.inj (Option.some.inj hf)
    have he1 := hr
    subst he1
    refine W.widen (k := 1) (n := 6) (by decide) (by decide) ?_
    exact x_iM E ad hw he0 dL_begins_16
  · by_cases hq : ex = 1
    · rw [if_pos hq] at hf
      subst hq
      refine x_cX (en := "java/lang/IllegalArgumentException") (free := fun q => s.heap.size ≤ q) hw (fun q hq => hw.2.2.2 q hq) (x_rX E (As := [.int p1]) (rest := [.int 0, .ref c0]) (mx_X5_begins l hfl D I J O h0 n t b0 b1 hh ha ad s.heap.size p1 x 1 h) blX (x_recv E hw.1 0 5 rfl rfl rfl) (x_pcX E hX rfl (va_P.part hw.1 [0, 1, 2, 3, 4, 5, 6, 7, 8, 9, 10, 11, 12, 13, 14, 15, 16, 17, 18, 19, 20, 21, 22, 23, 24, 25, 26] rfl)) ok_X5_begins q778 rfl hl.1 rfl (Nat.le_of_ble_eq_true rfl) ⟨Nat.le_of_ble_eq_true rfl, Nat.le_of_ble_eq_true rfl⟩ ⟨Nat.le_of_ble_eq_true rfl, Nat.le_of_ble_eq_true rfl⟩ dL_begins_4) (fun ce q9 H locs hw hce hcv hcl => ?_)
      refine vx_catch (own := RL) (name := "java/lang/IllegalArgumentException") E.2.2.2.1 [] (⟨0, 9, 12, 13⟩ : ExceptionTableEntry) [] (htab.trans rfl) (fun z hz => nomatch hz) (by decide) (by decide) (E.2.2.2.2.1 _ q602) (va_Nw.use rfl hX.2.2.1.1) hce hcv hcl ?_
      refine lv_astore_n (lv' := [(3, .ref q9), (0, .ref h0), (1, .int p1), (2, .ref c0)]) hx hb dL_begins_12 rfl hl (by decide) rfl (fun ls hl => ?_)
      refine lv_iconst (v := 1) hx hb dL_begins_13 (by decide) ?_
      obtain ⟨he0, hr⟩ := Prod.mk.inj (Option.some.inj hf)
      have he1 := hr
      subst he1
      refine W.widen (k := 1) (n := 6) (by decide) (by decide) ?_
      exact x_iM E ad hw he0 dL_begins_14
    · rw [if_neg hq] at hf
      cases hf
theorem ok_L_gap : yW yL_gap cL_gap 4 (some .int) [(0, 9, 12, 13)] 3 := ⟨q781, q0, q780, by decide +kernel, by decide +kernel, by decide +kernel⟩
set_option maxRecDepth 100000 in
set_option maxHeartbeats 4000000 in
theorem mt_L_gap (l : Launch) (hfl : l.stackTraces = false) (D : va_G) (I J O : ClassId) (h0 : Nat) (n t : Nat → Nat) (b0 b1 hh ha : Nat) (ad : Nat → Nat → Nat) (c0 : Nat) (sz : Nat) (p1 : Int32) (x : ClC) (o : FnL) (r : Int32) (y1 : FnL) (hf : f_L_gap p1 x o = some (r, y1)) : mW l yL_gap cL_gap 4 (some .int) [(0, 9, 12, 13)] 7 103 D I J O sz [.ref h0, .int p1, .ref c0] (wCl I h0 n t b0 b1 hh x ++ wLo J c0 1 o ++ wHi I O hh ha ad x.2.2.1) (qMi D sz (wCl I h0 n t b0 b1 hh x ++ wLo J c0 1 o ++ wHi I O hh ha ad x.2.2.1) r (fun ad9 : Nat → Nat → Nat => wCl I h0 n t b0 b1 hh x ++ wLo J c0 1 y1 ++ wHi I O hh ha ad9 x.2.2.1)) := by
  refine mW_open (own := RL) rfl (by decide +kernel) (Nat.le_of_ble_eq_true rfl) (fun p e s m below meth c ls E htab hX hsz hw hl => ?_)
  obtain ⟨ws0, hws⟩ : ∃ ws0 : va_W, ws0 = wCl I h0 n t b0 b1 hh x ++ wLo J c0 1 o ++ wHi I O hh ha ad x.2.2.1 := ⟨_, rfl⟩
  have hw : fy D (va_A ws0 sz) s.heap s.heap [] (wCl I h0 n t b0 b1 hh x ++ wLo J c0 1 o ++ wHi I O hh ha ad x.2.2.1) := by rw [hws]; exact hw
  rw [← hws]
  have hx := E.1
  have hb := E.2.1
  have hl : lv_has ls 4 [(0, .ref h0), (1, .int p1), (2, .ref c0)] := hl
  unfold f_L_gap at hf
  refine lv_aload_n hx hb dL_gap_0 rfl (lv_at hl 2 rfl) ?_
  refine lv_iconst (v := 0) hx hb dL_gap_1 (by decide) ?_
  refine lv_aload_n hx hb dL_gap_2 rfl (lv_at hl 0 rfl) ?_
  refine lv_iload_n hx hb dL_gap_3 rfl (lv_at hl 1 rfl) ?_
  rcases ct_s hf with ⟨z1, h, hf⟩ | ⟨ex, h, hf⟩
  · refine x_ci (x_rV E (As := [.int p1]) (rest := [.int 0, .ref c0]) (mt_X5_gap l D I J O h0 n t b0 b1 hh ha ad p1 x z1 h) blR (x_recv E hw.1 0 5 rfl rfl rfl) (x_pcR E (va_P.part hw.1 [0, 1, 2, 3, 4, 5, 6, 7, 8, 9, 10, 11, 12, 13, 14, 15, 16, 17, 18, 19, 20, 21, 22, 23, 24, 25, 26] rfl)) ok_X5_gap q782 rfl hl.1 rfl (Nat.le_of_ble_eq_true rfl) ⟨Nat.le_of_ble_eq_true rfl, Nat.le_of_ble_eq_true rfl⟩ ⟨Nat.le_of_ble_eq_true rfl, Nat.le_of_ble_eq_true rfl⟩ dL_gap_4) ?_
    refine lv_i2l (v := z1.toInt64) hx hb dL_gap_7 rfl ?_
    obtain ⟨g, hf⟩ := gi_s hf
    refine x_last E hw 27 rfl g dL_gap_8 (fun H locs hw => ?_)
    have hw : fy D (va_A ws0 sz) s.heap H locs (wCl I h0 n t b0 b1 hh x ++ wLo J c0 1 (vp_updL o (0 : Int32).toNatClampNeg z1.toInt64) ++ wHi I O hh ha ad x.2.2.1) := hw
    refine lv_goto (tgt := 15) hx hb dL_gap_9 (by decide) ?_
    refine lv_iconst (v := 0) hx hb dL_gap_15 (by decide) ?_
    obtain ⟨he0, hr⟩ := Prod.mk.inj (Option.some.inj hf)
    have he1 := hr
    subst he1
    refine W.widen (k := 1) (n := 6) (by decide) (by decide) ?_
    exact x_iM E ad hw he0 dL_gap_16
  · by_cases hq : ex = 1
    · rw [if_pos hq] at hf
      subst hq
      refine x_cX (en := "java/lang/IllegalArgumentException") (free := fun q => s.heap.size ≤ q) hw (fun q hq => hw.2.2.2 q hq) (x_rX E (As := [.int p1]) (rest := [.int 0, .ref c0]) (mx_X5_gap l hfl D I J O h0 n t b0 b1 hh ha ad s.heap.size p1 x 1 h) blX (x_recv E hw.1 0 5 rfl rfl rfl) (x_pcX E hX rfl (va_P.part hw.1 [0, 1, 2, 3, 4, 5, 6, 7, 8, 9, 10, 11, 12, 13, 14, 15, 16, 17, 18, 19, 20, 21, 22, 23, 24, 25, 26] rfl)) ok_X5_gap q782 rfl hl.1 rfl (Nat.le_of_ble_eq_true rfl) ⟨Nat.le_of_ble_eq_true rfl, Nat.le_of_ble_eq_true rfl⟩ ⟨Nat.le_of_ble_eq_true rfl, Nat.le_of_ble_eq_true rfl⟩ dL_gap_4) (fun ce q9 H locs hw hce hcv hcl => ?_)
      refine vx_catch (own := RL) (name := "java/lang/IllegalArgumentException") E.2.2.2.1 [] (⟨0, 9, 12, 13⟩ : ExceptionTableEntry) [] (htab.trans rfl) (fun z hz => nomatch hz) (by decide) (by decide) (E.2.2.2.2.1 _ q602) (va_Nw.use rfl hX.2.2.1.1) hce hcv hcl ?_
      refine lv_astore_n (lv' := [(3, .ref q9), (0, .ref h0), (1, .int p1), (2, .ref c0)]) hx hb dL_gap_12 rfl hl (by decide) rfl (fun ls hl => ?_)
      refine lv_iconst (v := 1) hx hb dL_gap_13 (by decide) ?_
      obtain ⟨he0, hr⟩ := Prod.mk.inj (Option.some.inj hf)
      have he1 := hr
      subst he1
      refine W.widen (k := 1) (n := 6) (by decide) (by decide) ?_
      exact x_iM E ad hw he0 dL_gap_14
    · rw [if_neg hq] at hf
      cases hf
theorem ok_L_ifFired : yW yL_ifFired cL_ifFired 5 (some .int) [(0, 10, 13, 13)] 4 := ⟨q785, q0, q784, by decide +kernel, by decide +kernel, by decide +kernel⟩
set_option maxRecDepth 100000 in
set_option maxHeartbeats 4000000 in
theorem mt_L_ifFired (l : Launch) (hfl : l.stackTraces = false) (D : va_G) (I J O : ClassId) (h0 : Nat) (n t : Nat → Nat) (b0 b1 hh ha : Nat) (ad : Nat → Nat → Nat) (c0 : Nat) (sz : Nat) (p1 : Int32) (p2 : Int32) (x : ClC) (o : FnL) (r : Int32) (y0 : ClC) (y1 : FnL) (hf : f_L_ifFired p1 p2 x o = some (r, y0, y1)) : mW l yL_ifFired cL_ifFired 5 (some .int) [(0, 10, 13, 13)] 8 179 D I J O sz [.ref h0, .int p1, .int p2, .ref c0] (wCl I h0 n t b0 b1 hh x ++ wLo J c0 1 o ++ wHi I O hh ha ad x.2.2.1) (qMi D sz (wCl I h0 n t b0 b1 hh x ++ wLo J c0 1 o ++ wHi I O hh ha ad x.2.2.1) r (fun ad9 : Nat → Nat → Nat => wCl I h0 n t b0 b1 hh y0 ++ wLo J c0 1 y1 ++ wHi I O hh ha ad9 y0.2.2.1)) := by
  refine mW_open (own := RL) rfl (by decide +kernel) (Nat.le_of_ble_eq_true rfl) (fun p e s m below meth c ls E htab hX hsz hw hl => ?_)
  obtain ⟨ws0, hws⟩ : ∃ ws0 : va_W, ws0 = wCl I h0 n t b0 b1 hh x ++ wLo J c0 1 o ++ wHi I O hh ha ad x.2.2.1 := ⟨_, rfl⟩
  have hw : fy D (va_A ws0 sz) s.heap s.heap [] (wCl I h0 n t b0 b1 hh x ++ wLo J c0 1 o ++ wHi I O hh ha ad x.2.2.1) := by rw [hws]; exact hw
  rw [← hws]
  have hx := E.1
  have hb := E.2.1
  have hl : lv_has ls 5 [(0, .ref h0), (1, .int p1), (2, .int p2), (3, .ref c0)] := hl
  unfold f_L_ifFired at hf
  refine lv_aload_n hx hb dL_ifFired_0 rfl (lv_at hl 3 rfl) ?_
  refine lv_iconst (v := 0) hx hb dL_ifFired_1 (by decide) ?_
  refine lv_aload_n hx hb dL_ifFired_2 rfl (lv_at hl 0 rfl) ?_
  refine lv_iload_n hx hb dL_ifFired_3 rfl (lv_at hl 1 rfl) ?_
  refine lv_iload_n hx hb dL_ifFired_4 rfl (lv_at hl 2 rfl) ?_
  rcases ct_s hf with ⟨z1, h, hf⟩ | ⟨ex, h, hf⟩
  · refine x_miFP hw (x_rV E (As := [.int p1, .int p2]) (rest := [.int 0, .ref c0]) (mt_X5_ifFired l D I J O h0 n t b0 b1 hh ha ad s.heap.size p1 p2 x z1.1 z1.2 h) blM (x_recv E hw.1 0 5 rfl rfl rfl) (x_pcMPF E hw) ok_X5_ifFired q786 rfl hl.1 rfl (Nat.le_of_ble_eq_true rfl) ⟨Nat.le_of_ble_eq_true rfl, Nat.le_of_ble_eq_true rfl⟩ ⟨Nat.le_of_ble_eq_true rfl, Nat.le_of_ble_eq_true rfl⟩ dL_ifFired_5) (fun _ => rfl) (fun ad2 H locs hw => ?_)
    have hw : fy D (va_A ws0 sz) s.heap H locs (wCl I h0 n t b0 b1 hh z1.2 ++ wLo J c0 1 o ++ wHi I O hh ha ad2 z1.2.2.2.1) := hw
    refine lv_i2l (v := z1.1.toInt64) hx hb dL_ifFired_8 rfl ?_
    obtain ⟨g, hf⟩ := gi_s hf
    refine x_last E hw 27 rfl g dL_ifFired_9 (fun H locs hw => ?_)
    have hw : fy D (va_A ws0 sz) s.heap H locs (wCl I h0 n t b0 b1 hh z1.2 ++ wLo J c0 1 (vp_updL o (0 : Int32).toNatClampNeg z1.1.toInt64) ++ wHi I O hh ha ad2 z1.2.2.2.1) := hw
    refine lv_goto (tgt := 17) hx hb dL_ifFired_10 (by decide) ?_
    refine lv_iconst (v := 0) hx hb dL_ifFired_17 (by decide) ?_
    obtain ⟨he0, hr⟩ := Prod.mk.inj (Option.some.inj hf)
    obtain ⟨he1, hr⟩ := Prod.mk.inj hr
    have he2 := hr
    subst he1
    subst he2
    refine W.widen (k := 1) (n := 6) (by decide) (by decide) ?_
    exact x_iM E ad2 hw he0 dL_ifFired_18
  · by_cases hq : ex = 1
    · rw [if_pos hq] at hf
      subst hq
      refine x_cX (en := "java/lang/IllegalArgumentException") (free := fun q => s.heap.size ≤ q) hw (fun q hq => hw.2.2.2 q hq) (x_rX E (As := [.int p1, .int p2]) (rest := [.int 0, .ref c0]) (mx_X5_ifFired l hfl D I J O h0 n t b0 b1 hh ha ad s.heap.size p1 p2 x 1 h) blX (x_recv E hw.1 0 5 rfl rfl rfl) (x_pcX E hX rfl (va_P.part hw.1 [0, 1, 2, 3, 4, 5, 6, 7, 8, 9, 10, 11, 12, 13, 14, 15, 16, 17, 18, 19, 20, 21, 22, 23, 24, 25, 26] rfl)) ok_X5_ifFired q786 rfl hl.1 rfl (Nat.le_of_ble_eq_true rfl) ⟨Nat.le_of_ble_eq_true rfl, Nat.le_of_ble_eq_true rfl⟩ ⟨Nat.le_of_ble_eq_true rfl, Nat.le_of_ble_eq_true rfl⟩ dL_ifFired_5) (fun ce q9 H locs hw hce hcv hcl => ?_)
      refine vx_catch (own := RL) (name := "java/lang/IllegalArgumentException") E.2.2.2.1 [] (⟨0, 10, 13, 13⟩ : ExceptionTableEntry) [] (htab.trans rfl) (fun z hz => nomatch hz) (by decide) (by decide) (E.2.2.2.2.1 _ q602) (va_Nw.use rfl hX.2.2.1.1) hce hcv hcl ?_
      refine lv_astore (lv' := [(4, .ref q9), (0, .ref h0), (1, .int p1), (2, .int p2), (3, .ref c0)]) hx hb dL_ifFired_13 hl (by decide) rfl (fun ls hl => ?_)
      refine lv_iconst (v := 1) hx hb dL_ifFired_15 (by decide) ?_
      obtain ⟨he0, hr⟩ := Prod.mk.inj (Option.some.inj hf)
      obtain ⟨he1, hr⟩ := Prod.mk.inj hr
      have he2 := hr
      subst he1
      subst he2
      refine W.widen (k := 1) (n := 6) (by decide) (by decide) ?_
      exact x_iM E ad hw he0 dL_ifFired_16
    · rw [if_neg hq] at hf
      cases hf
theorem ok_L_room : yW yL_room cL_room 5 (some .int) [(0, 10, 13, 13)] 4 := ⟨q793, q0, q792, by decide +kernel, by decide +kernel, by decide +kernel⟩
set_option maxRecDepth 100000 in
set_option maxHeartbeats 4000000 in
theorem mt_L_room (l : Launch) (hfl : l.stackTraces = false) (D : va_G) (I J O : ClassId) (h0 : Nat) (n t : Nat → Nat) (b0 b1 hh ha : Nat) (ad : Nat → Nat → Nat) (c0 : Nat) (sz : Nat) (p1 : Int32) (p2 : Int32) (x : ClC) (o : FnL) (r : Int32) (y1 : FnL) (hf : f_L_room p1 p2 x o = some (r, y1)) : mW l yL_room cL_room 5 (some .int) [(0, 10, 13, 13)] 7 108 D I J O sz [.ref h0, .int p1, .int p2, .ref c0] (wCl I h0 n t b0 b1 hh x ++ wLo J c0 1 o ++ wHi I O hh ha ad x.2.2.1) (qMi D sz (wCl I h0 n t b0 b1 hh x ++ wLo J c0 1 o ++ wHi I O hh ha ad x.2.2.1) r (fun ad9 : Nat → Nat → Nat => wCl I h0 n t b0 b1 hh x ++ wLo J c0 1 y1 ++ wHi I O hh ha ad9 x.2.2.1)) := by
  refine mW_open (own := RL) rfl (by decide +kernel) (Nat.le_of_ble_eq_true rfl) (fun p e s m below meth c ls E htab hX hsz hw hl => ?_)
  obtain ⟨ws0, hws⟩ : ∃ ws0 : va_W, ws0 = wCl I h0 n t b0 b1 hh x ++ wLo J c0 1 o ++ wHi I O hh ha ad x.2.2.1 := ⟨_, rfl⟩
  have hw : fy D (va_A ws0 sz) s.heap s.heap [] (wCl I h0 n t b0 b1 hh x ++ wLo J c0 1 o ++ wHi I O hh ha ad x.2.2.1) := by rw [hws]; exact hw
  rw [← hws]
  have hx := E.1
  have hb := E.2.1
  have hl : lv_has ls 5 [(0, .ref h0), (1, .int p1), (2, .int p2), (3, .ref c0)] := hl
  unfold f_L_room at hf
  refine lv_aload_n hx hb dL_room_0 rfl (lv_at hl 3 rfl) ?_
  refine lv_iconst (v := 0) hx hb dL_room_1 (by decide) ?_
  refine lv_aload_n hx hb dL_room_2 rfl (lv_at hl 0 rfl) ?_
  refine lv_iload_n hx hb dL_room_3 rfl (lv_at hl 1 rfl) ?_
  refine lv_iload_n hx hb dL_room_4 rfl (lv_at hl 2 rfl) ?_
  rcases ct_s hf with ⟨z1, h, hf⟩ | ⟨ex, h, hf⟩
  · refine x_ci (x_rV E (As := [.int p1, .int p2]) (rest := [.int 0, .ref c0]) (mt_X5_room l D I J O h0 n t b0 b1 hh ha ad p1 p2 x z1 h) blR (x_recv E hw.1 0 5 rfl rfl rfl) (x_pcR E (va_P.part hw.1 [0, 1, 2, 3, 4, 5, 6, 7, 8, 9, 10, 11, 12, 13, 14, 15, 16, 17, 18, 19, 20, 21, 22, 23, 24, 25, 26] rfl)) ok_X5_room q794 rfl hl.1 rfl (Nat.le_of_ble_eq_true rfl) ⟨Nat.le_of_ble_eq_true rfl, Nat.le_of_ble_eq_true rfl⟩ ⟨Nat.le_of_ble_eq_true rfl, Nat.le_of_ble_eq_true rfl⟩ dL_room_5) ?_
    refine lv_i2l (v := z1.toInt64) hx hb dL_room_8 rfl ?_
    obtain ⟨g, hf⟩ := gi_s hf
    refine x_last E hw 27 rfl g dL_room_9 (fun H locs hw => ?_)
    have hw : fy D (va_A ws0 sz) s.heap H locs (wCl I h0 n t b0 b1 hh x ++ wLo J c0 1 (vp_updL o (0 : Int32).toNatClampNeg z1.toInt64) ++ wHi I O hh ha ad x.2.2.1) := hw
    refine lv_goto (tgt := 17) hx hb dL_room_10 (by decide) ?_
    refine lv_iconst (v := 0) hx hb dL_room_17 (by decide) ?_
    obtain ⟨he0, hr⟩ := Prod.mk.inj (Option.some.inj hf)
    have he1 := hr
    subst he1
    refine W.widen (k := 1) (n := 6) (by decide) (by decide) ?_
    exact x_iM E ad hw he0 dL_room_18
  · by_cases hq : ex = 1
    · rw [if_pos hq] at hf
      subst hq
      refine x_cX (en := "java/lang/IllegalArgumentException") (free := fun q => s.heap.size ≤ q) hw (fun q hq => hw.2.2.2 q hq) (x_rX E (As := [.int p1, .int p2]) (rest := [.int 0, .ref c0]) (mx_X5_room l hfl D I J O h0 n t b0 b1 hh ha ad s.heap.size p1 p2 x 1 h) blX (x_recv E hw.1 0 5 rfl rfl rfl) (x_pcX E hX rfl (va_P.part hw.1 [0, 1, 2, 3, 4, 5, 6, 7, 8, 9, 10, 11, 12, 13, 14, 15, 16, 17, 18, 19, 20, 21, 22, 23, 24, 25, 26] rfl)) ok_X5_room q794 rfl hl.1 rfl (Nat.le_of_ble_eq_true rfl) ⟨Nat.le_of_ble_eq_true rfl, Nat.le_of_ble_eq_true rfl⟩ ⟨Nat.le_of_ble_eq_true rfl, Nat.le_of_ble_eq_true rfl⟩ dL_room_5) (fun ce q9 H locs hw hce hcv hcl => ?_)
      refine vx_catch (own := RL) (name := "java/lang/IllegalArgumentException") E.2.2.2.1 [] (⟨0, 10, 13, 13⟩ : ExceptionTableEntry) [] (htab.trans rfl) (fun z hz => nomatch hz) (by decide) (by decide) (E.2.2.2.2.1 _ q602) (va_Nw.use rfl hX.2.2.1.1) hce hcv hcl ?_
      refine lv_astore (lv' := [(4, .ref q9), (0, .ref h0), (1, .int p1), (2, .int p2), (3, .ref c0)]) hx hb dL_room_13 hl (by decide) rfl (fun ls hl => ?_)
      refine lv_iconst (v := 1) hx hb dL_room_15 (by decide) ?_
      obtain ⟨he0, hr⟩ := Prod.mk.inj (Option.some.inj hf)
      have he1 := hr
      subst he1
      refine W.widen (k := 1) (n := 6) (by decide) (by decide) ?_
      exact x_iM E ad hw he0 dL_room_16
    · rw [if_neg hq] at hf
      cases hf
