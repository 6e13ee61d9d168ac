theorem ok_X3_copyFrom : yV yX3_copyFrom cX3_copyFrom 2 none 1 := ⟨q159, q2, q157, q158, by decide +kernel, by decide +kernel, by decide +kernel⟩
set_option maxRecDepth 100000 in
set_option maxHeartbeats 4000000 in
theorem mt_X3_copyFrom (l : Launch) (D : va_G) (I J O : ClassId) (n : Nat → Nat) (k : Nat → Nat) (sz : Nat)  (x : StC) (o : StC) (y0 : StC) (hf : f_X3_copyFrom x o = some y0) : mM l yX3_copyFrom cX3_copyFrom 2 none 2 39 0 0 D I J O sz [.ref (n 0), .ref (k 0)] (wSt I n x ++ wSt I k o) (qMv D sz (wSt I n x ++ wSt I k o) (fun _ : Unit => wSt I n y0 ++ wSt I k o)) := by
  refine mM_open (own := RX3) rfl (by decide +kernel) (Nat.le_of_ble_eq_true rfl) (fun p e s m below meth c ls E hnm hsz hw hl => ?_)
  obtain ⟨ws0, hws⟩ : ∃ ws0 : va_W, ws0 = wSt I n x ++ wSt I k o := ⟨_, rfl⟩
  have hw : fy D (va_A ws0 sz) s.heap s.heap [] (wSt I n x ++ wSt I k o) := by rw [hws]; exact hw
  rw [← hws]
  have hx := E.1
  have hb := E.2.1
  have hl : lv_has ls 2 [(0, .ref (n 0)), (1, .ref (k 0))] := hl
  unfold f_X3_copyFrom at hf
  refine lv_aload_n hx hb dX3_copyFrom_0 rfl (lv_at hl 0 rfl) ?_
  refine x_get E hw.1 0 rfl rfl in3 0 (by decide) q74 rfl rfl dX3_copyFrom_1 ?_
  refine lv_aload_n hx hb dX3_copyFrom_4 rfl (lv_at hl 1 rfl) ?_
  refine x_get E hw.1 12 rfl rfl in3 0 (by decide) q74 rfl rfl dX3_copyFrom_5 ?_
  obtain ⟨z1, h, hf⟩ := bd_s hf
  refine x_mv0 hw [1, 2, 3, 4, 5, 6, 7, 13, 14, 15, 16, 17, 18, 19] rfl rfl (x_rV E (As := [.ref (k 1)]) (rest := []) (mt_X2_copyFrom l D I J O (n 1) (n 2) (n 3) (n 4) (n 5) (n 6) (n 7) (k 1) (k 2) (k 3) (k 4) (k 5) (k 6) (k 7) s.heap.size x.1 o.1 z1 h) blM (x_recv E hw.1 1 2 rfl rfl rfl) (x_pcMQ0 E hw [1, 2, 3, 4, 5, 6, 7, 13, 14, 15, 16, 17, 18, 19] rfl rfl) ok_X2_copyFrom q160 rfl hl.1 rfl (Nat.le_of_ble_eq_true rfl) ⟨Nat.le_of_ble_eq_true rfl, Nat.le_of_ble_eq_true rfl⟩ ⟨Nat.le_of_ble_eq_true rfl, Nat.le_of_ble_eq_true rfl⟩ dX3_copyFrom_8) (fun _ => rfl) (fun _ H locs hw => ?_)
  have hw : fy D (va_A ws0 sz) s.heap H locs (wSt I n (z1, x.2) ++ wSt I k o) := hw
  refine lv_aload_n hx hb dX3_copyFrom_11 rfl (lv_at hl 0 rfl) ?_
  refine x_get E hw.1 0 rfl rfl in3 1 (by decide) q76 rfl rfl dX3_copyFrom_12 ?_
  refine lv_aload_n hx hb dX3_copyFrom_15 rfl (lv_at hl 1 rfl) ?_
  refine x_get E hw.1 12 rfl rfl in3 1 (by decide) q76 rfl rfl dX3_copyFrom_16 ?_
  obtain ⟨z2, h, hf⟩ := bd_s hf
  refine x_mv0 hw [8, 9, 10, 20, 21, 22] rfl rfl (x_rV E (As := [.ref (k 8)]) (rest := []) (mt_X1_copyFrom l D I J O (n 8) (n 9) (n 10) (k 8) (k 9) (k 10) H.size x.2.1 o.2.1 z2 h) blM (x_recv E hw.1 8 1 rfl rfl rfl) (x_pcMQ0 E hw [8, 9, 10, 20, 21, 22] rfl rfl) ok_X1_copyFrom q167 rfl hl.1 rfl (Nat.le_of_ble_eq_true rfl) ⟨Nat.le_of_ble_eq_true rfl, Nat.le_of_ble_eq_true rfl⟩ ⟨Nat.le_of_ble_eq_true rfl, Nat.le_of_ble_eq_true rfl⟩ dX3_copyFrom_19) (fun _ => rfl) (fun _ H locs hw => ?_)
  have hw : fy D (va_A ws0 sz) s.heap H locs (wSt I n (z1, z2, x.2.2) ++ wSt I k o) := hw
  refine lv_aload_n hx hb dX3_copyFrom_22 rfl (lv_at hl 0 rfl) ?_
  refine lv_aload_n hx hb dX3_copyFrom_23 rfl (lv_at hl 1 rfl) ?_
  refine x_get E hw.1 12 rfl rfl in3 3 (by decide) q79 rfl rfl dX3_copyFrom_24 ?_
  refine x_put E hw 0 rfl rfl in3 tyX3_ok nmX3 3 (by decide) q79 rfl rfl rfl rfl (Nat.le_of_ble_eq_true rfl) dX3_copyFrom_27 (fun H locs hw => ?_)
  have hw : fy D (va_A ws0 sz) s.heap H locs (wSt I n (z1, z2, x.2.2.1, o.2.2.2.1, x.2.2.2.2) ++ wSt I k o) := hw
  refine lv_aload_n hx hb dX3_copyFrom_30 rfl (lv_at hl 0 rfl) ?_
  refine lv_aload_n hx hb dX3_copyFrom_31 rfl (lv_at hl 1 rfl) ?_
  refine x_get E hw.1 12 rfl rfl in3 4 (by decide) q81 rfl rfl dX3_copyFrom_32 ?_
  refine x_put E hw 0 rfl rfl in3 tyX3_ok nmX3 4 (by decide) q81 rfl rfl rfl rfl (Nat.le_of_ble_eq_true rfl) dX3_copyFrom_35 (fun H locs hw => ?_)
  have hw : fy D (va_A ws0 sz) s.heap H locs (wSt I n (z1, z2, x.2.2.1, o.2.2.2.1, o.2.2.2.2.1, x.2.2.2.2.2) ++ wSt I k o) := hw
  refine lv_aload_n hx hb dX3_copyFrom_38 rfl (lv_at hl 0 rfl) ?_
  refine lv_aload_n hx hb dX3_copyFrom_39 rfl (lv_at hl 1 rfl) ?_
  refine x_get E hw.1 12 rfl rfl in3 5 (by decide) q83 rfl rfl dX3_copyFrom_40 ?_
  refine x_put E hw 0 rfl rfl in3 tyX3_ok nmX3 5 (by decide) q83 rfl rfl rfl rfl (Nat.le_of_ble_eq_true rfl) dX3_copyFrom_43 (fun H locs hw => ?_)
  have hw : fy D (va_A ws0 sz) s.heap H locs (wSt I n (z1, z2, x.2.2.1, o.2.2.2.1, o.2.2.2.2.1, o.2.2.2.2.2.1, x.2.2.2.2.2.2) ++ wSt I k o) := hw
  refine lv_aload_n hx hb dX3_copyFrom_46 rfl (lv_at hl 0 rfl) ?_
  refine lv_aload_n hx hb dX3_copyFrom_47 rfl (lv_at hl 1 rfl) ?_
  refine x_get E hw.1 12 rfl rfl in3 6 (by decide) q85 rfl rfl dX3_copyFrom_48 ?_
  refine x_put E hw 0 rfl rfl in3 tyX3_ok nmX3 6 (by decide) q85 rfl rfl rfl rfl (Nat.le_of_ble_eq_true rfl) dX3_copyFrom_51 (fun H locs hw => ?_)
  have hw : fy D (va_A ws0 sz) s.heap H locs (wSt I n (z1, z2, x.2.2.1, o.2.2.2.1, o.2.2.2.2.1, o.2.2.2.2.2.1, o.2.2.2.2.2.2) ++ wSt I k o) := hw
  have he0 := (Option.some.inj hf)
  subst he0
  exact x_vM E () hw dX3_copyFrom_54
theorem ok_X3_addAt : yV yX3_addAt cX3_addAt 6 (some .int) 4 := ⟨q247, q2, q245, q246, by decide +kernel, by decide +kernel, by decide +kernel⟩
set_option maxRecDepth 100000 in
set_option maxHeartbeats 4000000 in
theorem mt_X3_addAt (l : Launch) (D : va_G) (I J O : ClassId) (n : Nat → Nat) (sz : Nat) (p0 : Int32) (p1 : Int32) (p2 : Int32) (p3 : Int32) (x : StC) (r : Int32) (y0 : StC) (hf : f_X3_addAt p0 p1 p2 p3 x = some (r, y0)) : mM l yX3_addAt cX3_addAt 6 (some .int) 3 69 0 0 D I J O sz [.ref (n 0), .int p0, .int p1, .int p2, .int p3] (wSt I n x) (qMi D sz (wSt I n x) r (fun _ : Unit => wSt I n y0)) := by
  refine mM_open (own := RX3) rfl (by decide +kernel) (Nat.le_of_ble_eq_true rfl) (fun p e s m below meth c ls E hnm hsz hw hl => ?_)
  obtain ⟨ws0, hws⟩ : ∃ ws0 : va_W, ws0 = wSt I n x := ⟨_, rfl⟩
  have hw : fy D (va_A ws0 sz) s.heap s.heap [] (wSt I n x) := by rw [hws]; exact hw
  rw [← hws]
  have hx := E.1
  have hb := E.2.1
  have hl : lv_has ls 6 [(0, .ref (n 0)), (1, .int p0), (2, .int p1), (3, .int p2), (4, .int p3)] := hl
  unfold f_X3_addAt at hf
  refine lv_aload_n hx hb dX3_addAt_0 rfl (lv_at hl 0 rfl) ?_
  refine x_get E hw.1 0 rfl rfl in3 0 (by decide) q74 rfl rfl dX3_addAt_1 ?_
  refine lv_iload_n hx hb dX3_addAt_4 rfl (lv_at hl 3 rfl) ?_
  obtain ⟨z1, h, hf⟩ := bd_s hf
  refine x_ci (x_rV E (As := [.int p2]) (rest := []) (mt_X2_lowestFor l D I J O (n 1) (n 2) (n 3) (n 4) (n 5) (n 6) (n 7) p2 x.1 z1 h) blR (x_recv E hw.1 1 2 rfl rfl rfl) (x_pcR E (x_pick0 hw.1 [1, 2, 3, 4, 5, 6, 7] rfl)) ok_X2_lowestFor q248 rfl hl.1 rfl (Nat.le_of_ble_eq_true rfl) ⟨Nat.le_of_ble_eq_true rfl, Nat.le_of_ble_eq_true rfl⟩ ⟨Nat.le_of_ble_eq_true rfl, Nat.le_of_ble_eq_true rfl⟩ dX3_addAt_5) ?_
  refine lv_istore (lv' := [(5, .int z1), (0, .ref (n 0)), (1, .int p0), (2, .int p1), (3, .int p2), (4, .int p3)]) hx hb dX3_addAt_8 hl (by decide) rfl (fun ls hl => ?_)
  refine lv_iload hx hb dX3_addAt_10 (lv_at hl 0 rfl) ?_
  refine lv_iconst (v := (-1)) hx hb dX3_addAt_12 (by decide) ?_
  refine lv_icmp_eq (tgt := 49) hx hb dX3_addAt_13 (by decide) (fun hc => ?_) (fun hc => ?_)
  · rw [if_pos hc] at hf
    refine lv_iload hx hb dX3_addAt_49 (lv_at hl 0 rfl) ?_
    obtain ⟨he0, hr⟩ := Prod.mk.inj (Option.some.inj hf)
    have he1 := hr
    subst he1
    exact x_iM E () hw he0 dX3_addAt_51
  · rw [if_neg hc] at hf
    refine lv_aload_n hx hb dX3_addAt_16 rfl (lv_at hl 1 rfl) ?_
    refine x_get E hw.1 0 rfl rfl in3 0 (by decide) q74 rfl rfl dX3_addAt_17 ?_
    refine lv_iload hx hb dX3_addAt_20 (lv_at hl 0 rfl) ?_
    refine lv_iload_n hx hb dX3_addAt_22 rfl (lv_at hl 3 rfl) ?_
    refine lv_iload_n hx hb dX3_addAt_23 rfl (lv_at hl 4 rfl) ?_
    refine lv_iload hx hb dX3_addAt_24 (lv_at hl 5 rfl) ?_
    obtain ⟨z2, h, hf⟩ := bd_s hf
    refine x_mv0 hw [1, 2, 3, 4, 5, 6, 7] rfl rfl (x_rV E (As := [.int z1, .int p1, .int p2, .int p3]) (rest := []) (mt_X2_occupy l D I J O (n 1) (n 2) (n 3) (n 4) (n 5) (n 6) (n 7) s.heap.size z1 p1 p2 p3 x.1 z2 h) blM (x_recv E hw.1 1 2 rfl rfl rfl) (x_pcMQ0 E hw [1, 2, 3, 4, 5, 6, 7] rfl rfl) ok_X2_occupy q252 rfl hl.1 rfl (Nat.le_of_ble_eq_true rfl) ⟨Nat.le_of_ble_eq_true rfl, Nat.le_of_ble_eq_true rfl⟩ ⟨Nat.le_of_ble_eq_true rfl, Nat.le_of_ble_eq_true rfl⟩ dX3_addAt_26) (fun _ => rfl) (fun _ H locs hw => ?_)
    have hw : fy D (va_A ws0 sz) s.heap H locs (wSt I n (z2, x.2)) := hw
    refine lv_aload_n hx hb dX3_addAt_29 rfl (lv_at hl 1 rfl) ?_
    refine x_get E hw.1 0 rfl rfl in3 1 (by decide) q76 rfl rfl dX3_addAt_30 ?_
    refine lv_iload_n hx hb dX3_addAt_33 rfl (lv_at hl 2 rfl) ?_
    refine lv_iload hx hb dX3_addAt_34 (lv_at hl 0 rfl) ?_
    obtain ⟨z3, h, hf⟩ := bd_s hf
    refine x_mv0 hw [8, 9, 10] rfl rfl (x_rV E (As := [.int p0, .int z1]) (rest := []) (mt_X1_insert l D I J O (n 8) (n 9) (n 10) H.size p0 z1 x.2.1 z3 h) blM (x_recv E hw.1 8 1 rfl rfl rfl) (x_pcMQ0 E hw [8, 9, 10] rfl rfl) ok_X1_insert q260 rfl hl.1 rfl (Nat.le_of_ble_eq_true rfl) ⟨Nat.le_of_ble_eq_true rfl, Nat.le_of_ble_eq_true rfl⟩ ⟨Nat.le_of_ble_eq_true rfl, Nat.le_of_ble_eq_true rfl⟩ dX3_addAt_36) (fun _ => rfl) (fun _ H locs hw => ?_)
    have hw : fy D (va_A ws0 sz) s.heap H locs (wSt I n (z2, z3, x.2.2)) := hw
    refine lv_aload_n hx hb dX3_addAt_39 rfl (lv_at hl 1 rfl) ?_
    refine lv_dup hx hb dX3_addAt_40 rfl ?_
    refine x_get E hw.1 0 rfl rfl in3 4 (by decide) q81 rfl rfl dX3_addAt_41 ?_
    refine lv_iconst (v := 1) hx hb dX3_addAt_44 (by decide) ?_
    refine lv_iadd hx hb dX3_addAt_45 ?_
    refine x_put E hw 0 rfl rfl in3 tyX3_ok nmX3 4 (by decide) q81 rfl rfl rfl rfl (Nat.le_of_ble_eq_true rfl) dX3_addAt_46 (fun H locs hw => ?_)
    have hw : fy D (va_A ws0 sz) s.heap H locs (wSt I n (z2, z3, x.2.2.1, x.2.2.2.1, x.2.2.2.2.1 + 1, x.2.2.2.2.2)) := hw
    refine lv_iload hx hb dX3_addAt_49 (lv_at hl 0 rfl) ?_
    obtain ⟨he0, hr⟩ := Prod.mk.inj (Option.some.inj hf)
    have he1 := hr
    subst he1
    exact x_iM E () hw he0 dX3_addAt_51
theorem ok_X3_drop : yV yX3_drop cX3_drop 2 none 1 := ⟨q211, q2, q209, q210, by decide +kernel, by decide +kernel, by decide +kernel⟩
set_option maxRecDepth 100000 in
set_option maxHeartbeats 4000000 in
theorem mt_X3_drop (l : Launch) (D : va_G) (I J O : ClassId) (n : Nat → Nat) (sz : Nat) (p0 : Int32) (x : StC) (y0 : StC) (hf : f_X3_drop p0 x = some y0) : mM l yX3_drop cX3_drop 2 none 4 86 0 0 D I J O sz [.ref (n 0), .int p0] (wSt I n x) (qMv D sz (wSt I n x) (fun _ : Unit => wSt I n y0)) := by
  refine mM_open (own := RX3) rfl (by decide +kernel) (Nat.le_of_ble_eq_true rfl) (fun p e s m below meth c ls E hnm hsz hw hl => ?_)
  obtain ⟨ws0, hws⟩ : ∃ ws0 : va_W, ws0 = wSt I n x := ⟨_, rfl⟩
  have hw : fy D (va_A ws0 sz) s.heap s.heap [] (wSt I n x) := by rw [hws]; exact hw
  rw [← hws]
  have hx := E.1
  have hb := E.2.1
  have hl : lv_has ls 2 [(0, .ref (n 0)), (1, .int p0)] := hl
  unfold f_X3_drop at hf
  refine lv_aload_n hx hb dX3_drop_0 rfl (lv_at hl 0 rfl) ?_
  refine x_get E hw.1 0 rfl rfl in3 0 (by decide) q74 rfl rfl dX3_drop_1 ?_
  refine lv_iload_n hx hb dX3_drop_4 rfl (lv_at hl 1 rfl) ?_
  obtain ⟨z1, h, hf⟩ := bd_s hf
  refine x_mv0 hw [1, 2, 3, 4, 5, 6, 7] rfl rfl (x_rV E (As := [.int p0]) (rest := []) (mt_X2_release l D I J O (n 1) (n 2) (n 3) (n 4) (n 5) (n 6) (n 7) s.heap.size p0 x.1 z1 h) blM (x_recv E hw.1 1 2 rfl rfl rfl) (x_pcMQ0 E hw [1, 2, 3, 4, 5, 6, 7] rfl rfl) ok_X2_release q212 rfl hl.1 rfl (Nat.le_of_ble_eq_true rfl) ⟨Nat.le_of_ble_eq_true rfl, Nat.le_of_ble_eq_true rfl⟩ ⟨Nat.le_of_ble_eq_true rfl, Nat.le_of_ble_eq_true rfl⟩ dX3_drop_5) (fun _ => rfl) (fun _ H locs hw => ?_)
  have hw : fy D (va_A ws0 sz) s.heap H locs (wSt I n (z1, x.2)) := hw
  refine lv_aload_n hx hb dX3_drop_8 rfl (lv_at hl 0 rfl) ?_
  refine x_get E hw.1 0 rfl rfl in3 1 (by decide) q76 rfl rfl dX3_drop_9 ?_
  refine lv_iload_n hx hb dX3_drop_12 rfl (lv_at hl 1 rfl) ?_
  obtain ⟨z2, h, hf⟩ := bd_s hf
  refine x_mv0 hw [8, 9, 10] rfl rfl (x_rV E (As := [.int p0]) (rest := []) (mt_X1_bury l D I J O (n 8) (n 9) (n 10) H.size p0 x.2.1 z2 h) blM (x_recv E hw.1 8 1 rfl rfl rfl) (x_pcMQ0 E hw [8, 9, 10] rfl rfl) ok_X1_bury q220 rfl hl.1 rfl (Nat.le_of_ble_eq_true rfl) ⟨Nat.le_of_ble_eq_true rfl, Nat.le_of_ble_eq_true rfl⟩ ⟨Nat.le_of_ble_eq_true rfl, Nat.le_of_ble_eq_true rfl⟩ dX3_drop_13) (fun _ => rfl) (fun _ H locs hw => ?_)
  have hw : fy D (va_A ws0 sz) s.heap H locs (wSt I n (z1, z2, x.2.2)) := hw
  refine lv_aload_n hx hb dX3_drop_16 rfl (lv_at hl 0 rfl) ?_
  refine lv_dup hx hb dX3_drop_17 rfl ?_
  refine x_get E hw.1 0 rfl rfl in3 5 (by decide) q83 rfl rfl dX3_drop_18 ?_
  refine lv_iconst (v := 1) hx hb dX3_drop_21 (by decide) ?_
  refine lv_iadd hx hb dX3_drop_22 ?_
  refine x_put E hw 0 rfl rfl in3 tyX3_ok nmX3 5 (by decide) q83 rfl rfl rfl rfl (Nat.le_of_ble_eq_true rfl) dX3_drop_23 (fun H locs hw => ?_)
  have hw : fy D (va_A ws0 sz) s.heap H locs (wSt I n (z1, z2, x.2.2.1, x.2.2.2.1, x.2.2.2.2.1, x.2.2.2.2.2.1 + 1, x.2.2.2.2.2.2)) := hw
  have he0 := (Option.some.inj hf)
  subst he0
  exact x_vM E () hw dX3_drop_26
theorem ok_X3_fireThings : yV yX3_fireThings cX3_fireThings 7 (some .int) 0 := ⟨q175, q2, q173, q174, by decide +kernel, by decide +kernel, by decide +kernel⟩
set_option maxRecDepth 100000 in
set_option maxHeartbeats 4000000 in
theorem k_X3_fireThings_16 {p : Program} {l : Launch} {e : Env} {s : State} {m : MethodId} {args : Array Value} {below : List Frame} {meth : Method} {c : Code} {D : va_G} {I J O : ClassId} (E : fx p s m args meth c cX3_fireThings RX3 7 (some .int) D I J O) (n : Nat → Nat)  {ws0 : va_W} {sz : Nat} (r : Int32) (y0 : StC) : ∀ fu : Nat, ∀ (v1 : Int32) (v2 : Int32) (v3 : Int32) (x : StC), f_X3_fireThings_16 fu v1 v2 v3 x = some (r, y0) → ∀ (H : Heap) (locs : List Loc), fy D (va_A ws0 sz) s.heap H locs (wSt I n x) → ∀ ls : Array Slot, lv_has ls 7 [(0, .ref (n 0)), (1, .int v1), (2, .int v2), (3, .int v3)] → W p l e (rmB 5 107 0 0) s m args below meth c H locs 0 0 (MQ below (qMi D sz ws0 r (fun _ : Unit => wSt I n y0)) args s 0 0 (va_A ws0 sz)) (F0 m 16 ls []) := by
  have hx := E.1
  have hb := E.2.1
  intro fu
  induction fu with
  | zero =>
    intro v1 v2 v3 x hf H locs hw ls hl
    rw [f_X3_fireThings_16.eq_1] at hf
    cases hf
  | succ fu ih =>
    intro v1 v2 v3 x hf H locs hw ls hl
    rw [f_X3_fireThings_16.eq_2] at hf
    refine lv_iload_n hx hb dX3_fireThings_16 rfl (lv_at hl 3 rfl) ?_
    refine lv_iload_n hx hb dX3_fireThings_17 rfl (lv_at hl 1 rfl) ?_
    refine lv_icmp_ge (tgt := 127) hx hb dX3_fireThings_18 (by decide) (fun hc => ?_) (fun hc => ?_)
    · rw [if_pos hc] at hf
      refine lv_aload_n hx hb dX3_fireThings_127 rfl (lv_at hl 0 rfl) ?_
      refine lv_dup hx hb dX3_fireThings_128 rfl ?_
      refine x_get E hw.1 0 rfl rfl in3 3 (by decide) q79 rfl rfl dX3_fireThings_129 ?_
      refine lv_iconst (v := 1) hx hb dX3_fireThings_132 (by decide) ?_
      refine lv_iadd hx hb dX3_fireThings_133 ?_
      refine x_put E hw 0 rfl rfl in3 tyX3_ok nmX3 3 (by decide) q79 rfl rfl rfl rfl (Nat.le_of_ble_eq_true rfl) dX3_fireThings_134 (fun H locs hw => ?_)
      have hw : fy D (va_A ws0 sz) s.heap H locs (wSt I n (x.1, x.2.1, x.2.2.1, x.2.2.2.1 + 1, x.2.2.2.2)) := hw
      refine lv_iload_n hx hb dX3_fireThings_137 rfl (lv_at hl 2 rfl) ?_
      obtain ⟨he0, hr⟩ := Prod.mk.inj (Option.some.inj hf)
      have he1 := hr
      subst he1
      exact x_iM E () hw he0 dX3_fireThings_138
    · rw [if_neg hc] at hf
      refine lv_aload_n hx hb dX3_fireThings_21 rfl (lv_at hl 0 rfl) ?_
      refine x_get E hw.1 0 rfl rfl in3 2 (by decide) q78 rfl rfl dX3_fireThings_22 ?_
      refine lv_iload_n hx hb dX3_fireThings_25 rfl (lv_at hl 3 rfl) ?_
      obtain ⟨g, hf⟩ := gi_s hf
      refine x_ald E hw.1 11 rfl g dX3_fireThings_26 ?_
      refine lv_istore (lv' := [(4, .int (x.2.2.1 v3.toNatClampNeg)), (0, .ref (n 0)), (1, .int v1), (2, .int v2), (3, .int v3)]) hx hb dX3_fireThings_27 hl (by decide) rfl (fun ls hl => ?_)
      refine lv_aload_n hx hb dX3_fireThings_29 rfl (lv_at hl 1 rfl) ?_
      refine x_get E hw.1 0 rfl rfl in3 0 (by decide) q74 rfl rfl dX3_fireThings_30 ?_
      refine lv_iload hx hb dX3_fireThings_33 (lv_at hl 0 rfl) ?_
      obtain ⟨z2, h, hf⟩ := bd_s hf
      refine x_ci (x_rV E (As := [.int (x.2.2.1 v3.toNatClampNeg)]) (rest := []) (mt_X2_valueAt l D I J O (n 1) (n 2) (n 3) (n 4) (n 5) (n 6) (n 7) (x.2.2.1 v3.toNatClampNeg) x.1 z2 h) blR (x_recv E hw.1 1 2 rfl rfl rfl) (x_pcR E (x_pick0 hw.1 [1, 2, 3, 4, 5, 6, 7] rfl)) ok_X2_valueAt q188 rfl hl.1 rfl (Nat.le_of_ble_eq_true rfl) ⟨Nat.le_of_ble_eq_true rfl, Nat.le_of_ble_eq_true rfl⟩ ⟨Nat.le_of_ble_eq_true rfl, Nat.le_of_ble_eq_true rfl⟩ dX3_fireThings_35) ?_
      refine lv_istore (lv' := [(5, .int z2), (4, .int (x.2.2.1 v3.toNatClampNeg)), (0, .ref (n 0)), (1, .int v1), (2, .int v2), (3, .int v3)]) hx hb dX3_fireThings_38 hl (by decide) rfl (fun ls hl => ?_)
      refine lv_aload_n hx hb dX3_fireThings_40 rfl (lv_at hl 2 rfl) ?_
      refine x_get E hw.1 0 rfl rfl in3 0 (by decide) q74 rfl rfl dX3_fireThings_41 ?_
      refine lv_iload hx hb dX3_fireThings_44 (lv_at hl 1 rfl) ?_
      obtain ⟨z3, h, hf⟩ := bd_s hf
      refine x_ci (x_rV E (As := [.int (x.2.2.1 v3.toNatClampNeg)]) (rest := []) (mt_X2_kindAt l D I J O (n 1) (n 2) (n 3) (n 4) (n 5) (n 6) (n 7) (x.2.2.1 v3.toNatClampNeg) x.1 z3 h) blR (x_recv E hw.1 1 2 rfl rfl rfl) (x_pcR E (x_pick0 hw.1 [1, 2, 3, 4, 5, 6, 7] rfl)) ok_X2_kindAt q196 rfl hl.1 rfl (Nat.le_of_ble_eq_true rfl) ⟨Nat.le_of_ble_eq_true rfl, Nat.le_of_ble_eq_true rfl⟩ ⟨Nat.le_of_ble_eq_true rfl, Nat.le_of_ble_eq_true rfl⟩ dX3_fireThings_46) ?_
      refine lv_istore (lv' := [(6, .int z3), (5, .int z2), (4, .int (x.2.2.1 v3.toNatClampNeg)), (0, .ref (n 0)), (1, .int v1), (2, .int v2), (3, .int v3)]) hx hb dX3_fireThings_49 hl (by decide) rfl (fun ls hl => ?_)
      refine lv_iload_n hx hb dX3_fireThings_51 rfl (lv_at hl 5 rfl) ?_
      refine lv_iload hx hb dX3_fireThings_52 (lv_at hl 1 rfl) ?_
      refine lv_iadd hx hb dX3_fireThings_54 ?_
      refine lv_istore_n (lv' := [(2, .int (v2 + z2)), (6, .int z3), (5, .int z2), (4, .int (x.2.2.1 v3.toNatClampNeg)), (0, .ref (n 0)), (1, .int v1), (3, .int v3)]) hx hb dX3_fireThings_55 rfl hl (by decide) rfl (fun ls hl => ?_)
      refine lv_aload_n hx hb dX3_fireThings_56 rfl (lv_at hl 4 rfl) ?_
      refine x_get E hw.1 0 rfl rfl in3 0 (by decide) q74 rfl rfl dX3_fireThings_57 ?_
      refine lv_iload hx hb dX3_fireThings_60 (lv_at hl 3 rfl) ?_
      refine lv_aload_n hx hb dX3_fireThings_62 rfl (lv_at hl 4 rfl) ?_
      refine x_get E hw.1 0 rfl rfl in3 0 (by decide) q74 rfl rfl dX3_fireThings_63 ?_
      refine lv_iload hx hb dX3_fireThings_66 (lv_at hl 3 rfl) ?_
      obtain ⟨z4, h, hf⟩ := bd_s hf
      refine x_ci (x_rV E (As := [.int (x.2.2.1 v3.toNatClampNeg)]) (rest := [.int (x.2.2.1 v3.toNatClampNeg), .ref (n 1)]) (mt_X2_timesFired l D I J O (n 1) (n 2) (n 3) (n 4) (n 5) (n 6) (n 7) (x.2.2.1 v3.toNatClampNeg) x.1 z4 h) blR (x_recv E hw.1 1 2 rfl rfl rfl) (x_pcR E (x_pick0 hw.1 [1, 2, 3, 4, 5, 6, 7] rfl)) ok_X2_timesFired q200 rfl hl.1 rfl (Nat.le_of_ble_eq_true rfl) ⟨Nat.le_of_ble_eq_true rfl, Nat.le_of_ble_eq_true rfl⟩ ⟨Nat.le_of_ble_eq_true rfl, Nat.le_of_ble_eq_true rfl⟩ dX3_fireThings_68) ?_
      refine lv_iconst (v := 1) hx hb dX3_fireThings_71 (by decide) ?_
      refine lv_iadd hx hb dX3_fireThings_72 ?_
      obtain ⟨z5, h, hf⟩ := bd_s hf
      refine x_mv0 hw [1, 2, 3, 4, 5, 6, 7] rfl rfl (x_rV E (As := [.int (x.2.2.1 v3.toNatClampNeg), .int (z4 + 1)]) (rest := []) (mt_X2_setTimesFired l D I J O (n 1) (n 2) (n 3) (n 4) (n 5) (n 6) (n 7) H.size (x.2.2.1 v3.toNatClampNeg) (z4 + 1) x.1 z5 h) blM (x_recv E hw.1 1 2 rfl rfl rfl) (x_pcMQ0 E hw [1, 2, 3, 4, 5, 6, 7] rfl rfl) ok_X2_setTimesFired q204 rfl hl.1 rfl (Nat.le_of_ble_eq_true rfl) ⟨Nat.le_of_ble_eq_true rfl, Nat.le_of_ble_eq_true rfl⟩ ⟨Nat.le_of_ble_eq_true rfl, Nat.le_of_ble_eq_true rfl⟩ dX3_fireThings_73) (fun _ => rfl) (fun _ H locs hw => ?_)
      have hw : fy D (va_A ws0 sz) s.heap H locs (wSt I n (z5, x.2)) := hw
      refine lv_iload hx hb dX3_fireThings_76 (lv_at hl 1 rfl) ?_
      refine lv_iconst (v := 1) hx hb dX3_fireThings_78 (by decide) ?_
      refine lv_icmp_ne (tgt := 91) hx hb dX3_fireThings_79 (by decide) (fun hc => ?_) (fun hc => ?_)
      · rw [if_neg hc] at hf
        refine lv_iload hx hb dX3_fireThings_91 (lv_at hl 1 rfl) ?_
        refine lv_iconst (v := 2) hx hb dX3_fireThings_93 (by decide) ?_
        refine lv_icmp_ne (tgt := 121) hx hb dX3_fireThings_94 (by decide) (fun hc => ?_) (fun hc => ?_)
        · rw [if_neg hc] at hf
          refine lv_iinc (v := v3 + 1) (lv' := [(3, .int (v3 + 1)), (2, .int (v2 + z2)), (6, .int z3), (5, .int z2), (4, .int (x.2.2.1 v3.toNatClampNeg)), (0, .ref (n 0)), (1, .int v1)]) hx hb dX3_fireThings_121 hl (k := 6) rfl rfl (by decide) rfl (fun ls hl => ?_)
          refine lv_goto (tgt := 16) hx hb dX3_fireThings_124 (by decide) ?_
          exact ih v1 (v2 + z2) (v3 + 1) (z5, x.2) hf _ _ hw _ (lv_sub hl [5, 6, 1, 0] rfl)
        · rw [if_pos hc] at hf
          refine lv_aload_n hx hb dX3_fireThings_97 rfl (lv_at hl 4 rfl) ?_
          refine lv_aload_n hx hb dX3_fireThings_98 rfl (lv_at hl 4 rfl) ?_
          refine x_get E hw.1 0 rfl rfl in3 1 (by decide) q76 rfl rfl dX3_fireThings_99 ?_
          obtain ⟨z6, h, hf⟩ := bd_s hf
          refine x_ci (x_rV E (As := []) (rest := [.ref (n 0)]) (mt_X1_size l D I J O (n 8) (n 9) (n 10) x.2.1 z6 h) blR (x_recv E hw.1 8 1 rfl rfl rfl) (x_pcR E (x_pick0 hw.1 [8, 9, 10] rfl)) ok_X1_size q236 rfl hl.1 rfl (Nat.le_of_ble_eq_true rfl) ⟨Nat.le_of_ble_eq_true rfl, Nat.le_of_ble_eq_true rfl⟩ ⟨Nat.le_of_ble_eq_true rfl, Nat.le_of_ble_eq_true rfl⟩ dX3_fireThings_102) ?_
          refine lv_iload hx hb dX3_fireThings_105 (lv_at hl 2 rfl) ?_
          refine lv_aload_n hx hb dX3_fireThings_107 rfl (lv_at hl 4 rfl) ?_
          refine x_get E hw.1 0 rfl rfl in3 0 (by decide) q74 rfl rfl dX3_fireThings_108 ?_
          refine lv_iload hx hb dX3_fireThings_111 (lv_at hl 3 rfl) ?_
          obtain ⟨z7, h, hf⟩ := bd_s hf
          refine x_ci (x_rV E (As := [.int (x.2.2.1 v3.toNatClampNeg)]) (rest := [.int z2, .int z6, .ref (n 0)]) (mt_X2_sizeAt l D I J O (n 1) (n 2) (n 3) (n 4) (n 5) (n 6) (n 7) (x.2.2.1 v3.toNatClampNeg) z5 z7 h) blR (x_recv E hw.1 1 2 rfl rfl rfl) (x_pcR E (x_pick0 hw.1 [1, 2, 3, 4, 5, 6, 7] rfl)) ok_X2_sizeAt q240 rfl hl.1 rfl (Nat.le_of_ble_eq_true rfl) ⟨Nat.le_of_ble_eq_true rfl, Nat.le_of_ble_eq_true rfl⟩ ⟨Nat.le_of_ble_eq_true rfl, Nat.le_of_ble_eq_true rfl⟩ dX3_fireThings_113) ?_
          refine lv_iconst (v := 0) hx hb dX3_fireThings_116 (by decide) ?_
          obtain ⟨z8, h, hf⟩ := bd_s hf
          refine x_mi0 hw [0, 1, 2, 3, 4, 5, 6, 7, 8, 9, 10, 11] rfl rfl (x_rV E (As := [.int z6, .int z2, .int z7, .int 0]) (rest := []) (mt_X3_addAt l D I J O n H.size z6 z2 z7 0 (z5, x.2) z8.1 z8.2 h) blM (x_recv E hw.1 0 3 rfl rfl rfl) (x_pcMQ0 E hw [0, 1, 2, 3, 4, 5, 6, 7, 8, 9, 10, 11] rfl rfl) ok_X3_addAt q244 rfl hl.1 rfl (Nat.le_of_ble_eq_true rfl) ⟨Nat.le_of_ble_eq_true rfl, Nat.le_of_ble_eq_true rfl⟩ ⟨Nat.le_of_ble_eq_true rfl, Nat.le_of_ble_eq_true rfl⟩ dX3_fireThings_117) (fun _ => rfl) (fun _ H locs hw => ?_)
          have hw : fy D (va_A ws0 sz) s.heap H locs (wSt I n z8.2) := hw
          refine lv_pop hx hb dX3_fireThings_120 rfl ?_
          refine lv_iinc (v := v3 + 1) (lv' := [(3, .int (v3 + 1)), (2, .int (v2 + z2)), (6, .int z3), (5, .int z2), (4, .int (x.2.2.1 v3.toNatClampNeg)), (0, .ref (n 0)), (1, .int v1)]) hx hb dX3_fireThings_121 hl (k := 6) rfl rfl (by decide) rfl (fun ls hl => ?_)
          refine lv_goto (tgt := 16) hx hb dX3_fireThings_124 (by decide) ?_
          exact ih v1 (v2 + z2) (v3 + 1) z8.2 hf _ _ hw _ (lv_sub hl [5, 6, 1, 0] rfl)
      · rw [if_pos hc] at hf
        refine lv_aload_n hx hb dX3_fireThings_82 rfl (lv_at hl 4 rfl) ?_
        refine lv_iload hx hb dX3_fireThings_83 (lv_at hl 3 rfl) ?_
        obtain ⟨z9, h, hf⟩ := bd_s hf
        refine x_mv0 hw [0, 1, 2, 3, 4, 5, 6, 7, 8, 9, 10, 11] rfl rfl (x_rV E (As := [.int (x.2.2.1 v3.toNatClampNeg)]) (rest := []) (mt_X3_drop l D I J O n H.size (x.2.2.1 v3.toNatClampNeg) (z5, x.2) z9 h) blM (x_recv E hw.1 0 3 rfl rfl rfl) (x_pcMQ0 E hw [0, 1, 2, 3, 4, 5, 6, 7, 8, 9, 10, 11] rfl rfl) ok_X3_drop q208 rfl hl.1 rfl (Nat.le_of_ble_eq_true rfl) ⟨Nat.le_of_ble_eq_true rfl, Nat.le_of_ble_eq_true rfl⟩ ⟨Nat.le_of_ble_eq_true rfl, Nat.le_of_ble_eq_true rfl⟩ dX3_fireThings_85) (fun _ => rfl) (fun _ H locs hw => ?_)
        have hw : fy D (va_A ws0 sz) s.heap H locs (wSt I n z9) := hw
        refine lv_goto (tgt := 121) hx hb dX3_fireThings_88 (by decide) ?_
        refine lv_iinc (v := v3 + 1) (lv' := [(3, .int (v3 + 1)), (2, .int (v2 + z2)), (6, .int z3), (5, .int z2), (4, .int (x.2.2.1 v3.toNatClampNeg)), (0, .ref (n 0)), (1, .int v1)]) hx hb dX3_fireThings_121 hl (k := 6) rfl rfl (by decide) rfl (fun ls hl => ?_)
        refine lv_goto (tgt := 16) hx hb dX3_fireThings_124 (by decide) ?_
        exact ih v1 (v2 + z2) (v3 + 1) z9 hf _ _ hw _ (lv_sub hl [5, 6, 1, 0] rfl)
set_option maxRecDepth 100000 in
set_option maxHeartbeats 4000000 in
theorem mt_X3_fireThings (l : Launch) (D : va_G) (I J O : ClassId) (n : Nat → Nat) (sz : Nat)  (x : StC) (r : Int32) (y0 : StC) (hf : f_X3_fireThings x = some (r, y0)) : mM l yX3_fireThings cX3_fireThings 7 (some .int) 5 107 0 0 D I J O sz [.ref (n 0)] (wSt I n x) (qMi D sz (wSt I n x) r (fun _ : Unit => wSt I n y0)) := by
  refine mM_open (own := RX3) rfl (by decide +kernel) (Nat.le_of_ble_eq_true rfl) (fun p e s m below meth c ls E hnm hsz hw hl => ?_)
  obtain ⟨ws0, hws⟩ : ∃ ws0 : va_W, ws0 = wSt I n x := ⟨_, rfl⟩
  have hw : fy D (va_A ws0 sz) s.heap s.heap [] (wSt I n x) := by rw [hws]; exact hw
  rw [← hws]
  have hx := E.1
  have hb := E.2.1
  have hl : lv_has ls 7 [(0, .ref (n 0))] := hl
  unfold f_X3_fireThings at hf
  refine lv_aload_n hx hb dX3_fireThings_0 rfl (lv_at hl 0 rfl) ?_
  refine x_get E hw.1 0 rfl rfl in3 1 (by decide) q76 rfl rfl dX3_fireThings_1 ?_
  refine lv_aload_n hx hb dX3_fireThings_4 rfl (lv_at hl 0 rfl) ?_
  refine x_get E hw.1 0 rfl rfl in3 2 (by decide) q78 rfl rfl dX3_fireThings_5 ?_
  obtain ⟨z1, h, hf⟩ := bd_s hf
  refine x_mi0 hw [8, 9, 10, 11] rfl rfl (x_rV E (As := [.ref (n 11)]) (rest := []) (mt_X1_list l D I J O (n 8) (n 9) (n 10) (n 11) s.heap.size x.2.1 x.2.2.1 z1.1 z1.2 h) blM (x_recv E hw.1 8 1 rfl rfl rfl) (x_pcMQ0 E hw [8, 9, 10, 11] rfl rfl) ok_X1_list q176 rfl hl.1 rfl (Nat.le_of_ble_eq_true rfl) ⟨Nat.le_of_ble_eq_true rfl, Nat.le_of_ble_eq_true rfl⟩ ⟨Nat.le_of_ble_eq_true rfl, Nat.le_of_ble_eq_true rfl⟩ dX3_fireThings_8) (fun _ => rfl) (fun _ H locs hw => ?_)
  have hw : fy D (va_A ws0 sz) s.heap H locs (wSt I n (x.1, x.2.1, z1.2, x.2.2.2)) := hw
  refine lv_istore_n (lv' := [(1, .int z1.1), (0, .ref (n 0))]) hx hb dX3_fireThings_11 rfl hl (by decide) rfl (fun ls hl => ?_)
  refine lv_iconst (v := 0) hx hb dX3_fireThings_12 (by decide) ?_
  refine lv_istore_n (lv' := [(2, .int 0), (1, .int z1.1), (0, .ref (n 0))]) hx hb dX3_fireThings_13 rfl hl (by decide) rfl (fun ls hl => ?_)
  refine lv_iconst (v := 0) hx hb dX3_fireThings_14 (by decide) ?_
  refine lv_istore_n (lv' := [(3, .int 0), (2, .int 0), (1, .int z1.1), (0, .ref (n 0))]) hx hb dX3_fireThings_15 rfl hl (by decide) rfl (fun ls hl => ?_)
  exact k_X3_fireThings_16 E n r y0 FU z1.1 0 0 (x.1, x.2.1, z1.2, x.2.2.2) hf _ _ hw _ (lv_sub hl [3, 2, 1, 0] rfl)
theorem ok_X3_moveThings : yV yX3_moveThings cX3_moveThings 6 (some .int) 0 := ⟨q271, q2, q269, q270, by decide +kernel, by decide +kernel, by decide +kernel⟩
set_option maxRecDepth 100000 in
set_option maxHeartbeats 4000000 in
theorem k_X3_moveThings_66 {p : Program} {l : Launch} {e : Env} {s : State} {m : MethodId} {args : Array Value} {below : List Frame} {meth : Method} {c : Code} {D : va_G} {I J O : ClassId} (E : fx p s m args meth c cX3_moveThings RX3 6 (some .int) D I J O) (n : Nat → Nat)  {ws0 : va_W} {sz : Nat} (r : Int32) (y0 : StC) (k15 : Int32 → Int32 → Int32 → Int32 → StC → Option (Int32 × StC)) (hk15 : ∀ (v1 : Int32) (v2 : Int32) (v3 : Int32) (v4 : Int32) (x : StC), k15 v1 v2 v3 v4 x = some (r, y0) → ∀ (H : Heap) (locs : List Loc), fy D (va_A ws0 sz) s.heap H locs (wSt I n x) → ∀ ls : Array Slot, lv_has ls 6 [(0, .ref (n 0)), (1, .int v1), (2, .int v2), (3, .int v3), (4, .int v4)] → W p l e (rmB 4 95 0 0) s m args below meth c H locs 0 0 (MQ below (qMi D sz ws0 r (fun _ : Unit => wSt I n y0)) args s 0 0 (va_A ws0 sz)) (F0 m 15 ls [])) : ∀ (v1 : Int32) (v2 : Int32) (v3 : Int32) (v4 : Int32) (v5 : Int32) (x : StC), f_X3_moveThings_66 k15 v1 v2 v3 v4 v5 x = some (r, y0) → ∀ (H : Heap) (locs : List Loc), fy D (va_A ws0 sz) s.heap H locs (wSt I n x) → ∀ ls : Array Slot, lv_has ls 6 [(0, .ref (n 0)), (1, .int v1), (2, .int v2), (3, .int v3), (4, .int v4), (5, .int v5)] → W p l e (rmB 4 95 0 0) s m args below meth c H locs 0 0 (MQ below (qMi D sz ws0 r (fun _ : Unit => wSt I n y0)) args s 0 0 (va_A ws0 sz)) (F0 m 66 ls []) := by
  have hx := E.1
  have hb := E.2.1
  intro v1 v2 v3 v4 v5 x hf H locs hw ls hl
  unfold f_X3_moveThings_66 at hf
  refine lv_iload_n hx hb dX3_moveThings_66 rfl (lv_at hl 2 rfl) ?_
  refine lv_iload hx hb dX3_moveThings_67 (lv_at hl 5 rfl) ?_
  refine lv_iadd hx hb dX3_moveThings_69 ?_
  refine lv_istore_n (lv' := [(2, .int (v2 + v5)), (0, .ref (n 0)), (1, .int v1), (3, .int v3), (4, .int v4), (5, .int v5)]) hx hb dX3_moveThings_70 rfl hl (by decide) rfl (fun ls hl => ?_)
  refine lv_iinc (v := v4 + 1) (lv' := [(4, .int (v4 + 1)), (2, .int (v2 + v5)), (0, .ref (n 0)), (1, .int v1), (3, .int v3), (5, .int v5)]) hx hb dX3_moveThings_71 hl (k := 4) rfl rfl (by decide) rfl (fun ls hl => ?_)
  refine lv_goto (tgt := 15) hx hb dX3_moveThings_74 (by decide) ?_
  exact hk15 v1 (v2 + v5) v3 (v4 + 1) x hf _ _ hw _ (lv_sub hl [2, 3, 1, 4, 0] rfl)
set_option maxRecDepth 100000 in
set_option maxHeartbeats 4000000 in
theorem k_X3_moveThings_15 {p : Program} {l : Launch} {e : Env} {s : State} {m : MethodId} {args : Array Value} {below : List Frame} {meth : Method} {c : Code} {D : va_G} {I J O : ClassId} (E : fx p s m args meth c cX3_moveThings RX3 6 (some .int) D I J O) (n : Nat → Nat)  {ws0 : va_W} {sz : Nat} (r : Int32) (y0 : StC) : ∀ fu : Nat, ∀ (v1 : Int32) (v2 : Int32) (v3 : Int32) (v4 : Int32) (x : StC), f_X3_moveThings_15 fu v1 v2 v3 v4 x = some (r, y0) → ∀ (H : Heap) (locs : List Loc), fy D (va_A ws0 sz) s.heap H locs (wSt I n x) → ∀ ls : Array Slot, lv_has ls 6 [(0, .ref (n 0)), (1, .int v1), (2, .int v2), (3, .int v3), (4, .int v4)] → W p l e (rmB 4 95 0 0) s m args below meth c H locs 0 0 (MQ below (qMi D sz ws0 r (fun _ : Unit => wSt I n y0)) args s 0 0 (va_A ws0 sz)) (F0 m 15 ls []) := by
  have hx := E.1
  have hb := E.2.1
  intro fu
  induction fu with
  | zero =>
    intro v1 v2 v3 v4 x hf H locs hw ls hl
    rw [f_X3_moveThings_15.eq_1] at hf
    cases hf
  | succ fu ih =>
    intro v1 v2 v3 v4 x hf H locs hw ls hl
    rw [f_X3_moveThings_15.eq_2] at hf
    refine lv_iload hx hb dX3_moveThings_15 (lv_at hl 4 rfl) ?_
    refine lv_iload_n hx hb dX3_moveThings_17 rfl (lv_at hl 3 rfl) ?_
    refine lv_icmp_ge (tgt := 77) hx hb dX3_moveThings_18 (by decide) (fun hc => ?_) (fun hc => ?_)
    · rw [if_pos hc] at hf
      refine lv_aload_n hx hb dX3_moveThings_77 rfl (lv_at hl 0 rfl) ?_
      refine lv_dup hx hb dX3_moveThings_78 rfl ?_
      refine x_get E hw.1 0 rfl rfl in3 6 (by decide) q85 rfl rfl dX3_moveThings_79 ?_
      refine lv_iload_n hx hb dX3_moveThings_82 rfl (lv_at hl 1 rfl) ?_
      refine lv_iadd hx hb dX3_moveThings_83 ?_
      refine x_put E hw 0 rfl rfl in3 tyX3_ok nmX3 6 (by decide) q85 rfl rfl rfl rfl (Nat.le_of_ble_eq_true rfl) dX3_moveThings_84 (fun H locs hw => ?_)
      have hw : fy D (va_A ws0 sz) s.heap H locs (wSt I n (x.1, x.2.1, x.2.2.1, x.2.2.2.1, x.2.2.2.2.1, x.2.2.2.2.2.1, x.2.2.2.2.2.2 + v1)) := hw
      refine lv_iload_n hx hb dX3_moveThings_87 rfl (lv_at hl 1 rfl) ?_
      obtain ⟨he0, hr⟩ := Prod.mk.inj (Option.some.inj hf)
      have he1 := hr
      subst he1
      exact x_iM E () hw he0 dX3_moveThings_88
    · rw [if_neg hc] at hf
      refine lv_aload_n hx hb dX3_moveThings_21 rfl (lv_at hl 0 rfl) ?_
      refine x_get E hw.1 0 rfl rfl in3 0 (by decide) q74 rfl rfl dX3_moveThings_22 ?_
      refine lv_iload hx hb dX3_moveThings_25 (lv_at hl 4 rfl) ?_
      obtain ⟨z2, h, hf⟩ := bd_s hf
      refine x_ci (x_rV E (As := [.int v4]) (rest := []) (mt_X2_sizeAt l D I J O (n 1) (n 2) (n 3) (n 4) (n 5) (n 6) (n 7) v4 x.1 z2 h) blR (x_recv E hw.1 1 2 rfl rfl rfl) (x_pcR E (x_pick0 hw.1 [1, 2, 3, 4, 5, 6, 7] rfl)) ok_X2_sizeAt q240 rfl hl.1 rfl (Nat.le_of_ble_eq_true rfl) ⟨Nat.le_of_ble_eq_true rfl, Nat.le_of_ble_eq_true rfl⟩ ⟨Nat.le_of_ble_eq_true rfl, Nat.le_of_ble_eq_true rfl⟩ dX3_moveThings_27) ?_
      refine lv_istore (lv' := [(5, .int z2), (0, .ref (n 0)), (1, .int v1), (2, .int v2), (3, .int v3), (4, .int v4)]) hx hb dX3_moveThings_30 hl (by decide) rfl (fun ls hl => ?_)
      refine lv_iload hx hb dX3_moveThings_32 (lv_at hl 0 rfl) ?_
      refine lv_if_le (tgt := 66) hx hb dX3_moveThings_34 (by decide) (fun hc => ?_) (fun hc => ?_)
      · rw [if_pos hc] at hf
        exact k_X3_moveThings_66 E n r y0 (f_X3_moveThings_15 fu) ih v1 v2 v3 v4 z2 x hf _ _ hw _ (lv_sub hl [1, 2, 3, 4, 5, 0] rfl)
      · rw [if_neg hc] at hf
        refine lv_iload hx hb dX3_moveThings_37 (lv_at hl 5 rfl) ?_
        refine lv_iload_n hx hb dX3_moveThings_39 rfl (lv_at hl 3 rfl) ?_
        refine lv_icmp_eq (tgt := 66) hx hb dX3_moveThings_40 (by decide) (fun hc => ?_) (fun hc => ?_)
        · rw [if_pos hc] at hf
          exact k_X3_moveThings_66 E n r y0 (f_X3_moveThings_15 fu) ih v1 v2 v3 v4 z2 x hf _ _ hw _ (lv_sub hl [1, 2, 3, 4, 5, 0] rfl)
        · rw [if_neg hc] at hf
          refine lv_aload_n hx hb dX3_moveThings_43 rfl (lv_at hl 1 rfl) ?_
          refine x_get E hw.1 0 rfl rfl in3 0 (by decide) q74 rfl rfl dX3_moveThings_44 ?_
          refine lv_iload hx hb dX3_moveThings_47 (lv_at hl 5 rfl) ?_
          refine lv_iload_n hx hb dX3_moveThings_49 rfl (lv_at hl 3 rfl) ?_
          obtain ⟨z3, h, hf⟩ := bd_s hf
          refine x_mv0 hw [1, 2, 3, 4, 5, 6, 7] rfl rfl (x_rV E (As := [.int v4, .int v2]) (rest := []) (mt_X2_carry l D I J O (n 1) (n 2) (n 3) (n 4) (n 5) (n 6) (n 7) H.size v4 v2 x.1 z3 h) blM (x_recv E hw.1 1 2 rfl rfl rfl) (x_pcMQ0 E hw [1, 2, 3, 4, 5, 6, 7] rfl rfl) ok_X2_carry q276 rfl hl.1 rfl (Nat.le_of_ble_eq_true rfl) ⟨Nat.le_of_ble_eq_true rfl, Nat.le_of_ble_eq_true rfl⟩ ⟨Nat.le_of_ble_eq_true rfl, Nat.le_of_ble_eq_true rfl⟩ dX3_moveThings_50) (fun _ => rfl) (fun _ H locs hw => ?_)
          have hw : fy D (va_A ws0 sz) s.heap H locs (wSt I n (z3, x.2)) := hw
          refine lv_aload_n hx hb dX3_moveThings_53 rfl (lv_at hl 1 rfl) ?_
          refine x_get E hw.1 0 rfl rfl in3 1 (by decide) q76 rfl rfl dX3_moveThings_54 ?_
          refine lv_iload hx hb dX3_moveThings_57 (lv_at hl 5 rfl) ?_
          refine lv_iload_n hx hb dX3_moveThings_59 rfl (lv_at hl 3 rfl) ?_
          obtain ⟨z4, h, hf⟩ := bd_s hf
          refine x_mv0 hw [8, 9, 10] rfl rfl (x_rV E (As := [.int v4, .int v2]) (rest := []) (mt_X1_rename l D I J O (n 8) (n 9) (n 10) H.size v4 v2 x.2.1 z4 h) blM (x_recv E hw.1 8 1 rfl rfl rfl) (x_pcMQ0 E hw [8, 9, 10] rfl rfl) ok_X1_rename q287 rfl hl.1 rfl (Nat.le_of_ble_eq_true rfl) ⟨Nat.le_of_ble_eq_true rfl, Nat.le_of_ble_eq_true rfl⟩ ⟨Nat.le_of_ble_eq_true rfl, Nat.le_of_ble_eq_true rfl⟩ dX3_moveThings_60) (fun _ => rfl) (fun _ H locs hw => ?_)
          have hw : fy D (va_A ws0 sz) s.heap H locs (wSt I n (z3, z4, x.2.2)) := hw
          refine lv_iinc (v := v1 + 1) (lv' := [(1, .int (v1 + 1)), (5, .int z2), (0, .ref (n 0)), (2, .int v2), (3, .int v3), (4, .int v4)]) hx hb dX3_moveThings_63 hl (k := 2) rfl rfl (by decide) rfl (fun ls hl => ?_)
          exact k_X3_moveThings_66 E n r y0 (f_X3_moveThings_15 fu) ih (v1 + 1) v2 v3 v4 z2 (z3, z4, x.2.2) hf _ _ hw _ (lv_sub hl [2, 0, 3, 4, 5, 1] rfl)
set_option maxRecDepth 100000 in
set_option maxHeartbeats 4000000 in
theorem mt_X3_moveThings (l : Launch) (D : va_G) (I J O : ClassId) (n : Nat → Nat) (sz : Nat)  (x : StC) (r : Int32) (y0 : StC) (hf : f_X3_moveThings x = some (r, y0)) : mM l yX3_moveThings cX3_moveThings 6 (some .int) 4 95 0 0 D I J O sz [.ref (n 0)] (wSt I n x) (qMi D sz (wSt I n x) r (fun _ : Unit => wSt I n y0)) := by
  refine mM_open (own := RX3) rfl (by decide +kernel) (Nat.le_of_ble_eq_true rfl) (fun p e s m below meth c ls E hnm hsz hw hl => ?_)
  obtain ⟨ws0, hws⟩ : ∃ ws0 : va_W, ws0 = wSt I n x := ⟨_, rfl⟩
  have hw : fy D (va_A ws0 sz) s.heap s.heap [] (wSt I n x) := by rw [hws]; exact hw
  rw [← hws]
  have hx := E.1
  have hb := E.2.1
  have hl : lv_has ls 6 [(0, .ref (n 0))] := hl
  unfold f_X3_moveThings at hf
  refine lv_iconst (v := 0) hx hb dX3_moveThings_0 (by decide) ?_
  refine lv_istore_n (lv' := [(1, .int 0), (0, .ref (n 0))]) hx hb dX3_moveThings_1 rfl hl (by decide) rfl (fun ls hl => ?_)
  refine lv_iconst (v := 0) hx hb dX3_moveThings_2 (by decide) ?_
  refine lv_istore_n (lv' := [(2, .int 0), (1, .int 0), (0, .ref (n 0))]) hx hb dX3_moveThings_3 rfl hl (by decide) rfl (fun ls hl => ?_)
  refine lv_aload_n hx hb dX3_moveThings_4 rfl (lv_at hl 2 rfl) ?_
  refine x_get E hw.1 0 rfl rfl in3 0 (by decide) q74 rfl rfl dX3_moveThings_5 ?_
  obtain ⟨z1, h, hf⟩ := bd_s hf
  refine x_ci (x_rV E (As := []) (rest := []) (mt_X2_cellsNow l D I J O (n 1) (n 2) (n 3) (n 4) (n 5) (n 6) (n 7) x.1 z1 h) blR (x_recv E hw.1 1 2 rfl rfl rfl) (x_pcR E (x_pick0 hw.1 [1, 2, 3, 4, 5, 6, 7] rfl)) ok_X2_cellsNow q272 rfl hl.1 rfl (Nat.le_of_ble_eq_true rfl) ⟨Nat.le_of_ble_eq_true rfl, Nat.le_of_ble_eq_true rfl⟩ ⟨Nat.le_of_ble_eq_true rfl, Nat.le_of_ble_eq_true rfl⟩ dX3_moveThings_8) ?_
  refine lv_istore_n (lv' := [(3, .int z1), (2, .int 0), (1, .int 0), (0, .ref (n 0))]) hx hb dX3_moveThings_11 rfl hl (by decide) rfl (fun ls hl => ?_)
  refine lv_iconst (v := 0) hx hb dX3_moveThings_12 (by decide) ?_
  refine lv_istore (lv' := [(4, .int 0), (3, .int z1), (2, .int 0), (1, .int 0), (0, .ref (n 0))]) hx hb dX3_moveThings_13 hl (by decide) rfl (fun ls hl => ?_)
  exact k_X3_moveThings_15 E n r y0 FU 0 0 z1 0 x hf _ _ hw _ (lv_sub hl [4, 3, 2, 1, 0] rfl)
