theorem ok_L_store : yS yL_store cL_store 3 (some .boolean) 0 := ⟨q750, q0, q749, by decide +kernel, by decide +kernel, by decide +kernel⟩
set_option maxRecDepth 100000 in
set_option maxHeartbeats 4000000 in
theorem k_L_store_261 {p : Program} {l : Launch} {e : Env} {s : State} {m : MethodId} {args : Array Value} {below : List Frame} {meth : Method} {c : Code} {D : va_G} {I J O : ClassId} {ws0 : va_W} {sz : Nat} (E : fx p s m args meth c cL_store RL 3 (some .boolean) D I J O) (hfl : l.stackTraces = false) (hXZ : XZ (va_A ws0 sz) s) (h0 : Nat) (n t : Nat → Nat) (b0 b1 hh ha : Nat)  (r : Int32) (k208 : Int32 → ClC → Option (Int32)) (hk208 : ∀ (v1 : Int32) (x : ClC), k208 v1 x = some r → ∀ (ad : Nat → Nat → Nat) (H : Heap) (locs : List Loc), fy D (va_A ws0 sz) s.heap H locs (wCl I h0 n t b0 b1 hh x ++ wHi I O hh ha ad x.2.2.1) → ∀ ls : Array Slot, lv_has ls 3 [(0, .ref h0), (1, .int v1)] → W p l e (rmB 12 272 263 9106) s m args below meth c H locs 101 4370 (MQ below (qMi D sz ws0 r (fun _ : Unit => ([] : va_W))) args s 263 9106 (va_A ws0 sz)) (F0 m 208 ls [])) : ∀ (v1 : Int32) (t0 : Int32) (t1 : Int32) (x : ClC), f_L_store_261 k208 v1 t0 t1 x = some r → ∀ (ad : Nat → Nat → Nat) (H : Heap) (locs : List Loc), fy D (va_A ws0 sz) s.heap H locs (wCl I h0 n t b0 b1 hh x ++ wHi I O hh ha ad x.2.2.1) → ∀ ls : Array Slot, lv_has ls 3 [(0, .ref h0), (1, .int v1)] → W p l e (rmB 12 272 263 9106) s m args below meth c H locs 101 4370 (MQ below (qMi D sz ws0 r (fun _ : Unit => ([] : va_W))) args s 263 9106 (va_A ws0 sz)) (F0 m 261 ls [.int t1, .int t0]) := by
  have hx := E.1
  have hb := E.2.1
  intro v1 t0 t1 x hf ad H locs hw ls hl
  unfold f_L_store_261 at hf
  refine lv_icmp_eq (tgt := 266) hx hb dL_store_261 (by decide) (fun hc => ?_) (fun hc => ?_)
  · rw [if_pos hc] at hf
    refine lv_iinc (v := v1 + 1) (lv' := [(1, .int (v1 + 1)), (0, .ref h0)]) hx hb dL_store_266 hl (k := 1) rfl rfl (by decide) rfl (fun ls hl => ?_)
    refine lv_goto (tgt := 208) hx hb dL_store_269 (by decide) ?_
    refine W.widen (k := 101) (n := 4370) (Nat.le_of_ble_eq_true rfl) (Nat.le_of_ble_eq_true rfl) ?_
    exact hk208 (v1 + 1) x hf ad _ _ hw _ (lv_sub hl [1, 0] rfl)
  · rw [if_neg hc] at hf
    refine lv_iconst (v := 0) hx hb dL_store_264 (by decide) ?_
    have he0 := Option.some.inj hf
    have hw : fy D (va_A ws0 sz) s.heap H locs ([] : va_W) := fy.sub hw [] rfl rfl
    refine W.widen (k := 263) (n := 9106) (Nat.le_of_ble_eq_true rfl) (Nat.le_of_ble_eq_true rfl) ?_
    exact x_zM (w1 := fun _ : Unit => ([] : va_W)) E () hw (Or.inl rfl) he0 dL_store_265
set_option maxRecDepth 100000 in
set_option maxHeartbeats 4000000 in
theorem k_L_store_481 {p : Program} {l : Launch} {e : Env} {s : State} {m : MethodId} {args : Array Value} {below : List Frame} {meth : Method} {c : Code} {D : va_G} {I J O : ClassId} {ws0 : va_W} {sz : Nat} (E : fx p s m args meth c cL_store RL 3 (some .boolean) D I J O) (hfl : l.stackTraces = false) (hXZ : XZ (va_A ws0 sz) s) (h0 : Nat) (n t : Nat → Nat) (b0 b1 hh ha : Nat)  (r : Int32) : ∀ fu : Nat, ∀ (v2 : Int32) (x : ClC), f_L_store_481 fu v2 x = some r → ∀ (ad : Nat → Nat → Nat) (H : Heap) (locs : List Loc), fy D (va_A ws0 sz) s.heap H locs (wCl I h0 n t b0 b1 hh x ++ wHi I O hh ha ad x.2.2.1) → ∀ ls : Array Slot, lv_has ls 3 [(1, .ref h0), (2, .int v2)] → W p l e (rmB 12 272 263 9106) s m args below meth c H locs 263 9106 (MQ below (qMi D sz ws0 r (fun _ : Unit => ([] : va_W))) args s 263 9106 (va_A ws0 sz)) (F0 m 481 ls []) := by
  have hx := E.1
  have hb := E.2.1
  intro fu
  induction fu with
  | zero =>
    intro v2 x hf ad H locs hw ls hl
    rw [f_L_store_481.eq_1] at hf
    cases hf
  | succ fu ih =>
    intro v2 x hf ad H locs hw ls hl
    rw [f_L_store_481.eq_2] at hf
    refine lv_iload_n hx hb dL_store_481 rfl (lv_at hl 1 rfl) ?_
    refine lv_sipush (v := 1000) hx hb dL_store_482 (by decide) ?_
    refine lv_icmp_ge (tgt := 516) hx hb dL_store_485 (by decide) (fun hc => ?_) (fun hc => ?_)
    · rw [if_pos hc] at hf
      refine lv_aload_n hx hb dL_store_516 rfl (lv_at hl 0 rfl) ?_
      refine lv_iconst (v := 1) hx hb dL_store_517 (by decide) ?_
      refine lv_iconst (v := 1) hx hb dL_store_518 (by decide) ?_
      refine lv_iconst (v := 0) hx hb dL_store_519 (by decide) ?_
      obtain ⟨z55, h, hf⟩ := rt_s hf
      refine x_miFP0 hw (x_rV E (As := [.int 1, .int 1, .int 0]) (rest := []) (mt_X5_put l D I J O h0 n t b0 b1 hh ha ad H.size 1 1 0 x z55.1 z55.2 h) blM (x_recv E hw.1 0 5 rfl rfl rfl) (x_pcMPF0 E hw) ok_X5_put q451 rfl hl.1 rfl (Nat.le_of_ble_eq_true rfl) ⟨Nat.le_of_ble_eq_true rfl, Nat.le_of_ble_eq_true rfl⟩ ⟨Nat.le_of_ble_eq_true rfl, Nat.le_of_ble_eq_true rfl⟩ dL_store_520) (fun _ => rfl) (fun ad56 H locs hw => ?_)
      have hw : fy D (va_A ws0 sz) s.heap H locs (wCl I h0 n t b0 b1 hh z55.2 ++ wHi I O hh ha ad56 z55.2.2.2.1) := hw
      refine lv_if_ne (tgt := 565) hx hb dL_store_523 (by decide) (fun hc => ?_) (fun hc => ?_)
      · rw [if_neg hc] at hf
        refine lv_iconst (v := 0) hx hb dL_store_565 (by decide) ?_
        have he0 := Option.some.inj hf
        have hw : fy D (va_A ws0 sz) s.heap H locs ([] : va_W) := fy.sub hw [] rfl rfl
        refine W.widen (k := 263) (n := 9106) (Nat.le_of_ble_eq_true rfl) (Nat.le_of_ble_eq_true rfl) ?_
        exact x_zM (w1 := fun _ : Unit => ([] : va_W)) E () hw (Or.inl rfl) he0 dL_store_566
      · rw [if_pos hc] at hf
        refine lv_aload_n hx hb dL_store_526 rfl (lv_at hl 0 rfl) ?_
        refine lv_bipush (v := 6) hx hb dL_store_527 (by decide) ?_
        obtain ⟨z57, h, hf⟩ := rt_s hf
        refine x_ci (x_rV E (As := [.int 6]) (rest := []) (mt_X5_count l D I J O h0 n t b0 b1 hh ha ad56 6 z55.2 z57 h) blR (x_recv E hw.1 0 5 rfl rfl rfl) (x_pcR E hw.1) ok_X5_count q399 rfl hl.1 rfl (Nat.le_of_ble_eq_true rfl) ⟨Nat.le_of_ble_eq_true rfl, Nat.le_of_ble_eq_true rfl⟩ ⟨Nat.le_of_ble_eq_true rfl, Nat.le_of_ble_eq_true rfl⟩ dL_store_529) ?_
        refine lv_sipush (v := 1001) hx hb dL_store_532 (by decide) ?_
        refine lv_icmp_ne (tgt := 565) hx hb dL_store_535 (by decide) (fun hc => ?_) (fun hc => ?_)
        · rw [if_neg hc] at hf
          refine lv_iconst (v := 0) hx hb dL_store_565 (by decide) ?_
          have he0 := Option.some.inj hf
          have hw : fy D (va_A ws0 sz) s.heap H locs ([] : va_W) := fy.sub hw [] rfl rfl
          refine W.widen (k := 263) (n := 9106) (Nat.le_of_ble_eq_true rfl) (Nat.le_of_ble_eq_true rfl) ?_
          exact x_zM (w1 := fun _ : Unit => ([] : va_W)) E () hw (Or.inl rfl) he0 dL_store_566
        · rw [if_pos hc] at hf
          refine lv_aload_n hx hb dL_store_538 rfl (lv_at hl 0 rfl) ?_
          refine lv_bipush (v := 7) hx hb dL_store_539 (by decide) ?_
          obtain ⟨z58, h, hf⟩ := rt_s hf
          refine x_ci (x_rV E (As := [.int 7]) (rest := []) (mt_X5_count l D I J O h0 n t b0 b1 hh ha ad56 7 z55.2 z58 h) blR (x_recv E hw.1 0 5 rfl rfl rfl) (x_pcR E hw.1) ok_X5_count q399 rfl hl.1 rfl (Nat.le_of_ble_eq_true rfl) ⟨Nat.le_of_ble_eq_true rfl, Nat.le_of_ble_eq_true rfl⟩ ⟨Nat.le_of_ble_eq_true rfl, Nat.le_of_ble_eq_true rfl⟩ dL_store_541) ?_
          refine lv_sipush (v := 1000) hx hb dL_store_544 (by decide) ?_
          refine lv_icmp_ne (tgt := 565) hx hb dL_store_547 (by decide) (fun hc => ?_) (fun hc => ?_)
          · rw [if_neg hc] at hf
            refine lv_iconst (v := 0) hx hb dL_store_565 (by decide) ?_
            have he0 := Option.some.inj hf
            have hw : fy D (va_A ws0 sz) s.heap H locs ([] : va_W) := fy.sub hw [] rfl rfl
            refine W.widen (k := 263) (n := 9106) (Nat.le_of_ble_eq_true rfl) (Nat.le_of_ble_eq_true rfl) ?_
            exact x_zM (w1 := fun _ : Unit => ([] : va_W)) E () hw (Or.inl rfl) he0 dL_store_566
          · rw [if_pos hc] at hf
            refine lv_aload_n hx hb dL_store_550 rfl (lv_at hl 0 rfl) ?_
            refine lv_bipush (v := 9) hx hb dL_store_551 (by decide) ?_
            obtain ⟨z59, h, hf⟩ := rt_s hf
            refine x_ci (x_rV E (As := [.int 9]) (rest := []) (mt_X5_count l D I J O h0 n t b0 b1 hh ha ad56 9 z55.2 z59 h) blR (x_recv E hw.1 0 5 rfl rfl rfl) (x_pcR E hw.1) ok_X5_count q399 rfl hl.1 rfl (Nat.le_of_ble_eq_true rfl) ⟨Nat.le_of_ble_eq_true rfl, Nat.le_of_ble_eq_true rfl⟩ ⟨Nat.le_of_ble_eq_true rfl, Nat.le_of_ble_eq_true rfl⟩ dL_store_553) ?_
            refine lv_bipush (v := 6) hx hb dL_store_556 (by decide) ?_
            refine lv_icmp_ne (tgt := 565) hx hb dL_store_558 (by decide) (fun hc => ?_) (fun hc => ?_)
            · rw [if_neg hc] at hf
              refine lv_iconst (v := 0) hx hb dL_store_565 (by decide) ?_
              have he0 := Option.some.inj hf
              have hw : fy D (va_A ws0 sz) s.heap H locs ([] : va_W) := fy.sub hw [] rfl rfl
              refine W.widen (k := 263) (n := 9106) (Nat.le_of_ble_eq_true rfl) (Nat.le_of_ble_eq_true rfl) ?_
              exact x_zM (w1 := fun _ : Unit => ([] : va_W)) E () hw (Or.inl rfl) he0 dL_store_566
            · rw [if_pos hc] at hf
              refine lv_iconst (v := 1) hx hb dL_store_561 (by decide) ?_
              refine lv_goto (tgt := 566) hx hb dL_store_562 (by decide) ?_
              have he0 := Option.some.inj hf
              have hw : fy D (va_A ws0 sz) s.heap H locs ([] : va_W) := fy.sub hw [] rfl rfl
              refine W.widen (k := 263) (n := 9106) (Nat.le_of_ble_eq_true rfl) (Nat.le_of_ble_eq_true rfl) ?_
              exact x_zM (w1 := fun _ : Unit => ([] : va_W)) E () hw (Or.inr rfl) he0 dL_store_566
    · rw [if_neg hc] at hf
      refine lv_aload_n hx hb dL_store_488 rfl (lv_at hl 0 rfl) ?_
      refine lv_iconst (v := 1) hx hb dL_store_489 (by decide) ?_
      refine lv_iconst (v := 1) hx hb dL_store_490 (by decide) ?_
      refine lv_iconst (v := 0) hx hb dL_store_491 (by decide) ?_
      obtain ⟨z60, h, hf⟩ := rt_s hf
      refine x_miFP0 hw (x_rV E (As := [.int 1, .int 1, .int 0]) (rest := []) (mt_X5_put l D I J O h0 n t b0 b1 hh ha ad H.size 1 1 0 x z60.1 z60.2 h) blM (x_recv E hw.1 0 5 rfl rfl rfl) (x_pcMPF0 E hw) ok_X5_put q451 rfl hl.1 rfl (Nat.le_of_ble_eq_true rfl) ⟨Nat.le_of_ble_eq_true rfl, Nat.le_of_ble_eq_true rfl⟩ ⟨Nat.le_of_ble_eq_true rfl, Nat.le_of_ble_eq_true rfl⟩ dL_store_492) (fun _ => rfl) (fun ad61 H locs hw => ?_)
      have hw : fy D (va_A ws0 sz) s.heap H locs (wCl I h0 n t b0 b1 hh z60.2 ++ wHi I O hh ha ad61 z60.2.2.2.1) := hw
      refine lv_iload_n hx hb dL_store_495 rfl (lv_at hl 1 rfl) ?_
      refine lv_icmp_ne (tgt := 508) hx hb dL_store_496 (by decide) (fun hc => ?_) (fun hc => ?_)
      · rw [if_neg hc] at hf
        refine lv_iconst (v := 0) hx hb dL_store_508 (by decide) ?_
        have he0 := Option.some.inj hf
        have hw : fy D (va_A ws0 sz) s.heap H locs ([] : va_W) := fy.sub hw [] rfl rfl
        refine W.widen (k := 263) (n := 9106) (Nat.le_of_ble_eq_true rfl) (Nat.le_of_ble_eq_true rfl) ?_
        exact x_zM (w1 := fun _ : Unit => ([] : va_W)) E () hw (Or.inl rfl) he0 dL_store_509
      · rw [if_pos hc] at hf
        refine lv_aload_n hx hb dL_store_499 rfl (lv_at hl 0 rfl) ?_
        refine lv_iload_n hx hb dL_store_500 rfl (lv_at hl 1 rfl) ?_
        obtain ⟨z62, h, hf⟩ := rt_s hf
        refine x_miFP0 hw (x_rV E (As := [.int v2]) (rest := []) (mt_X5_remove l D I J O h0 n t b0 b1 hh ha ad61 H.size v2 z60.2 z62.1 z62.2 h) blM (x_recv E hw.1 0 5 rfl rfl rfl) (x_pcMPF0 E hw) ok_X5_remove q498 rfl hl.1 rfl (Nat.le_of_ble_eq_true rfl) ⟨Nat.le_of_ble_eq_true rfl, Nat.le_of_ble_eq_true rfl⟩ ⟨Nat.le_of_ble_eq_true rfl, Nat.le_of_ble_eq_true rfl⟩ dL_store_501) (fun _ => rfl) (fun ad63 H locs hw => ?_)
        have hw : fy D (va_A ws0 sz) s.heap H locs (wCl I h0 n t b0 b1 hh z62.2 ++ wHi I O hh ha ad63 z62.2.2.2.1) := hw
        refine lv_iconst (v := 1) hx hb dL_store_504 (by decide) ?_
        refine lv_icmp_eq (tgt := 510) hx hb dL_store_505 (by decide) (fun hc => ?_) (fun hc => ?_)
        · rw [if_pos hc] at hf
          refine lv_iinc (v := v2 + 1) (lv' := [(2, .int (v2 + 1)), (1, .ref h0)]) hx hb dL_store_510 hl (k := 1) rfl rfl (by decide) rfl (fun ls hl => ?_)
          refine lv_goto (tgt := 481) hx hb dL_store_513 (by decide) ?_
          refine W.widen (k := 263) (n := 9106) (Nat.le_of_ble_eq_true rfl) (Nat.le_of_ble_eq_true rfl) ?_
          exact ih (v2 + 1) z62.2 hf ad63 _ _ hw _ (lv_sub hl [1, 0] rfl)
        · rw [if_neg hc] at hf
          refine lv_iconst (v := 0) hx hb dL_store_508 (by decide) ?_
          have he0 := Option.some.inj hf
          have hw : fy D (va_A ws0 sz) s.heap H locs ([] : va_W) := fy.sub hw [] rfl rfl
          refine W.widen (k := 263) (n := 9106) (Nat.le_of_ble_eq_true rfl) (Nat.le_of_ble_eq_true rfl) ?_
          exact x_zM (w1 := fun _ : Unit => ([] : va_W)) E () hw (Or.inl rfl) he0 dL_store_509
set_option maxRecDepth 100000 in
set_option maxHeartbeats 4000000 in
theorem k_L_store_410 {p : Program} {l : Launch} {e : Env} {s : State} {m : MethodId} {args : Array Value} {below : List Frame} {meth : Method} {c : Code} {D : va_G} {I J O : ClassId} {ws0 : va_W} {sz : Nat} (E : fx p s m args meth c cL_store RL 3 (some .boolean) D I J O) (hfl : l.stackTraces = false) (hXZ : XZ (va_A ws0 sz) s) (h0 : Nat) (n t : Nat → Nat) (b0 b1 hh ha : Nat)  (r : Int32) : ∀ (x : ClC), f_L_store_410 x = some r → ∀ (ad : Nat → Nat → Nat) (H : Heap) (locs : List Loc), fy D (va_A ws0 sz) s.heap H locs (wCl I h0 n t b0 b1 hh x ++ wHi I O hh ha ad x.2.2.1) → ∀ ls : Array Slot, lv_has ls 3 [(0, .ref h0)] → W p l e (rmB 12 272 263 9106) s m args below meth c H locs 104 4388 (MQ below (qMi D sz ws0 r (fun _ : Unit => ([] : va_W))) args s 263 9106 (va_A ws0 sz)) (F0 m 410 ls []) := by
  have hx := E.1
  have hb := E.2.1
  intro x hf ad H locs hw ls hl
  unfold f_L_store_410 at hf
  refine lv_aload_n hx hb dL_store_410 rfl (lv_at hl 0 rfl) ?_
  obtain ⟨z46, h, hf⟩ := bd_s hf
  refine x_cd (x_rV E (As := []) (rest := []) (mt_X5_fullness l D I J O h0 n t b0 b1 hh ha ad x z46 h) blR (x_recv E hw.1 0 5 rfl rfl rfl) (x_pcR E hw.1) ok_X5_fullness q742 rfl hl.1 rfl (Nat.le_of_ble_eq_true rfl) ⟨Nat.le_of_ble_eq_true rfl, Nat.le_of_ble_eq_true rfl⟩ ⟨Nat.le_of_ble_eq_true rfl, Nat.le_of_ble_eq_true rfl⟩ dL_store_411) ?_
  refine lv_dconst1 hx hb dL_store_414 ?_
  refine lv_dcmp hx hb dL_store_415 ?_
  refine lv_if_ne (tgt := 435) hx hb dL_store_416 (by decide) (fun hc => ?_) (fun hc => ?_)
  · rw [if_neg hc] at hf
    refine lv_iconst (v := 0) hx hb dL_store_435 (by decide) ?_
    have he0 := Option.some.inj hf
    have hw : fy D (va_A ws0 sz) s.heap H locs ([] : va_W) := fy.sub hw [] rfl rfl
    refine W.widen (k := 263) (n := 9106) (Nat.le_of_ble_eq_true rfl) (Nat.le_of_ble_eq_true rfl) ?_
    exact x_zM (w1 := fun _ : Unit => ([] : va_W)) E () hw (Or.inl rfl) he0 dL_store_436
  · rw [if_pos hc] at hf
    refine lv_aload_n hx hb dL_store_419 rfl (lv_at hl 0 rfl) ?_
    refine lv_iconst (v := 1) hx hb dL_store_420 (by decide) ?_
    refine lv_iconst (v := 1) hx hb dL_store_421 (by decide) ?_
    obtain ⟨z47, h, hf⟩ := rt_s hf
    refine x_ci (x_rV E (As := [.int 1, .int 1]) (rest := []) (mt_X5_room l D I J O h0 n t b0 b1 hh ha ad 1 1 x z47 h) blR (x_recv E hw.1 0 5 rfl rfl rfl) (x_pcR E hw.1) ok_X5_room q681 rfl hl.1 rfl (Nat.le_of_ble_eq_true rfl) ⟨Nat.le_of_ble_eq_true rfl, Nat.le_of_ble_eq_true rfl⟩ ⟨Nat.le_of_ble_eq_true rfl, Nat.le_of_ble_eq_true rfl⟩ dL_store_422) ?_
    refine lv_if_ne (tgt := 435) hx hb dL_store_425 (by decide) (fun hc => ?_) (fun hc => ?_)
    · rw [if_neg hc] at hf
      refine lv_iconst (v := 0) hx hb dL_store_435 (by decide) ?_
      have he0 := Option.some.inj hf
      have hw : fy D (va_A ws0 sz) s.heap H locs ([] : va_W) := fy.sub hw [] rfl rfl
      refine W.widen (k := 263) (n := 9106) (Nat.le_of_ble_eq_true rfl) (Nat.le_of_ble_eq_true rfl) ?_
      exact x_zM (w1 := fun _ : Unit => ([] : va_W)) E () hw (Or.inl rfl) he0 dL_store_436
    · rw [if_pos hc] at hf
      refine lv_aload_n hx hb dL_store_428 rfl (lv_at hl 0 rfl) ?_
      obtain ⟨z48, h, hf⟩ := bd_s hf
      refine x_miFP0 hw (x_rS E (As := [.ref h0]) (rest := []) (mt_L_refused l hfl D I J O h0 n t b0 b1 hh ha ad H.size x z48.1 z48.2 h) blZ (x_pcZF0 E hXZ hw) ok_L_refused q686 rfl hl.1 rfl (Nat.le_of_ble_eq_true rfl) ⟨Nat.le_of_ble_eq_true rfl, Nat.le_of_ble_eq_true rfl⟩ ⟨Nat.le_of_ble_eq_true rfl, Nat.le_of_ble_eq_true rfl⟩ dL_store_429) (fun _ => rfl) (fun ad49 H locs hw => ?_)
      have hw : fy D (va_A ws0 sz) s.heap H locs (wCl I h0 n t b0 b1 hh z48.2 ++ wHi I O hh ha ad49 z48.2.2.2.1) := hw
      refine lv_if_ne (tgt := 437) hx hb dL_store_432 (by decide) (fun hc => ?_) (fun hc => ?_)
      · rw [if_neg hc] at hf
        refine lv_aload_n hx hb dL_store_437 rfl (lv_at hl 0 rfl) ?_
        obtain ⟨z50, h, hf⟩ := bd_s hf
        refine x_miFP0 hw (x_rV E (As := []) (rest := []) (mt_X5_fire l D I J O h0 n t b0 b1 hh ha ad49 H.size z48.2 z50.1 z50.2 h) blM (x_recv E hw.1 0 5 rfl rfl rfl) (x_pcMPF0 E hw) ok_X5_fire q144 rfl hl.1 rfl (Nat.le_of_ble_eq_true rfl) ⟨Nat.le_of_ble_eq_true rfl, Nat.le_of_ble_eq_true rfl⟩ ⟨Nat.le_of_ble_eq_true rfl, Nat.le_of_ble_eq_true rfl⟩ dL_store_438) (fun _ => rfl) (fun ad51 H locs hw => ?_)
        have hw : fy D (va_A ws0 sz) s.heap H locs (wCl I h0 n t b0 b1 hh z50.2 ++ wHi I O hh ha ad51 z50.2.2.2.1) := hw
        refine lv_sipush (v := 9911) hx hb dL_store_441 (by decide) ?_
        refine lv_icmp_ne (tgt := 469) hx hb dL_store_444 (by decide) (fun hc => ?_) (fun hc => ?_)
        · rw [if_neg hc] at hf
          refine lv_iconst (v := 0) hx hb dL_store_469 (by decide) ?_
          have he0 := Option.some.inj hf
          have hw : fy D (va_A ws0 sz) s.heap H locs ([] : va_W) := fy.sub hw [] rfl rfl
          refine W.widen (k := 263) (n := 9106) (Nat.le_of_ble_eq_true rfl) (Nat.le_of_ble_eq_true rfl) ?_
          exact x_zM (w1 := fun _ : Unit => ([] : va_W)) E () hw (Or.inl rfl) he0 dL_store_470
        · rw [if_pos hc] at hf
          refine lv_aload_n hx hb dL_store_447 rfl (lv_at hl 0 rfl) ?_
          refine lv_iconst (v := 0) hx hb dL_store_448 (by decide) ?_
          obtain ⟨z52, h, hf⟩ := rt_s hf
          refine x_ci (x_rV E (As := [.int 0]) (rest := []) (mt_X5_count l D I J O h0 n t b0 b1 hh ha ad51 0 z50.2 z52 h) blR (x_recv E hw.1 0 5 rfl rfl rfl) (x_pcR E hw.1) ok_X5_count q399 rfl hl.1 rfl (Nat.le_of_ble_eq_true rfl) ⟨Nat.le_of_ble_eq_true rfl, Nat.le_of_ble_eq_true rfl⟩ ⟨Nat.le_of_ble_eq_true rfl, Nat.le_of_ble_eq_true rfl⟩ dL_store_449) ?_
          refine lv_bipush (v := 16) hx hb dL_store_452 (by decide) ?_
          refine lv_icmp_ne (tgt := 469) hx hb dL_store_454 (by decide) (fun hc => ?_) (fun hc => ?_)
          · rw [if_neg hc] at hf
            refine lv_iconst (v := 0) hx hb dL_store_469 (by decide) ?_
            have he0 := Option.some.inj hf
            have hw : fy D (va_A ws0 sz) s.heap H locs ([] : va_W) := fy.sub hw [] rfl rfl
            refine W.widen (k := 263) (n := 9106) (Nat.le_of_ble_eq_true rfl) (Nat.le_of_ble_eq_true rfl) ?_
            exact x_zM (w1 := fun _ : Unit => ([] : va_W)) E () hw (Or.inl rfl) he0 dL_store_470
          · rw [if_pos hc] at hf
            refine lv_aload_n hx hb dL_store_457 rfl (lv_at hl 0 rfl) ?_
            refine lv_sipush (v := 12000) hx hb dL_store_458 (by decide) ?_
            refine lv_iconst (v := 3) hx hb dL_store_461 (by decide) ?_
            obtain ⟨z53, h, hf⟩ := rt_s hf
            refine x_ci (x_rV E (As := [.int 12000, .int 3]) (rest := []) (mt_X5_thing l D I J O h0 n t b0 b1 hh ha ad51 12000 3 z50.2 z53 h) blR (x_recv E hw.1 0 5 rfl rfl rfl) (x_pcR E hw.1) ok_X5_thing q622 rfl hl.1 rfl (Nat.le_of_ble_eq_true rfl) ⟨Nat.le_of_ble_eq_true rfl, Nat.le_of_ble_eq_true rfl⟩ ⟨Nat.le_of_ble_eq_true rfl, Nat.le_of_ble_eq_true rfl⟩ dL_store_462) ?_
            refine lv_iconst (v := 2) hx hb dL_store_465 (by decide) ?_
            refine lv_icmp_eq (tgt := 471) hx hb dL_store_466 (by decide) (fun hc => ?_) (fun hc => ?_)
            · rw [if_pos hc] at hf
              have hl := lv_sub hl [] rfl
              have hw : fy D (va_A ws0 sz) s.heap H locs ([] : va_W) := fy.sub hw [] rfl rfl
              obtain ⟨z54, h, hf⟩ := bd_s hf
              refine x_new (ci := 5) (fs := [.null, .null, .null, .null]) E hw rfl in5 tyX5_ok q15 q16 q1 (fun j hj => by rcases (show j = 0 ∨ j = 1 ∨ j = 2 ∨ j = 3 by omega) with rfl | rfl | rfl | rfl <;> rfl) (Nat.le_of_ble_eq_true rfl) (Nat.le_of_ble_eq_true rfl) dL_store_471 (fun h0 H hw => ?_)
              refine lv_dup hx hb dL_store_474 rfl ?_
              refine x_ctor (w1 := fun (u9 : (Nat → Nat) × (Nat → Nat) × Nat × Nat × Nat × Nat × (Nat → Nat → Nat)) => wCl I h0 u9.1 u9.2.1 u9.2.2.1 u9.2.2.2.1 u9.2.2.2.2.1 z54 ++ wHi I O u9.2.2.2.2.1 u9.2.2.2.2.2.1 u9.2.2.2.2.2.2 (z54).2.2.1) E hw (fun hpc => x_rI E (As := []) (rest := [.ref h0]) (mt_X5_init l D I J O h0 H.size z54 h) blM hpc ok_X5_init q17 rfl hl.1 rfl (Nat.le_of_ble_eq_true rfl) ⟨Nat.le_of_ble_eq_true rfl, Nat.le_of_ble_eq_true rfl⟩ ⟨Nat.le_of_ble_eq_true rfl, Nat.le_of_ble_eq_true rfl⟩ dL_store_475) (fun u1 H locs hw => ?_)
              obtain ⟨n, t, b0, b1, hh, ha, ad⟩ := u1
              have hw : fy D (va_A ws0 sz) s.heap H locs (wCl I h0 n t b0 b1 hh z54 ++ wHi I O hh ha ad z54.2.2.1) := hw
              refine lv_astore_n (lv' := [(1, .ref h0)]) hx hb dL_store_478 rfl hl (by decide) rfl (fun ls hl => ?_)
              refine lv_iconst (v := 0) hx hb dL_store_479 (by decide) ?_
              refine lv_istore_n (lv' := [(2, .int 0), (1, .ref h0)]) hx hb dL_store_480 rfl hl (by decide) rfl (fun ls hl => ?_)
              refine W.widen (k := 263) (n := 9106) (Nat.le_of_ble_eq_true rfl) (Nat.le_of_ble_eq_true rfl) ?_
              exact k_L_store_481 E hfl hXZ h0 n t b0 b1 hh ha r FU 0 z54 hf ad _ _ hw _ (lv_sub hl [1, 0] rfl)
            · rw [if_neg hc] at hf
              refine lv_iconst (v := 0) hx hb dL_store_469 (by decide) ?_
              have he0 := Option.some.inj hf
              have hw : fy D (va_A ws0 sz) s.heap H locs ([] : va_W) := fy.sub hw [] rfl rfl
              refine W.widen (k := 263) (n := 9106) (Nat.le_of_ble_eq_true rfl) (Nat.le_of_ble_eq_true rfl) ?_
              exact x_zM (w1 := fun _ : Unit => ([] : va_W)) E () hw (Or.inl rfl) he0 dL_store_470
      · rw [if_pos hc] at hf
        refine lv_iconst (v := 0) hx hb dL_store_435 (by decide) ?_
        have he0 := Option.some.inj hf
        have hw : fy D (va_A ws0 sz) s.heap H locs ([] : va_W) := fy.sub hw [] rfl rfl
        refine W.widen (k := 263) (n := 9106) (Nat.le_of_ble_eq_true rfl) (Nat.le_of_ble_eq_true rfl) ?_
        exact x_zM (w1 := fun _ : Unit => ([] : va_W)) E () hw (Or.inl rfl) he0 dL_store_436
set_option maxRecDepth 100000 in
set_option maxHeartbeats 4000000 in
theorem k_L_store_319 {p : Program} {l : Launch} {e : Env} {s : State} {m : MethodId} {args : Array Value} {below : List Frame} {meth : Method} {c : Code} {D : va_G} {I J O : ClassId} {ws0 : va_W} {sz : Nat} (E : fx p s m args meth c cL_store RL 3 (some .boolean) D I J O) (hfl : l.stackTraces = false) (hXZ : XZ (va_A ws0 sz) s) (h0 : Nat) (n t : Nat → Nat) (b0 b1 hh ha : Nat)  (r : Int32) : ∀ (x : ClC), f_L_store_319 x = some r → ∀ (ad : Nat → Nat → Nat) (H : Heap) (locs : List Loc), fy D (va_A ws0 sz) s.heap H locs (wCl I h0 n t b0 b1 hh x ++ wHi I O hh ha ad x.2.2.1) → ∀ ls : Array Slot, lv_has ls 3 [(0, .ref h0)] → W p l e (rmB 12 272 263 9106) s m args below meth c H locs 101 4370 (MQ below (qMi D sz ws0 r (fun _ : Unit => ([] : va_W))) args s 263 9106 (va_A ws0 sz)) (F0 m 319 ls []) := by
  have hx := E.1
  have hb := E.2.1
  intro x hf ad H locs hw ls hl
  unfold f_L_store_319 at hf
  refine lv_aload_n hx hb dL_store_319 rfl (lv_at hl 0 rfl) ?_
  refine lv_iconst (v := 0) hx hb dL_store_320 (by decide) ?_
  refine lv_iconst (v := 1) hx hb dL_store_321 (by decide) ?_
  refine lv_iconst (v := 3) hx hb dL_store_322 (by decide) ?_
  refine lv_iconst (v := 0) hx hb dL_store_323 (by decide) ?_
  obtain ⟨z32, h, hf⟩ := bd_s hf
  refine x_miFP0 hw (x_rW E (As := [.ref h0, .int 0, .int 1, .int 3, .int 0]) (rest := []) (mt_L_call l hfl D I J O h0 n t b0 b1 hh ha ad H.size 0 1 3 0 x z32.1 z32.2 h) blW (x_pcVF0 E hXZ hw) ok_L_call q445 rfl hl.1 rfl (Nat.le_of_ble_eq_true rfl) ⟨Nat.le_of_ble_eq_true rfl, Nat.le_of_ble_eq_true rfl⟩ ⟨Nat.le_of_ble_eq_true rfl, Nat.le_of_ble_eq_true rfl⟩ dL_store_324) (fun _ => rfl) (fun ad33 H locs hw => ?_)
  have hw : fy D (va_A ws0 sz) s.heap H locs (wCl I h0 n t b0 b1 hh z32.2 ++ wHi I O hh ha ad33 z32.2.2.2.1) := hw
  refine lv_bipush (v := (-13)) hx hb dL_store_327 (by decide) ?_
  refine lv_icmp_ne (tgt := 435) hx hb dL_store_329 (by decide) (fun hc => ?_) (fun hc => ?_)
  · rw [if_neg hc] at hf
    refine lv_iconst (v := 0) hx hb dL_store_435 (by decide) ?_
    have he0 := Option.some.inj hf
    have hw : fy D (va_A ws0 sz) s.heap H locs ([] : va_W) := fy.sub hw [] rfl rfl
    refine W.widen (k := 263) (n := 9106) (Nat.le_of_ble_eq_true rfl) (Nat.le_of_ble_eq_true rfl) ?_
    exact x_zM (w1 := fun _ : Unit => ([] : va_W)) E () hw (Or.inl rfl) he0 dL_store_436
  · rw [if_pos hc] at hf
    refine lv_aload_n hx hb dL_store_332 rfl (lv_at hl 0 rfl) ?_
    refine lv_iconst (v := 0) hx hb dL_store_333 (by decide) ?_
    refine lv_iconst (v := 1) hx hb dL_store_334 (by decide) ?_
    refine lv_iconst (v := 5) hx hb dL_store_335 (by decide) ?_
    refine lv_iconst (v := 0) hx hb dL_store_336 (by decide) ?_
    obtain ⟨z34, h, hf⟩ := bd_s hf
    refine x_miFP0 hw (x_rW E (As := [.ref h0, .int 0, .int 1, .int 5, .int 0]) (rest := []) (mt_L_call l hfl D I J O h0 n t b0 b1 hh ha ad33 H.size 0 1 5 0 z32.2 z34.1 z34.2 h) blW (x_pcVF0 E hXZ hw) ok_L_call q445 rfl hl.1 rfl (Nat.le_of_ble_eq_true rfl) ⟨Nat.le_of_ble_eq_true rfl, Nat.le_of_ble_eq_true rfl⟩ ⟨Nat.le_of_ble_eq_true rfl, Nat.le_of_ble_eq_true rfl⟩ dL_store_337) (fun _ => rfl) (fun ad35 H locs hw => ?_)
    have hw : fy D (va_A ws0 sz) s.heap H locs (wCl I h0 n t b0 b1 hh z34.2 ++ wHi I O hh ha ad35 z34.2.2.2.1) := hw
    refine lv_bipush (v := (-12)) hx hb dL_store_340 (by decide) ?_
    refine lv_icmp_ne (tgt := 435) hx hb dL_store_342 (by decide) (fun hc => ?_) (fun hc => ?_)
    · rw [if_neg hc] at hf
      refine lv_iconst (v := 0) hx hb dL_store_435 (by decide) ?_
      have he0 := Option.some.inj hf
      have hw : fy D (va_A ws0 sz) s.heap H locs ([] : va_W) := fy.sub hw [] rfl rfl
      refine W.widen (k := 263) (n := 9106) (Nat.le_of_ble_eq_true rfl) (Nat.le_of_ble_eq_true rfl) ?_
      exact x_zM (w1 := fun _ : Unit => ([] : va_W)) E () hw (Or.inl rfl) he0 dL_store_436
    · rw [if_pos hc] at hf
      refine lv_aload_n hx hb dL_store_345 rfl (lv_at hl 0 rfl) ?_
      refine lv_iconst (v := 1) hx hb dL_store_346 (by decide) ?_
      refine lv_iconst (v := 0) hx hb dL_store_347 (by decide) ?_
      refine lv_iconst (v := 3) hx hb dL_store_348 (by decide) ?_
      refine lv_iconst (v := 0) hx hb dL_store_349 (by decide) ?_
      obtain ⟨z36, h, hf⟩ := bd_s hf
      refine x_miFP0 hw (x_rW E (As := [.ref h0, .int 1, .int 0, .int 3, .int 0]) (rest := []) (mt_L_call l hfl D I J O h0 n t b0 b1 hh ha ad35 H.size 1 0 3 0 z34.2 z36.1 z36.2 h) blW (x_pcVF0 E hXZ hw) ok_L_call q445 rfl hl.1 rfl (Nat.le_of_ble_eq_true rfl) ⟨Nat.le_of_ble_eq_true rfl, Nat.le_of_ble_eq_true rfl⟩ ⟨Nat.le_of_ble_eq_true rfl, Nat.le_of_ble_eq_true rfl⟩ dL_store_350) (fun _ => rfl) (fun ad37 H locs hw => ?_)
      have hw : fy D (va_A ws0 sz) s.heap H locs (wCl I h0 n t b0 b1 hh z36.2 ++ wHi I O hh ha ad37 z36.2.2.2.1) := hw
      refine lv_bipush (v := (-13)) hx hb dL_store_353 (by decide) ?_
      refine lv_icmp_ne (tgt := 435) hx hb dL_store_355 (by decide) (fun hc => ?_) (fun hc => ?_)
      · rw [if_neg hc] at hf
        refine lv_iconst (v := 0) hx hb dL_store_435 (by decide) ?_
        have he0 := Option.some.inj hf
        have hw : fy D (va_A ws0 sz) s.heap H locs ([] : va_W) := fy.sub hw [] rfl rfl
        refine W.widen (k := 263) (n := 9106) (Nat.le_of_ble_eq_true rfl) (Nat.le_of_ble_eq_true rfl) ?_
        exact x_zM (w1 := fun _ : Unit => ([] : va_W)) E () hw (Or.inl rfl) he0 dL_store_436
      · rw [if_pos hc] at hf
        refine lv_aload_n hx hb dL_store_358 rfl (lv_at hl 0 rfl) ?_
        refine lv_iconst (v := 1) hx hb dL_store_359 (by decide) ?_
        refine lv_iconst (v := 1) hx hb dL_store_360 (by decide) ?_
        obtain ⟨z38, h, hf⟩ := rt_s hf
        refine x_miFP0 hw (x_rV E (As := [.int 1, .int 1]) (rest := []) (mt_X5_ifFired l D I J O h0 n t b0 b1 hh ha ad37 H.size 1 1 z36.2 z38.1 z38.2 h) blM (x_recv E hw.1 0 5 rfl rfl rfl) (x_pcMPF0 E hw) ok_X5_ifFired q671 rfl hl.1 rfl (Nat.le_of_ble_eq_true rfl) ⟨Nat.le_of_ble_eq_true rfl, Nat.le_of_ble_eq_true rfl⟩ ⟨Nat.le_of_ble_eq_true rfl, Nat.le_of_ble_eq_true rfl⟩ dL_store_361) (fun _ => rfl) (fun ad39 H locs hw => ?_)
        have hw : fy D (va_A ws0 sz) s.heap H locs (wCl I h0 n t b0 b1 hh z38.2 ++ wHi I O hh ha ad39 z38.2.2.2.1) := hw
        refine lv_bipush (v := 16) hx hb dL_store_364 (by decide) ?_
        refine lv_icmp_ne (tgt := 435) hx hb dL_store_366 (by decide) (fun hc => ?_) (fun hc => ?_)
        · rw [if_neg hc] at hf
          refine lv_iconst (v := 0) hx hb dL_store_435 (by decide) ?_
          have he0 := Option.some.inj hf
          have hw : fy D (va_A ws0 sz) s.heap H locs ([] : va_W) := fy.sub hw [] rfl rfl
          refine W.widen (k := 263) (n := 9106) (Nat.le_of_ble_eq_true rfl) (Nat.le_of_ble_eq_true rfl) ?_
          exact x_zM (w1 := fun _ : Unit => ([] : va_W)) E () hw (Or.inl rfl) he0 dL_store_436
        · rw [if_pos hc] at hf
          refine lv_aload_n hx hb dL_store_369 rfl (lv_at hl 0 rfl) ?_
          refine lv_iconst (v := 1) hx hb dL_store_370 (by decide) ?_
          refine lv_iconst (v := 1) hx hb dL_store_371 (by decide) ?_
          refine lv_iconst (v := 1) hx hb dL_store_372 (by decide) ?_
          obtain ⟨z40, h, hf⟩ := rt_s hf
          refine x_miFP0 hw (x_rV E (As := [.int 1, .int 1, .int 1]) (rest := []) (mt_X5_put l D I J O h0 n t b0 b1 hh ha ad39 H.size 1 1 1 z38.2 z40.1 z40.2 h) blM (x_recv E hw.1 0 5 rfl rfl rfl) (x_pcMPF0 E hw) ok_X5_put q451 rfl hl.1 rfl (Nat.le_of_ble_eq_true rfl) ⟨Nat.le_of_ble_eq_true rfl, Nat.le_of_ble_eq_true rfl⟩ ⟨Nat.le_of_ble_eq_true rfl, Nat.le_of_ble_eq_true rfl⟩ dL_store_373) (fun _ => rfl) (fun ad41 H locs hw => ?_)
          have hw : fy D (va_A ws0 sz) s.heap H locs (wCl I h0 n t b0 b1 hh z40.2 ++ wHi I O hh ha ad41 z40.2.2.2.1) := hw
          refine lv_ldc (v := 62000) hx hb E.2.2.2.1 (E.2.2.2.2.1 _ q751) dL_store_376 ?_
          refine lv_icmp_ne (tgt := 435) hx hb dL_store_378 (by decide) (fun hc => ?_) (fun hc => ?_)
          · rw [if_neg hc] at hf
            refine lv_iconst (v := 0) hx hb dL_store_435 (by decide) ?_
            have he0 := Option.some.inj hf
            have hw : fy D (va_A ws0 sz) s.heap H locs ([] : va_W) := fy.sub hw [] rfl rfl
            refine W.widen (k := 263) (n := 9106) (Nat.le_of_ble_eq_true rfl) (Nat.le_of_ble_eq_true rfl) ?_
            exact x_zM (w1 := fun _ : Unit => ([] : va_W)) E () hw (Or.inl rfl) he0 dL_store_436
          · rw [if_pos hc] at hf
            refine lv_aload_n hx hb dL_store_381 rfl (lv_at hl 0 rfl) ?_
            refine lv_iconst (v := 1) hx hb dL_store_382 (by decide) ?_
            refine lv_iconst (v := 1) hx hb dL_store_383 (by decide) ?_
            refine lv_iconst (v := 1) hx hb dL_store_384 (by decide) ?_
            obtain ⟨z42, h, hf⟩ := rt_s hf
            refine x_miFP0 hw (x_rV E (As := [.int 1, .int 1, .int 1]) (rest := []) (mt_X5_put l D I J O h0 n t b0 b1 hh ha ad41 H.size 1 1 1 z40.2 z42.1 z42.2 h) blM (x_recv E hw.1 0 5 rfl rfl rfl) (x_pcMPF0 E hw) ok_X5_put q451 rfl hl.1 rfl (Nat.le_of_ble_eq_true rfl) ⟨Nat.le_of_ble_eq_true rfl, Nat.le_of_ble_eq_true rfl⟩ ⟨Nat.le_of_ble_eq_true rfl, Nat.le_of_ble_eq_true rfl⟩ dL_store_385) (fun _ => rfl) (fun ad43 H locs hw => ?_)
            have hw : fy D (va_A ws0 sz) s.heap H locs (wCl I h0 n t b0 b1 hh z42.2 ++ wHi I O hh ha ad43 z42.2.2.2.1) := hw
            refine lv_ldc (v := 63000) hx hb E.2.2.2.1 (E.2.2.2.2.1 _ q752) dL_store_388 ?_
            refine lv_icmp_ne (tgt := 435) hx hb dL_store_390 (by decide) (fun hc => ?_) (fun hc => ?_)
            · rw [if_neg hc] at hf
              refine lv_iconst (v := 0) hx hb dL_store_435 (by decide) ?_
              have he0 := Option.some.inj hf
              have hw : fy D (va_A ws0 sz) s.heap H locs ([] : va_W) := fy.sub hw [] rfl rfl
              refine W.widen (k := 263) (n := 9106) (Nat.le_of_ble_eq_true rfl) (Nat.le_of_ble_eq_true rfl) ?_
              exact x_zM (w1 := fun _ : Unit => ([] : va_W)) E () hw (Or.inl rfl) he0 dL_store_436
            · rw [if_pos hc] at hf
              refine lv_aload_n hx hb dL_store_393 rfl (lv_at hl 0 rfl) ?_
              refine lv_iconst (v := 0) hx hb dL_store_394 (by decide) ?_
              obtain ⟨z44, h, hf⟩ := rt_s hf
              refine x_ci (x_rV E (As := [.int 0]) (rest := []) (mt_X5_gap l D I J O h0 n t b0 b1 hh ha ad43 0 z42.2 z44 h) blR (x_recv E hw.1 0 5 rfl rfl rfl) (x_pcR E hw.1) ok_X5_gap q658 rfl hl.1 rfl (Nat.le_of_ble_eq_true rfl) ⟨Nat.le_of_ble_eq_true rfl, Nat.le_of_ble_eq_true rfl⟩ ⟨Nat.le_of_ble_eq_true rfl, Nat.le_of_ble_eq_true rfl⟩ dL_store_395) ?_
              refine lv_if_ne (tgt := 435) hx hb dL_store_398 (by decide) (fun hc => ?_) (fun hc => ?_)
              · rw [if_neg hc] at hf
                refine lv_iconst (v := 0) hx hb dL_store_435 (by decide) ?_
                have he0 := Option.some.inj hf
                have hw : fy D (va_A ws0 sz) s.heap H locs ([] : va_W) := fy.sub hw [] rfl rfl
                refine W.widen (k := 263) (n := 9106) (Nat.le_of_ble_eq_true rfl) (Nat.le_of_ble_eq_true rfl) ?_
                exact x_zM (w1 := fun _ : Unit => ([] : va_W)) E () hw (Or.inl rfl) he0 dL_store_436
              · rw [if_pos hc] at hf
                refine lv_aload_n hx hb dL_store_401 rfl (lv_at hl 0 rfl) ?_
                refine lv_iconst (v := 1) hx hb dL_store_402 (by decide) ?_
                obtain ⟨z45, h, hf⟩ := rt_s hf
                refine x_ci (x_rV E (As := [.int 1]) (rest := []) (mt_X5_gap l D I J O h0 n t b0 b1 hh ha ad43 1 z42.2 z45 h) blR (x_recv E hw.1 0 5 rfl rfl rfl) (x_pcR E hw.1) ok_X5_gap q658 rfl hl.1 rfl (Nat.le_of_ble_eq_true rfl) ⟨Nat.le_of_ble_eq_true rfl, Nat.le_of_ble_eq_true rfl⟩ ⟨Nat.le_of_ble_eq_true rfl, Nat.le_of_ble_eq_true rfl⟩ dL_store_403) ?_
                refine lv_iconst (v := (-1)) hx hb dL_store_406 (by decide) ?_
                refine lv_icmp_ne (tgt := 435) hx hb dL_store_407 (by decide) (fun hc => ?_) (fun hc => ?_)
                · rw [if_neg hc] at hf
                  refine lv_iconst (v := 0) hx hb dL_store_435 (by decide) ?_
                  have he0 := Option.some.inj hf
                  have hw : fy D (va_A ws0 sz) s.heap H locs ([] : va_W) := fy.sub hw [] rfl rfl
                  refine W.widen (k := 263) (n := 9106) (Nat.le_of_ble_eq_true rfl) (Nat.le_of_ble_eq_true rfl) ?_
                  exact x_zM (w1 := fun _ : Unit => ([] : va_W)) E () hw (Or.inl rfl) he0 dL_store_436
                · rw [if_pos hc] at hf
                  refine W.widen (k := 104) (n := 4388) (Nat.le_of_ble_eq_true rfl) (Nat.le_of_ble_eq_true rfl) ?_
                  exact k_L_store_410 E hfl hXZ h0 n t b0 b1 hh ha r z42.2 hf ad43 _ _ hw _ (lv_sub hl [0] rfl)
set_option maxRecDepth 100000 in
set_option maxHeartbeats 4000000 in
theorem k_L_store_208 {p : Program} {l : Launch} {e : Env} {s : State} {m : MethodId} {args : Array Value} {below : List Frame} {meth : Method} {c : Code} {D : va_G} {I J O : ClassId} {ws0 : va_W} {sz : Nat} (E : fx p s m args meth c cL_store RL 3 (some .boolean) D I J O) (hfl : l.stackTraces = false) (hXZ : XZ (va_A ws0 sz) s) (h0 : Nat) (n t : Nat → Nat) (b0 b1 hh ha : Nat)  (r : Int32) : ∀ fu : Nat, ∀ (v1 : Int32) (x : ClC), f_L_store_208 fu v1 x = some r → ∀ (ad : Nat → Nat → Nat) (H : Heap) (locs : List Loc), fy D (va_A ws0 sz) s.heap H locs (wCl I h0 n t b0 b1 hh x ++ wHi I O hh ha ad x.2.2.1) → ∀ ls : Array Slot, lv_has ls 3 [(0, .ref h0), (1, .int v1)] → W p l e (rmB 12 272 263 9106) s m args below meth c H locs 101 4370 (MQ below (qMi D sz ws0 r (fun _ : Unit => ([] : va_W))) args s 263 9106 (va_A ws0 sz)) (F0 m 208 ls []) := by
  have hx := E.1
  have hb := E.2.1
  intro fu
  induction fu with
  | zero =>
    intro v1 x hf ad H locs hw ls hl
    rw [f_L_store_208.eq_1] at hf
    cases hf
  | succ fu ih =>
    intro v1 x hf ad H locs hw ls hl
    rw [f_L_store_208.eq_2] at hf
    refine lv_iload_n hx hb dL_store_208 rfl (lv_at hl 1 rfl) ?_
    refine lv_bipush (v := 11) hx hb dL_store_209 (by decide) ?_
    refine lv_icmp_ge (tgt := 272) hx hb dL_store_211 (by decide) (fun hc => ?_) (fun hc => ?_)
    · rw [if_pos hc] at hf
      refine lv_aload_n hx hb dL_store_272 rfl (lv_at hl 0 rfl) ?_
      refine lv_iconst (v := 2) hx hb dL_store_273 (by decide) ?_
      obtain ⟨z25, h, hf⟩ := rt_s hf
      refine x_ci (x_rV E (As := [.int 2]) (rest := []) (mt_X5_count l D I J O h0 n t b0 b1 hh ha ad 2 x z25 h) blR (x_recv E hw.1 0 5 rfl rfl rfl) (x_pcR E hw.1) ok_X5_count q399 rfl hl.1 rfl (Nat.le_of_ble_eq_true rfl) ⟨Nat.le_of_ble_eq_true rfl, Nat.le_of_ble_eq_true rfl⟩ ⟨Nat.le_of_ble_eq_true rfl, Nat.le_of_ble_eq_true rfl⟩ dL_store_274) ?_
      refine lv_bipush (v := 64) hx hb dL_store_277 (by decide) ?_
      refine lv_icmp_ne (tgt := 435) hx hb dL_store_279 (by decide) (fun hc => ?_) (fun hc => ?_)
      · rw [if_neg hc] at hf
        refine lv_iconst (v := 0) hx hb dL_store_435 (by decide) ?_
        have he0 := Option.some.inj hf
        have hw : fy D (va_A ws0 sz) s.heap H locs ([] : va_W) := fy.sub hw [] rfl rfl
        refine W.widen (k := 263) (n := 9106) (Nat.le_of_ble_eq_true rfl) (Nat.le_of_ble_eq_true rfl) ?_
        exact x_zM (w1 := fun _ : Unit => ([] : va_W)) E () hw (Or.inl rfl) he0 dL_store_436
      · rw [if_pos hc] at hf
        refine lv_aload_n hx hb dL_store_282 rfl (lv_at hl 0 rfl) ?_
        refine lv_iconst (v := 3) hx hb dL_store_283 (by decide) ?_
        obtain ⟨z26, h, hf⟩ := rt_s hf
        refine x_ci (x_rV E (As := [.int 3]) (rest := []) (mt_X5_count l D I J O h0 n t b0 b1 hh ha ad 3 x z26 h) blR (x_recv E hw.1 0 5 rfl rfl rfl) (x_pcR E hw.1) ok_X5_count q399 rfl hl.1 rfl (Nat.le_of_ble_eq_true rfl) ⟨Nat.le_of_ble_eq_true rfl, Nat.le_of_ble_eq_true rfl⟩ ⟨Nat.le_of_ble_eq_true rfl, Nat.le_of_ble_eq_true rfl⟩ dL_store_284) ?_
        refine lv_iconst (v := 2) hx hb dL_store_287 (by decide) ?_
        refine lv_icmp_ne (tgt := 435) hx hb dL_store_288 (by decide) (fun hc => ?_) (fun hc => ?_)
        · rw [if_neg hc] at hf
          refine lv_iconst (v := 0) hx hb dL_store_435 (by decide) ?_
          have he0 := Option.some.inj hf
          have hw : fy D (va_A ws0 sz) s.heap H locs ([] : va_W) := fy.sub hw [] rfl rfl
          refine W.widen (k := 263) (n := 9106) (Nat.le_of_ble_eq_true rfl) (Nat.le_of_ble_eq_true rfl) ?_
          exact x_zM (w1 := fun _ : Unit => ([] : va_W)) E () hw (Or.inl rfl) he0 dL_store_436
        · rw [if_pos hc] at hf
          refine lv_aload_n hx hb dL_store_291 rfl (lv_at hl 0 rfl) ?_
          refine lv_iconst (v := 4) hx hb dL_store_292 (by decide) ?_
          obtain ⟨z27, h, hf⟩ := rt_s hf
          refine x_ci (x_rV E (As := [.int 4]) (rest := []) (mt_X5_begins l D I J O h0 n t b0 b1 hh ha ad 4 x z27 h) blR (x_recv E hw.1 0 5 rfl rfl rfl) (x_pcR E hw.1) ok_X5_begins q653 rfl hl.1 rfl (Nat.le_of_ble_eq_true rfl) ⟨Nat.le_of_ble_eq_true rfl, Nat.le_of_ble_eq_true rfl⟩ ⟨Nat.le_of_ble_eq_true rfl, Nat.le_of_ble_eq_true rfl⟩ dL_store_293) ?_
          refine lv_iconst (v := (-1)) hx hb dL_store_296 (by decide) ?_
          refine lv_icmp_ne (tgt := 435) hx hb dL_store_297 (by decide) (fun hc => ?_) (fun hc => ?_)
          · rw [if_neg hc] at hf
            refine lv_iconst (v := 0) hx hb dL_store_435 (by decide) ?_
            have he0 := Option.some.inj hf
            have hw : fy D (va_A ws0 sz) s.heap H locs ([] : va_W) := fy.sub hw [] rfl rfl
            refine W.widen (k := 263) (n := 9106) (Nat.le_of_ble_eq_true rfl) (Nat.le_of_ble_eq_true rfl) ?_
            exact x_zM (w1 := fun _ : Unit => ([] : va_W)) E () hw (Or.inl rfl) he0 dL_store_436
          · rw [if_pos hc] at hf
            refine lv_aload_n hx hb dL_store_300 rfl (lv_at hl 0 rfl) ?_
            refine lv_iconst (v := 3) hx hb dL_store_301 (by decide) ?_
            obtain ⟨z28, h, hf⟩ := rt_s hf
            refine x_ci (x_rV E (As := [.int 3]) (rest := []) (mt_X5_begins l D I J O h0 n t b0 b1 hh ha ad 3 x z28 h) blR (x_recv E hw.1 0 5 rfl rfl rfl) (x_pcR E hw.1) ok_X5_begins q653 rfl hl.1 rfl (Nat.le_of_ble_eq_true rfl) ⟨Nat.le_of_ble_eq_true rfl, Nat.le_of_ble_eq_true rfl⟩ ⟨Nat.le_of_ble_eq_true rfl, Nat.le_of_ble_eq_true rfl⟩ dL_store_302) ?_
            refine lv_iconst (v := (-1)) hx hb dL_store_305 (by decide) ?_
            refine lv_icmp_ne (tgt := 435) hx hb dL_store_306 (by decide) (fun hc => ?_) (fun hc => ?_)
            · rw [if_neg hc] at hf
              refine lv_iconst (v := 0) hx hb dL_store_435 (by decide) ?_
              have he0 := Option.some.inj hf
              have hw : fy D (va_A ws0 sz) s.heap H locs ([] : va_W) := fy.sub hw [] rfl rfl
              refine W.widen (k := 263) (n := 9106) (Nat.le_of_ble_eq_true rfl) (Nat.le_of_ble_eq_true rfl) ?_
              exact x_zM (w1 := fun _ : Unit => ([] : va_W)) E () hw (Or.inl rfl) he0 dL_store_436
            · rw [if_pos hc] at hf
              refine lv_aload_n hx hb dL_store_309 rfl (lv_at hl 0 rfl) ?_
              refine lv_iconst (v := 2) hx hb dL_store_310 (by decide) ?_
              obtain ⟨z29, h, hf⟩ := rt_s hf
              refine x_ci (x_rV E (As := [.int 2]) (rest := []) (mt_X5_begins l D I J O h0 n t b0 b1 hh ha ad 2 x z29 h) blR (x_recv E hw.1 0 5 rfl rfl rfl) (x_pcR E hw.1) ok_X5_begins q653 rfl hl.1 rfl (Nat.le_of_ble_eq_true rfl) ⟨Nat.le_of_ble_eq_true rfl, Nat.le_of_ble_eq_true rfl⟩ ⟨Nat.le_of_ble_eq_true rfl, Nat.le_of_ble_eq_true rfl⟩ dL_store_311) ?_
              refine lv_bipush (v := 62) hx hb dL_store_314 (by decide) ?_
              refine lv_icmp_ne (tgt := 435) hx hb dL_store_316 (by decide) (fun hc => ?_) (fun hc => ?_)
              · rw [if_neg hc] at hf
                refine lv_iconst (v := 0) hx hb dL_store_435 (by decide) ?_
                have he0 := Option.some.inj hf
                have hw : fy D (va_A ws0 sz) s.heap H locs ([] : va_W) := fy.sub hw [] rfl rfl
                refine W.widen (k := 263) (n := 9106) (Nat.le_of_ble_eq_true rfl) (Nat.le_of_ble_eq_true rfl) ?_
                exact x_zM (w1 := fun _ : Unit => ([] : va_W)) E () hw (Or.inl rfl) he0 dL_store_436
              · rw [if_pos hc] at hf
                refine W.widen (k := 101) (n := 4370) (Nat.le_of_ble_eq_true rfl) (Nat.le_of_ble_eq_true rfl) ?_
                exact k_L_store_319 E hfl hXZ h0 n t b0 b1 hh ha r x hf ad _ _ hw _ (lv_sub hl [0] rfl)
    · rw [if_neg hc] at hf
      refine lv_aload_n hx hb dL_store_214 rfl (lv_at hl 0 rfl) ?_
      refine lv_sipush (v := 900) hx hb dL_store_215 (by decide) ?_
      refine lv_iconst (v := 4) hx hb dL_store_218 (by decide) ?_
      refine lv_iconst (v := 0) hx hb dL_store_219 (by decide) ?_
      obtain ⟨z30, h, hf⟩ := rt_s hf
      refine x_miFP0 hw (x_rV E (As := [.int 900, .int 4, .int 0]) (rest := []) (mt_X5_put l D I J O h0 n t b0 b1 hh ha ad H.size 900 4 0 x z30.1 z30.2 h) blM (x_recv E hw.1 0 5 rfl rfl rfl) (x_pcMPF0 E hw) ok_X5_put q451 rfl hl.1 rfl (Nat.le_of_ble_eq_true rfl) ⟨Nat.le_of_ble_eq_true rfl, Nat.le_of_ble_eq_true rfl⟩ ⟨Nat.le_of_ble_eq_true rfl, Nat.le_of_ble_eq_true rfl⟩ dL_store_220) (fun _ => rfl) (fun ad31 H locs hw => ?_)
      have hw : fy D (va_A ws0 sz) s.heap H locs (wCl I h0 n t b0 b1 hh z30.2 ++ wHi I O hh ha ad31 z30.2.2.2.1) := hw
      refine lv_iload_n hx hb dL_store_223 rfl (lv_at hl 1 rfl) ?_
      refine lv_if_ne (tgt := 233) hx hb dL_store_224 (by decide) (fun hc => ?_) (fun hc => ?_)
      · rw [if_neg hc] at hf
        refine lv_iload_n hx hb dL_store_233 rfl (lv_at hl 1 rfl) ?_
        refine lv_iconst (v := 3) hx hb dL_store_234 (by decide) ?_
        refine lv_icmp_ge (tgt := 250) hx hb dL_store_235 (by decide) (fun hc => ?_) (fun hc => ?_)
        · rw [if_pos hc] at hf
          refine lv_sipush (v := 30000) hx hb dL_store_250 (by decide) ?_
          refine lv_sipush (v := 4000) hx hb dL_store_253 (by decide) ?_
          refine lv_iload_n hx hb dL_store_256 rfl (lv_at hl 1 rfl) ?_
          refine lv_iconst (v := 3) hx hb dL_store_257 (by decide) ?_
          refine lv_isub hx hb dL_store_258 ?_
          refine lv_imul hx hb dL_store_259 ?_
          refine lv_iadd hx hb dL_store_260 ?_
          refine W.widen (k := 101) (n := 4370) (Nat.le_of_ble_eq_true rfl) (Nat.le_of_ble_eq_true rfl) ?_
          exact k_L_store_261 E hfl hXZ h0 n t b0 b1 hh ha r (f_L_store_208 fu) ih v1 z30.1 (30000 + (4000 * (v1 - 3))) z30.2 hf ad31 _ _ hw _ (lv_sub hl [0, 1] rfl)
        · rw [if_neg hc] at hf
          refine lv_sipush (v := 18000) hx hb dL_store_238 (by decide) ?_
          refine lv_sipush (v := 4000) hx hb dL_store_241 (by decide) ?_
          refine lv_iload_n hx hb dL_store_244 rfl (lv_at hl 1 rfl) ?_
          refine lv_imul hx hb dL_store_245 ?_
          refine lv_iadd hx hb dL_store_246 ?_
          refine lv_goto (tgt := 261) hx hb dL_store_247 (by decide) ?_
          refine W.widen (k := 101) (n := 4370) (Nat.le_of_ble_eq_true rfl) (Nat.le_of_ble_eq_true rfl) ?_
          exact k_L_store_261 E hfl hXZ h0 n t b0 b1 hh ha r (f_L_store_208 fu) ih v1 z30.1 (18000 + (4000 * v1)) z30.2 hf ad31 _ _ hw _ (lv_sub hl [0, 1] rfl)
      · rw [if_pos hc] at hf
        refine lv_sipush (v := 15001) hx hb dL_store_227 (by decide) ?_
        refine lv_goto (tgt := 261) hx hb dL_store_230 (by decide) ?_
        refine W.widen (k := 101) (n := 4370) (Nat.le_of_ble_eq_true rfl) (Nat.le_of_ble_eq_true rfl) ?_
        exact k_L_store_261 E hfl hXZ h0 n t b0 b1 hh ha r (f_L_store_208 fu) ih v1 z30.1 15001 z30.2 hf ad31 _ _ hw _ (lv_sub hl [0, 1] rfl)
set_option maxRecDepth 100000 in
set_option maxHeartbeats 4000000 in
theorem k_L_store_182 {p : Program} {l : Launch} {e : Env} {s : State} {m : MethodId} {args : Array Value} {below : List Frame} {meth : Method} {c : Code} {D : va_G} {I J O : ClassId} {ws0 : va_W} {sz : Nat} (E : fx p s m args meth c cL_store RL 3 (some .boolean) D I J O) (hfl : l.stackTraces = false) (hXZ : XZ (va_A ws0 sz) s) (h0 : Nat) (n t : Nat → Nat) (b0 b1 hh ha : Nat)  (r : Int32) : ∀ (x : ClC), f_L_store_182 x = some r → ∀ (ad : Nat → Nat → Nat) (H : Heap) (locs : List Loc), fy D (va_A ws0 sz) s.heap H locs (wCl I h0 n t b0 b1 hh x ++ wHi I O hh ha ad x.2.2.1) → ∀ ls : Array Slot, lv_has ls 3 [(0, .ref h0)] → W p l e (rmB 12 272 263 9106) s m args below meth c H locs 101 4370 (MQ below (qMi D sz ws0 r (fun _ : Unit => ([] : va_W))) args s 263 9106 (va_A ws0 sz)) (F0 m 182 ls []) := by
  have hx := E.1
  have hb := E.2.1
  intro x hf ad H locs hw ls hl
  unfold f_L_store_182 at hf
  refine lv_aload_n hx hb dL_store_182 rfl (lv_at hl 0 rfl) ?_
  refine lv_sipush (v := 19000) hx hb dL_store_183 (by decide) ?_
  refine lv_iconst (v := 1) hx hb dL_store_186 (by decide) ?_
  obtain ⟨z23, h, hf⟩ := rt_s hf
  refine x_ci (x_rV E (As := [.int 19000, .int 1]) (rest := []) (mt_X5_thing l D I J O h0 n t b0 b1 hh ha ad 19000 1 x z23 h) blR (x_recv E hw.1 0 5 rfl rfl rfl) (x_pcR E hw.1) ok_X5_thing q622 rfl hl.1 rfl (Nat.le_of_ble_eq_true rfl) ⟨Nat.le_of_ble_eq_true rfl, Nat.le_of_ble_eq_true rfl⟩ ⟨Nat.le_of_ble_eq_true rfl, Nat.le_of_ble_eq_true rfl⟩ dL_store_187) ?_
  refine lv_iconst (v := 3) hx hb dL_store_190 (by decide) ?_
  refine lv_icmp_ne (tgt := 204) hx hb dL_store_191 (by decide) (fun hc => ?_) (fun hc => ?_)
  · rw [if_neg hc] at hf
    refine lv_iconst (v := 0) hx hb dL_store_204 (by decide) ?_
    have he0 := Option.some.inj hf
    have hw : fy D (va_A ws0 sz) s.heap H locs ([] : va_W) := fy.sub hw [] rfl rfl
    refine W.widen (k := 263) (n := 9106) (Nat.le_of_ble_eq_true rfl) (Nat.le_of_ble_eq_true rfl) ?_
    exact x_zM (w1 := fun _ : Unit => ([] : va_W)) E () hw (Or.inl rfl) he0 dL_store_205
  · rw [if_pos hc] at hf
    refine lv_aload_n hx hb dL_store_194 rfl (lv_at hl 0 rfl) ?_
    refine lv_iconst (v := 3) hx hb dL_store_195 (by decide) ?_
    obtain ⟨z24, h, hf⟩ := rt_s hf
    refine x_ci (x_rV E (As := [.int 3]) (rest := []) (mt_X5_count l D I J O h0 n t b0 b1 hh ha ad 3 x z24 h) blR (x_recv E hw.1 0 5 rfl rfl rfl) (x_pcR E hw.1) ok_X5_count q399 rfl hl.1 rfl (Nat.le_of_ble_eq_true rfl) ⟨Nat.le_of_ble_eq_true rfl, Nat.le_of_ble_eq_true rfl⟩ ⟨Nat.le_of_ble_eq_true rfl, Nat.le_of_ble_eq_true rfl⟩ dL_store_196) ?_
    refine lv_bipush (v := 14) hx hb dL_store_199 (by decide) ?_
    refine lv_icmp_eq (tgt := 206) hx hb dL_store_201 (by decide) (fun hc => ?_) (fun hc => ?_)
    · rw [if_pos hc] at hf
      refine lv_iconst (v := 0) hx hb dL_store_206 (by decide) ?_
      refine lv_istore_n (lv' := [(1, .int 0), (0, .ref h0)]) hx hb dL_store_207 rfl hl (by decide) rfl (fun ls hl => ?_)
      refine W.widen (k := 101) (n := 4370) (Nat.le_of_ble_eq_true rfl) (Nat.le_of_ble_eq_true rfl) ?_
      exact k_L_store_208 E hfl hXZ h0 n t b0 b1 hh ha r FU 0 x hf ad _ _ hw _ (lv_sub hl [1, 0] rfl)
    · rw [if_neg hc] at hf
      refine lv_iconst (v := 0) hx hb dL_store_204 (by decide) ?_
      have he0 := Option.some.inj hf
      have hw : fy D (va_A ws0 sz) s.heap H locs ([] : va_W) := fy.sub hw [] rfl rfl
      refine W.widen (k := 263) (n := 9106) (Nat.le_of_ble_eq_true rfl) (Nat.le_of_ble_eq_true rfl) ?_
      exact x_zM (w1 := fun _ : Unit => ([] : va_W)) E () hw (Or.inl rfl) he0 dL_store_205
set_option maxRecDepth 100000 in
set_option maxHeartbeats 4000000 in
theorem k_L_store_104 {p : Program} {l : Launch} {e : Env} {s : State} {m : MethodId} {args : Array Value} {below : List Frame} {meth : Method} {c : Code} {D : va_G} {I J O : ClassId} {ws0 : va_W} {sz : Nat} (E : fx p s m args meth c cL_store RL 3 (some .boolean) D I J O) (hfl : l.stackTraces = false) (hXZ : XZ (va_A ws0 sz) s) (h0 : Nat) (n t : Nat → Nat) (b0 b1 hh ha : Nat)  (r : Int32) : ∀ (x : ClC), f_L_store_104 x = some r → ∀ (ad : Nat → Nat → Nat) (H : Heap) (locs : List Loc), fy D (va_A ws0 sz) s.heap H locs (wCl I h0 n t b0 b1 hh x ++ wHi I O hh ha ad x.2.2.1) → ∀ ls : Array Slot, lv_has ls 3 [(0, .ref h0)] → W p l e (rmB 12 272 263 9106) s m args below meth c H locs 101 4370 (MQ below (qMi D sz ws0 r (fun _ : Unit => ([] : va_W))) args s 263 9106 (va_A ws0 sz)) (F0 m 104 ls []) := by
  have hx := E.1
  have hb := E.2.1
  intro x hf ad H locs hw ls hl
  unfold f_L_store_104 at hf
  refine lv_aload_n hx hb dL_store_104 rfl (lv_at hl 0 rfl) ?_
  refine lv_iconst (v := 1) hx hb dL_store_105 (by decide) ?_
  obtain ⟨z12, h, hf⟩ := rt_s hf
  refine x_ci (x_rV E (As := [.int 1]) (rest := []) (mt_X5_begins l D I J O h0 n t b0 b1 hh ha ad 1 x z12 h) blR (x_recv E hw.1 0 5 rfl rfl rfl) (x_pcR E hw.1) ok_X5_begins q653 rfl hl.1 rfl (Nat.le_of_ble_eq_true rfl) ⟨Nat.le_of_ble_eq_true rfl, Nat.le_of_ble_eq_true rfl⟩ ⟨Nat.le_of_ble_eq_true rfl, Nat.le_of_ble_eq_true rfl⟩ dL_store_106) ?_
  refine lv_bipush (v := 19) hx hb dL_store_109 (by decide) ?_
  refine lv_icmp_ne (tgt := 204) hx hb dL_store_111 (by decide) (fun hc => ?_) (fun hc => ?_)
  · rw [if_neg hc] at hf
    refine lv_iconst (v := 0) hx hb dL_store_204 (by decide) ?_
    have he0 := Option.some.inj hf
    have hw : fy D (va_A ws0 sz) s.heap H locs ([] : va_W) := fy.sub hw [] rfl rfl
    refine W.widen (k := 263) (n := 9106) (Nat.le_of_ble_eq_true rfl) (Nat.le_of_ble_eq_true rfl) ?_
    exact x_zM (w1 := fun _ : Unit => ([] : va_W)) E () hw (Or.inl rfl) he0 dL_store_205
  · rw [if_pos hc] at hf
    refine lv_aload_n hx hb dL_store_114 rfl (lv_at hl 0 rfl) ?_
    refine lv_iconst (v := 1) hx hb dL_store_115 (by decide) ?_
    obtain ⟨z13, h, hf⟩ := rt_s hf
    refine x_miFP0 hw (x_rV E (As := [.int 1]) (rest := []) (mt_X5_goOn l D I J O h0 n t b0 b1 hh ha ad H.size 1 x z13.1 z13.2 h) blM (x_recv E hw.1 0 5 rfl rfl rfl) (x_pcMPF0 E hw) ok_X5_goOn q538 rfl hl.1 rfl (Nat.le_of_ble_eq_true rfl) ⟨Nat.le_of_ble_eq_true rfl, Nat.le_of_ble_eq_true rfl⟩ ⟨Nat.le_of_ble_eq_true rfl, Nat.le_of_ble_eq_true rfl⟩ dL_store_116) (fun _ => rfl) (fun ad14 H locs hw => ?_)
    have hw : fy D (va_A ws0 sz) s.heap H locs (wCl I h0 n t b0 b1 hh z13.2 ++ wHi I O hh ha ad14 z13.2.2.2.1) := hw
    refine lv_if_ne (tgt := 204) hx hb dL_store_119 (by decide) (fun hc => ?_) (fun hc => ?_)
    · rw [if_neg hc] at hf
      refine lv_iconst (v := 0) hx hb dL_store_204 (by decide) ?_
      have he0 := Option.some.inj hf
      have hw : fy D (va_A ws0 sz) s.heap H locs ([] : va_W) := fy.sub hw [] rfl rfl
      refine W.widen (k := 263) (n := 9106) (Nat.le_of_ble_eq_true rfl) (Nat.le_of_ble_eq_true rfl) ?_
      exact x_zM (w1 := fun _ : Unit => ([] : va_W)) E () hw (Or.inl rfl) he0 dL_store_205
    · rw [if_pos hc] at hf
      refine lv_aload_n hx hb dL_store_122 rfl (lv_at hl 0 rfl) ?_
      refine lv_bipush (v := 9) hx hb dL_store_123 (by decide) ?_
      refine lv_iconst (v := 2) hx hb dL_store_125 (by decide) ?_
      obtain ⟨z15, h, hf⟩ := rt_s hf
      refine x_miFP0 hw (x_rV E (As := [.int 9, .int 2]) (rest := []) (mt_X5_ifFired l D I J O h0 n t b0 b1 hh ha ad14 H.size 9 2 z13.2 z15.1 z15.2 h) blM (x_recv E hw.1 0 5 rfl rfl rfl) (x_pcMPF0 E hw) ok_X5_ifFired q671 rfl hl.1 rfl (Nat.le_of_ble_eq_true rfl) ⟨Nat.le_of_ble_eq_true rfl, Nat.le_of_ble_eq_true rfl⟩ ⟨Nat.le_of_ble_eq_true rfl, Nat.le_of_ble_eq_true rfl⟩ dL_store_126) (fun _ => rfl) (fun ad16 H locs hw => ?_)
      have hw : fy D (va_A ws0 sz) s.heap H locs (wCl I h0 n t b0 b1 hh z15.2 ++ wHi I O hh ha ad16 z15.2.2.2.1) := hw
      refine lv_bipush (v := 64) hx hb dL_store_129 (by decide) ?_
      refine lv_icmp_ne (tgt := 204) hx hb dL_store_131 (by decide) (fun hc => ?_) (fun hc => ?_)
      · rw [if_neg hc] at hf
        refine lv_iconst (v := 0) hx hb dL_store_204 (by decide) ?_
        have he0 := Option.some.inj hf
        have hw : fy D (va_A ws0 sz) s.heap H locs ([] : va_W) := fy.sub hw [] rfl rfl
        refine W.widen (k := 263) (n := 9106) (Nat.le_of_ble_eq_true rfl) (Nat.le_of_ble_eq_true rfl) ?_
        exact x_zM (w1 := fun _ : Unit => ([] : va_W)) E () hw (Or.inl rfl) he0 dL_store_205
      · rw [if_pos hc] at hf
        refine lv_aload_n hx hb dL_store_134 rfl (lv_at hl 0 rfl) ?_
        obtain ⟨z17, h, hf⟩ := bd_s hf
        refine x_miFP0 hw (x_rV E (As := []) (rest := []) (mt_X5_fire l D I J O h0 n t b0 b1 hh ha ad16 H.size z15.2 z17.1 z17.2 h) blM (x_recv E hw.1 0 5 rfl rfl rfl) (x_pcMPF0 E hw) ok_X5_fire q144 rfl hl.1 rfl (Nat.le_of_ble_eq_true rfl) ⟨Nat.le_of_ble_eq_true rfl, Nat.le_of_ble_eq_true rfl⟩ ⟨Nat.le_of_ble_eq_true rfl, Nat.le_of_ble_eq_true rfl⟩ dL_store_135) (fun _ => rfl) (fun ad18 H locs hw => ?_)
        have hw : fy D (va_A ws0 sz) s.heap H locs (wCl I h0 n t b0 b1 hh z17.2 ++ wHi I O hh ha ad18 z17.2.2.2.1) := hw
        refine lv_bipush (v := 10) hx hb dL_store_138 (by decide) ?_
        refine lv_icmp_ne (tgt := 204) hx hb dL_store_140 (by decide) (fun hc => ?_) (fun hc => ?_)
        · rw [if_neg hc] at hf
          refine lv_iconst (v := 0) hx hb dL_store_204 (by decide) ?_
          have he0 := Option.some.inj hf
          have hw : fy D (va_A ws0 sz) s.heap H locs ([] : va_W) := fy.sub hw [] rfl rfl
          refine W.widen (k := 263) (n := 9106) (Nat.le_of_ble_eq_true rfl) (Nat.le_of_ble_eq_true rfl) ?_
          exact x_zM (w1 := fun _ : Unit => ([] : va_W)) E () hw (Or.inl rfl) he0 dL_store_205
        · rw [if_pos hc] at hf
          refine lv_aload_n hx hb dL_store_143 rfl (lv_at hl 0 rfl) ?_
          refine lv_sipush (v := 15000) hx hb dL_store_144 (by decide) ?_
          obtain ⟨z19, h, hf⟩ := bd_s hf
          refine x_ci (x_rV E (As := [.int 15000]) (rest := []) (mt_X5_refusal l D I J O h0 n t b0 b1 hh ha ad18 15000 z17.2 z19 h) blR (x_recv E hw.1 0 5 rfl rfl rfl) (x_pcR E hw.1) ok_X5_refusal q744 rfl hl.1 rfl (Nat.le_of_ble_eq_true rfl) ⟨Nat.le_of_ble_eq_true rfl, Nat.le_of_ble_eq_true rfl⟩ ⟨Nat.le_of_ble_eq_true rfl, Nat.le_of_ble_eq_true rfl⟩ dL_store_147) ?_
          refine lv_iconst (v := 2) hx hb dL_store_150 (by decide) ?_
          refine lv_icmp_ne (tgt := 204) hx hb dL_store_151 (by decide) (fun hc => ?_) (fun hc => ?_)
          · rw [if_neg hc] at hf
            refine lv_iconst (v := 0) hx hb dL_store_204 (by decide) ?_
            have he0 := Option.some.inj hf
            have hw : fy D (va_A ws0 sz) s.heap H locs ([] : va_W) := fy.sub hw [] rfl rfl
            refine W.widen (k := 263) (n := 9106) (Nat.le_of_ble_eq_true rfl) (Nat.le_of_ble_eq_true rfl) ?_
            exact x_zM (w1 := fun _ : Unit => ([] : va_W)) E () hw (Or.inl rfl) he0 dL_store_205
          · rw [if_pos hc] at hf
            refine lv_aload_n hx hb dL_store_154 rfl (lv_at hl 0 rfl) ?_
            refine lv_iconst (v := 4) hx hb dL_store_155 (by decide) ?_
            obtain ⟨z20, h, hf⟩ := rt_s hf
            refine x_ci (x_rV E (As := [.int 4]) (rest := []) (mt_X5_at l D I J O h0 n t b0 b1 hh ha ad18 4 z17.2 z20 h) blR (x_recv E hw.1 0 5 rfl rfl rfl) (x_pcR E hw.1) ok_X5_at q371 rfl hl.1 rfl (Nat.le_of_ble_eq_true rfl) ⟨Nat.le_of_ble_eq_true rfl, Nat.le_of_ble_eq_true rfl⟩ ⟨Nat.le_of_ble_eq_true rfl, Nat.le_of_ble_eq_true rfl⟩ dL_store_156) ?_
            refine lv_sipush (v := 19000) hx hb dL_store_159 (by decide) ?_
            refine lv_icmp_ne (tgt := 204) hx hb dL_store_162 (by decide) (fun hc => ?_) (fun hc => ?_)
            · rw [if_neg hc] at hf
              refine lv_iconst (v := 0) hx hb dL_store_204 (by decide) ?_
              have he0 := Option.some.inj hf
              have hw : fy D (va_A ws0 sz) s.heap H locs ([] : va_W) := fy.sub hw [] rfl rfl
              refine W.widen (k := 263) (n := 9106) (Nat.le_of_ble_eq_true rfl) (Nat.le_of_ble_eq_true rfl) ?_
              exact x_zM (w1 := fun _ : Unit => ([] : va_W)) E () hw (Or.inl rfl) he0 dL_store_205
            · rw [if_pos hc] at hf
              refine lv_aload_n hx hb dL_store_165 rfl (lv_at hl 0 rfl) ?_
              refine lv_iconst (v := 0) hx hb dL_store_166 (by decide) ?_
              obtain ⟨z21, h, hf⟩ := rt_s hf
              refine x_ci (x_rV E (As := [.int 0]) (rest := []) (mt_X5_count l D I J O h0 n t b0 b1 hh ha ad18 0 z17.2 z21 h) blR (x_recv E hw.1 0 5 rfl rfl rfl) (x_pcR E hw.1) ok_X5_count q399 rfl hl.1 rfl (Nat.le_of_ble_eq_true rfl) ⟨Nat.le_of_ble_eq_true rfl, Nat.le_of_ble_eq_true rfl⟩ ⟨Nat.le_of_ble_eq_true rfl, Nat.le_of_ble_eq_true rfl⟩ dL_store_167) ?_
              refine lv_iconst (v := 5) hx hb dL_store_170 (by decide) ?_
              refine lv_icmp_ne (tgt := 204) hx hb dL_store_171 (by decide) (fun hc => ?_) (fun hc => ?_)
              · rw [if_neg hc] at hf
                refine lv_iconst (v := 0) hx hb dL_store_204 (by decide) ?_
                have he0 := Option.some.inj hf
                have hw : fy D (va_A ws0 sz) s.heap H locs ([] : va_W) := fy.sub hw [] rfl rfl
                refine W.widen (k := 263) (n := 9106) (Nat.le_of_ble_eq_true rfl) (Nat.le_of_ble_eq_true rfl) ?_
                exact x_zM (w1 := fun _ : Unit => ([] : va_W)) E () hw (Or.inl rfl) he0 dL_store_205
              · rw [if_pos hc] at hf
                refine lv_aload_n hx hb dL_store_174 rfl (lv_at hl 0 rfl) ?_
                refine lv_iconst (v := 1) hx hb dL_store_175 (by decide) ?_
                obtain ⟨z22, h, hf⟩ := rt_s hf
                refine x_ci (x_rV E (As := [.int 1]) (rest := []) (mt_X5_count l D I J O h0 n t b0 b1 hh ha ad18 1 z17.2 z22 h) blR (x_recv E hw.1 0 5 rfl rfl rfl) (x_pcR E hw.1) ok_X5_count q399 rfl hl.1 rfl (Nat.le_of_ble_eq_true rfl) ⟨Nat.le_of_ble_eq_true rfl, Nat.le_of_ble_eq_true rfl⟩ ⟨Nat.le_of_ble_eq_true rfl, Nat.le_of_ble_eq_true rfl⟩ dL_store_176) ?_
                refine lv_if_ne (tgt := 204) hx hb dL_store_179 (by decide) (fun hc => ?_) (fun hc => ?_)
                · rw [if_neg hc] at hf
                  refine lv_iconst (v := 0) hx hb dL_store_204 (by decide) ?_
                  have he0 := Option.some.inj hf
                  have hw : fy D (va_A ws0 sz) s.heap H locs ([] : va_W) := fy.sub hw [] rfl rfl
                  refine W.widen (k := 263) (n := 9106) (Nat.le_of_ble_eq_true rfl) (Nat.le_of_ble_eq_true rfl) ?_
                  exact x_zM (w1 := fun _ : Unit => ([] : va_W)) E () hw (Or.inl rfl) he0 dL_store_205
                · rw [if_pos hc] at hf
                  refine W.widen (k := 101) (n := 4370) (Nat.le_of_ble_eq_true rfl) (Nat.le_of_ble_eq_true rfl) ?_
                  exact k_L_store_182 E hfl hXZ h0 n t b0 b1 hh ha r z17.2 hf ad18 _ _ hw _ (lv_sub hl [0] rfl)
set_option maxRecDepth 100000 in
set_option maxHeartbeats 4000000 in
theorem k_L_store_10 {p : Program} {l : Launch} {e : Env} {s : State} {m : MethodId} {args : Array Value} {below : List Frame} {meth : Method} {c : Code} {D : va_G} {I J O : ClassId} {ws0 : va_W} {sz : Nat} (E : fx p s m args meth c cL_store RL 3 (some .boolean) D I J O) (hfl : l.stackTraces = false) (hXZ : XZ (va_A ws0 sz) s) (h0 : Nat) (n t : Nat → Nat) (b0 b1 hh ha : Nat)  (r : Int32) : ∀ fu : Nat, ∀ (v1 : Int32) (x : ClC), f_L_store_10 fu v1 x = some r → ∀ (ad : Nat → Nat → Nat) (H : Heap) (locs : List Loc), fy D (va_A ws0 sz) s.heap H locs (wCl I h0 n t b0 b1 hh x ++ wHi I O hh ha ad x.2.2.1) → ∀ ls : Array Slot, lv_has ls 3 [(0, .ref h0), (1, .int v1)] → W p l e (rmB 12 272 263 9106) s m args below meth c H locs 101 4370 (MQ below (qMi D sz ws0 r (fun _ : Unit => ([] : va_W))) args s 263 9106 (va_A ws0 sz)) (F0 m 10 ls []) := by
  have hx := E.1
  have hb := E.2.1
  intro fu
  induction fu with
  | zero =>
    intro v1 x hf ad H locs hw ls hl
    rw [f_L_store_10.eq_1] at hf
    cases hf
  | succ fu ih =>
    intro v1 x hf ad H locs hw ls hl
    rw [f_L_store_10.eq_2] at hf
    refine lv_iload_n hx hb dL_store_10 rfl (lv_at hl 1 rfl) ?_
    refine lv_iconst (v := 3) hx hb dL_store_11 (by decide) ?_
    refine lv_icmp_ge (tgt := 38) hx hb dL_store_12 (by decide) (fun hc => ?_) (fun hc => ?_)
    · rw [if_pos hc] at hf
      refine lv_aload_n hx hb dL_store_38 rfl (lv_at hl 0 rfl) ?_
      refine lv_iconst (v := 3) hx hb dL_store_39 (by decide) ?_
      refine lv_iconst (v := 3) hx hb dL_store_40 (by decide) ?_
      refine lv_iconst (v := 2) hx hb dL_store_41 (by decide) ?_
      obtain ⟨z2, h, hf⟩ := rt_s hf
      refine x_miFP0 hw (x_rV E (As := [.int 3, .int 3, .int 2]) (rest := []) (mt_X5_put l D I J O h0 n t b0 b1 hh ha ad H.size 3 3 2 x z2.1 z2.2 h) blM (x_recv E hw.1 0 5 rfl rfl rfl) (x_pcMPF0 E hw) ok_X5_put q451 rfl hl.1 rfl (Nat.le_of_ble_eq_true rfl) ⟨Nat.le_of_ble_eq_true rfl, Nat.le_of_ble_eq_true rfl⟩ ⟨Nat.le_of_ble_eq_true rfl, Nat.le_of_ble_eq_true rfl⟩ dL_store_42) (fun _ => rfl) (fun ad3 H locs hw => ?_)
      have hw : fy D (va_A ws0 sz) s.heap H locs (wCl I h0 n t b0 b1 hh z2.2 ++ wHi I O hh ha ad3 z2.2.2.2.1) := hw
      refine lv_sipush (v := 12000) hx hb dL_store_45 (by decide) ?_
      refine lv_icmp_ne (tgt := 204) hx hb dL_store_48 (by decide) (fun hc => ?_) (fun hc => ?_)
      · rw [if_neg hc] at hf
        refine lv_iconst (v := 0) hx hb dL_store_204 (by decide) ?_
        have he0 := Option.some.inj hf
        have hw : fy D (va_A ws0 sz) s.heap H locs ([] : va_W) := fy.sub hw [] rfl rfl
        refine W.widen (k := 263) (n := 9106) (Nat.le_of_ble_eq_true rfl) (Nat.le_of_ble_eq_true rfl) ?_
        exact x_zM (w1 := fun _ : Unit => ([] : va_W)) E () hw (Or.inl rfl) he0 dL_store_205
      · rw [if_pos hc] at hf
        refine lv_aload_n hx hb dL_store_51 rfl (lv_at hl 0 rfl) ?_
        refine lv_iconst (v := 1) hx hb dL_store_52 (by decide) ?_
        obtain ⟨z4, h, hf⟩ := rt_s hf
        refine x_ci (x_rV E (As := [.int 1]) (rest := []) (mt_X5_begins l D I J O h0 n t b0 b1 hh ha ad3 1 z2.2 z4 h) blR (x_recv E hw.1 0 5 rfl rfl rfl) (x_pcR E hw.1) ok_X5_begins q653 rfl hl.1 rfl (Nat.le_of_ble_eq_true rfl) ⟨Nat.le_of_ble_eq_true rfl, Nat.le_of_ble_eq_true rfl⟩ ⟨Nat.le_of_ble_eq_true rfl, Nat.le_of_ble_eq_true rfl⟩ dL_store_53) ?_
        refine lv_bipush (v := 15) hx hb dL_store_56 (by decide) ?_
        refine lv_icmp_ne (tgt := 204) hx hb dL_store_58 (by decide) (fun hc => ?_) (fun hc => ?_)
        · rw [if_neg hc] at hf
          refine lv_iconst (v := 0) hx hb dL_store_204 (by decide) ?_
          have he0 := Option.some.inj hf
          have hw : fy D (va_A ws0 sz) s.heap H locs ([] : va_W) := fy.sub hw [] rfl rfl
          refine W.widen (k := 263) (n := 9106) (Nat.le_of_ble_eq_true rfl) (Nat.le_of_ble_eq_true rfl) ?_
          exact x_zM (w1 := fun _ : Unit => ([] : va_W)) E () hw (Or.inl rfl) he0 dL_store_205
        · rw [if_pos hc] at hf
          refine lv_aload_n hx hb dL_store_61 rfl (lv_at hl 0 rfl) ?_
          refine lv_iconst (v := 4) hx hb dL_store_62 (by decide) ?_
          obtain ⟨z5, h, hf⟩ := rt_s hf
          refine x_ci (x_rV E (As := [.int 4]) (rest := []) (mt_X5_begins l D I J O h0 n t b0 b1 hh ha ad3 4 z2.2 z5 h) blR (x_recv E hw.1 0 5 rfl rfl rfl) (x_pcR E hw.1) ok_X5_begins q653 rfl hl.1 rfl (Nat.le_of_ble_eq_true rfl) ⟨Nat.le_of_ble_eq_true rfl, Nat.le_of_ble_eq_true rfl⟩ ⟨Nat.le_of_ble_eq_true rfl, Nat.le_of_ble_eq_true rfl⟩ dL_store_63) ?_
          refine lv_bipush (v := 15) hx hb dL_store_66 (by decide) ?_
          refine lv_icmp_ne (tgt := 204) hx hb dL_store_68 (by decide) (fun hc => ?_) (fun hc => ?_)
          · rw [if_neg hc] at hf
            refine lv_iconst (v := 0) hx hb dL_store_204 (by decide) ?_
            have he0 := Option.some.inj hf
            have hw : fy D (va_A ws0 sz) s.heap H locs ([] : va_W) := fy.sub hw [] rfl rfl
            refine W.widen (k := 263) (n := 9106) (Nat.le_of_ble_eq_true rfl) (Nat.le_of_ble_eq_true rfl) ?_
            exact x_zM (w1 := fun _ : Unit => ([] : va_W)) E () hw (Or.inl rfl) he0 dL_store_205
          · rw [if_pos hc] at hf
            refine lv_aload_n hx hb dL_store_71 rfl (lv_at hl 0 rfl) ?_
            refine lv_iconst (v := 2) hx hb dL_store_72 (by decide) ?_
            obtain ⟨z6, h, hf⟩ := rt_s hf
            refine x_ci (x_rV E (As := [.int 2]) (rest := []) (mt_X5_count l D I J O h0 n t b0 b1 hh ha ad3 2 z2.2 z6 h) blR (x_recv E hw.1 0 5 rfl rfl rfl) (x_pcR E hw.1) ok_X5_count q399 rfl hl.1 rfl (Nat.le_of_ble_eq_true rfl) ⟨Nat.le_of_ble_eq_true rfl, Nat.le_of_ble_eq_true rfl⟩ ⟨Nat.le_of_ble_eq_true rfl, Nat.le_of_ble_eq_true rfl⟩ dL_store_73) ?_
            refine lv_bipush (v := 16) hx hb dL_store_76 (by decide) ?_
            refine lv_icmp_ne (tgt := 204) hx hb dL_store_78 (by decide) (fun hc => ?_) (fun hc => ?_)
            · rw [if_neg hc] at hf
              refine lv_iconst (v := 0) hx hb dL_store_204 (by decide) ?_
              have he0 := Option.some.inj hf
              have hw : fy D (va_A ws0 sz) s.heap H locs ([] : va_W) := fy.sub hw [] rfl rfl
              refine W.widen (k := 263) (n := 9106) (Nat.le_of_ble_eq_true rfl) (Nat.le_of_ble_eq_true rfl) ?_
              exact x_zM (w1 := fun _ : Unit => ([] : va_W)) E () hw (Or.inl rfl) he0 dL_store_205
            · rw [if_pos hc] at hf
              refine lv_aload_n hx hb dL_store_81 rfl (lv_at hl 0 rfl) ?_
              refine lv_iconst (v := 4) hx hb dL_store_82 (by decide) ?_
              refine lv_iconst (v := 4) hx hb dL_store_83 (by decide) ?_
              refine lv_iconst (v := 1) hx hb dL_store_84 (by decide) ?_
              obtain ⟨z7, h, hf⟩ := rt_s hf
              refine x_miFP0 hw (x_rV E (As := [.int 4, .int 4, .int 1]) (rest := []) (mt_X5_put l D I J O h0 n t b0 b1 hh ha ad3 H.size 4 4 1 z2.2 z7.1 z7.2 h) blM (x_recv E hw.1 0 5 rfl rfl rfl) (x_pcMPF0 E hw) ok_X5_put q451 rfl hl.1 rfl (Nat.le_of_ble_eq_true rfl) ⟨Nat.le_of_ble_eq_true rfl, Nat.le_of_ble_eq_true rfl⟩ ⟨Nat.le_of_ble_eq_true rfl, Nat.le_of_ble_eq_true rfl⟩ dL_store_85) (fun _ => rfl) (fun ad8 H locs hw => ?_)
              have hw : fy D (va_A ws0 sz) s.heap H locs (wCl I h0 n t b0 b1 hh z7.2 ++ wHi I O hh ha ad8 z7.2.2.2.1) := hw
              refine lv_sipush (v := 15000) hx hb dL_store_88 (by decide) ?_
              refine lv_icmp_ne (tgt := 204) hx hb dL_store_91 (by decide) (fun hc => ?_) (fun hc => ?_)
              · rw [if_neg hc] at hf
                refine lv_iconst (v := 0) hx hb dL_store_204 (by decide) ?_
                have he0 := Option.some.inj hf
                have hw : fy D (va_A ws0 sz) s.heap H locs ([] : va_W) := fy.sub hw [] rfl rfl
                refine W.widen (k := 263) (n := 9106) (Nat.le_of_ble_eq_true rfl) (Nat.le_of_ble_eq_true rfl) ?_
                exact x_zM (w1 := fun _ : Unit => ([] : va_W)) E () hw (Or.inl rfl) he0 dL_store_205
              · rw [if_pos hc] at hf
                refine lv_aload_n hx hb dL_store_94 rfl (lv_at hl 0 rfl) ?_
                refine lv_iconst (v := 2) hx hb dL_store_95 (by decide) ?_
                obtain ⟨z9, h, hf⟩ := rt_s hf
                refine x_ci (x_rV E (As := [.int 2]) (rest := []) (mt_X5_count l D I J O h0 n t b0 b1 hh ha ad8 2 z7.2 z9 h) blR (x_recv E hw.1 0 5 rfl rfl rfl) (x_pcR E hw.1) ok_X5_count q399 rfl hl.1 rfl (Nat.le_of_ble_eq_true rfl) ⟨Nat.le_of_ble_eq_true rfl, Nat.le_of_ble_eq_true rfl⟩ ⟨Nat.le_of_ble_eq_true rfl, Nat.le_of_ble_eq_true rfl⟩ dL_store_96) ?_
                refine lv_bipush (v := 32) hx hb dL_store_99 (by decide) ?_
                refine lv_icmp_ne (tgt := 204) hx hb dL_store_101 (by decide) (fun hc => ?_) (fun hc => ?_)
                · rw [if_neg hc] at hf
                  refine lv_iconst (v := 0) hx hb dL_store_204 (by decide) ?_
                  have he0 := Option.some.inj hf
                  have hw : fy D (va_A ws0 sz) s.heap H locs ([] : va_W) := fy.sub hw [] rfl rfl
                  refine W.widen (k := 263) (n := 9106) (Nat.le_of_ble_eq_true rfl) (Nat.le_of_ble_eq_true rfl) ?_
                  exact x_zM (w1 := fun _ : Unit => ([] : va_W)) E () hw (Or.inl rfl) he0 dL_store_205
                · rw [if_pos hc] at hf
                  refine W.widen (k := 101) (n := 4370) (Nat.le_of_ble_eq_true rfl) (Nat.le_of_ble_eq_true rfl) ?_
                  exact k_L_store_104 E hfl hXZ h0 n t b0 b1 hh ha r z7.2 hf ad8 _ _ hw _ (lv_sub hl [0] rfl)
    · rw [if_neg hc] at hf
      refine lv_aload_n hx hb dL_store_15 rfl (lv_at hl 0 rfl) ?_
      refine lv_iload_n hx hb dL_store_16 rfl (lv_at hl 1 rfl) ?_
      refine lv_iconst (v := 4) hx hb dL_store_17 (by decide) ?_
      refine lv_iconst (v := 0) hx hb dL_store_18 (by decide) ?_
      obtain ⟨z10, h, hf⟩ := rt_s hf
      refine x_miFP0 hw (x_rV E (As := [.int v1, .int 4, .int 0]) (rest := []) (mt_X5_put l D I J O h0 n t b0 b1 hh ha ad H.size v1 4 0 x z10.1 z10.2 h) blM (x_recv E hw.1 0 5 rfl rfl rfl) (x_pcMPF0 E hw) ok_X5_put q451 rfl hl.1 rfl (Nat.le_of_ble_eq_true rfl) ⟨Nat.le_of_ble_eq_true rfl, Nat.le_of_ble_eq_true rfl⟩ ⟨Nat.le_of_ble_eq_true rfl, Nat.le_of_ble_eq_true rfl⟩ dL_store_19) (fun _ => rfl) (fun ad11 H locs hw => ?_)
      have hw : fy D (va_A ws0 sz) s.heap H locs (wCl I h0 n t b0 b1 hh z10.2 ++ wHi I O hh ha ad11 z10.2.2.2.1) := hw
      refine lv_sipush (v := 4000) hx hb dL_store_22 (by decide) ?_
      refine lv_iload_n hx hb dL_store_25 rfl (lv_at hl 1 rfl) ?_
      refine lv_imul hx hb dL_store_26 ?_
      refine lv_icmp_eq (tgt := 32) hx hb dL_store_27 (by decide) (fun hc => ?_) (fun hc => ?_)
      · rw [if_pos hc] at hf
        refine lv_iinc (v := v1 + 1) (lv' := [(1, .int (v1 + 1)), (0, .ref h0)]) hx hb dL_store_32 hl (k := 1) rfl rfl (by decide) rfl (fun ls hl => ?_)
        refine lv_goto (tgt := 10) hx hb dL_store_35 (by decide) ?_
        refine W.widen (k := 101) (n := 4370) (Nat.le_of_ble_eq_true rfl) (Nat.le_of_ble_eq_true rfl) ?_
        exact ih (v1 + 1) z10.2 hf ad11 _ _ hw _ (lv_sub hl [1, 0] rfl)
      · rw [if_neg hc] at hf
        refine lv_iconst (v := 0) hx hb dL_store_30 (by decide) ?_
        have he0 := Option.some.inj hf
        have hw : fy D (va_A ws0 sz) s.heap H locs ([] : va_W) := fy.sub hw [] rfl rfl
        refine W.widen (k := 263) (n := 9106) (Nat.le_of_ble_eq_true rfl) (Nat.le_of_ble_eq_true rfl) ?_
        exact x_zM (w1 := fun _ : Unit => ([] : va_W)) E () hw (Or.inl rfl) he0 dL_store_31
set_option maxRecDepth 100000 in
set_option maxHeartbeats 4000000 in
theorem mt_L_store (l : Launch) (hfl : l.stackTraces = false) (D : va_G) (I J O : ClassId) (sz : Nat)   (r : Int32) (hf : f_L_store = some r) : mZ l yL_store cL_store 3 (some .boolean) 12 272 263 9106 D I J O sz [] ([] : va_W) (qMi D sz ([] : va_W) r (fun _ : Unit => ([] : va_W))) := by
  refine mZ_open (own := RL) rfl (by decide +kernel) (Nat.le_of_ble_eq_true rfl) (fun p e s m below meth c ls E hXZ hsz hw hl => ?_)
  have hx := E.1
  have hb := E.2.1
  have hl : lv_has ls 3 [] := hl
  unfold f_L_store at hf
  have hl := lv_sub hl [] rfl
  have hw : fy D (va_A ([] : va_W) sz) s.heap s.heap [] ([] : va_W) := hw
  obtain ⟨z1, h, hf⟩ := bd_s hf
  refine x_new (ci := 5) (fs := [.null, .null, .null, .null]) E hw rfl in5 tyX5_ok q15 q16 q1 (fun j hj => by rcases (show j = 0 ∨ j = 1 ∨ j = 2 ∨ j = 3 by omega) with rfl | rfl | rfl | rfl <;> rfl) (Nat.le_of_ble_eq_true rfl) (Nat.le_of_ble_eq_true rfl) dL_store_0 (fun h0 H hw => ?_)
  refine lv_dup hx hb dL_store_3 rfl ?_
  refine x_ctor (w1 := fun (u9 : (Nat → Nat) × (Nat → Nat) × Nat × Nat × Nat × Nat × (Nat → Nat → Nat)) => wCl I h0 u9.1 u9.2.1 u9.2.2.1 u9.2.2.2.1 u9.2.2.2.2.1 z1 ++ wHi I O u9.2.2.2.2.1 u9.2.2.2.2.2.1 u9.2.2.2.2.2.2 (z1).2.2.1) E hw (fun hpc => x_rI E (As := []) (rest := [.ref h0]) (mt_X5_init l D I J O h0 H.size z1 h) blM hpc ok_X5_init q17 rfl hl.1 rfl (Nat.le_of_ble_eq_true rfl) ⟨Nat.le_of_ble_eq_true rfl, Nat.le_of_ble_eq_true rfl⟩ ⟨Nat.le_of_ble_eq_true rfl, Nat.le_of_ble_eq_true rfl⟩ dL_store_4) (fun u1 H locs hw => ?_)
  obtain ⟨n, t, b0, b1, hh, ha, ad⟩ := u1
  have hw : fy D (va_A ([] : va_W) sz) s.heap H locs (wCl I h0 n t b0 b1 hh z1 ++ wHi I O hh ha ad z1.2.2.1) := hw
  refine lv_astore_n (lv' := [(0, .ref h0)]) hx hb dL_store_7 rfl hl (by decide) rfl (fun ls hl => ?_)
  refine lv_iconst (v := 0) hx hb dL_store_8 (by decide) ?_
  refine lv_istore_n (lv' := [(1, .int 0), (0, .ref h0)]) hx hb dL_store_9 rfl hl (by decide) rfl (fun ls hl => ?_)
  refine W.widen (k := 101) (n := 4370) (Nat.le_of_ble_eq_true rfl) (Nat.le_of_ble_eq_true rfl) ?_
  exact k_L_store_10 E hfl hXZ h0 n t b0 b1 hh ha r FU 0 z1 hf ad _ _ hw _ (lv_sub hl [1, 0] rfl)
