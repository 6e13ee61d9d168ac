theorem ok_L_refusesAny : yS yL_refusesAny cL_refusesAny 6 (some .boolean) 2 := ⟨q735, q0, q734, by decide +kernel, by decide +kernel, by decide +kernel⟩
set_option maxRecDepth 100000 in
set_option maxHeartbeats 4000000 in
theorem k_L_refusesAny_444 {p : Program} {l : Launch} {e : Env} {s : State} {m : MethodId} {args : Array Value} {below : List Frame} {meth : Method} {c : Code} {D : va_G} {I J O : ClassId} {ws0 : va_W} {sz : Nat} (E : fx p s m args meth c cL_refusesAny RL 6 (some .boolean) D I J O) (hfl : l.stackTraces = false) (hXZ : XZ (va_A ws0 sz) s) (h0 : Nat) (n t : Nat → Nat) (b0 b1 hh ha : Nat)  (r : Int32) (y0 : ClC) : ∀ (v1 : Int32) (v4 : Int32) (x : ClC), f_L_refusesAny_444 v1 v4 x = some (r, y0) → ∀ (ad : Nat → Nat → Nat) (H : Heap) (locs : List Loc), fy D (va_A ws0 sz) s.heap H locs (wCl I h0 n t b0 b1 hh x ++ wHi I O hh ha ad x.2.2.1) → ∀ ls : Array Slot, lv_has ls 6 [(0, .ref h0), (1, .int v1), (4, .int v4)] → W p l e (rmB 10 225 29 174) s m args below meth c H locs 22 132 (MQ below (qMi D sz ws0 r (fun ad9 : Nat → Nat → Nat => wCl I h0 n t b0 b1 hh y0 ++ wHi I O hh ha ad9 y0.2.2.1)) args s 29 174 (va_A ws0 sz)) (F0 m 444 ls []) := by
  have hx := E.1
  have hb := E.2.1
  intro v1 v4 x hf ad H locs hw ls hl
  unfold f_L_refusesAny_444 at hf
  refine lv_aload_n hx hb dL_refusesAny_444 rfl (lv_at hl 0 rfl) ?_
  refine lv_bipush (v := 18) hx hb dL_refusesAny_445 (by decide) ?_
  refine lv_iload hx hb dL_refusesAny_447 (lv_at hl 2 rfl) ?_
  refine lv_iload_n hx hb dL_refusesAny_449 rfl (lv_at hl 1 rfl) ?_
  refine lv_iconst (v := 0) hx hb dL_refusesAny_450 (by decide) ?_
  obtain ⟨z47, h, hf⟩ := bd_s hf
  refine x_miFP0 hw (x_rW E (As := [.ref h0, .int 18, .int v4, .int v1, .int 0]) (rest := []) (mt_L_call l hfl D I J O h0 n t b0 b1 hh ha ad H.size 18 v4 v1 0 x z47.1 z47.2 h) blW (x_pcVF0 E hXZ hw) ok_L_call q445 rfl hl.1 rfl (Nat.le_of_ble_eq_true rfl) ⟨Nat.le_of_ble_eq_true rfl, Nat.le_of_ble_eq_true rfl⟩ ⟨Nat.le_of_ble_eq_true rfl, Nat.le_of_ble_eq_true rfl⟩ dL_refusesAny_451) (fun _ => rfl) (fun ad48 H locs hw => ?_)
  have hw : fy D (va_A ws0 sz) s.heap H locs (wCl I h0 n t b0 b1 hh z47.2 ++ wHi I O hh ha ad48 z47.2.2.2.1) := hw
  refine lv_bipush (v := (-12)) hx hb dL_refusesAny_454 (by decide) ?_
  refine lv_icmp_ne (tgt := 471) hx hb dL_refusesAny_456 (by decide) (fun hc => ?_) (fun hc => ?_)
  · rw [if_neg hc] at hf
    refine lv_iconst (v := 0) hx hb dL_refusesAny_471 (by decide) ?_
    obtain ⟨he0, hr⟩ := Prod.mk.inj (Option.some.inj hf)
    have he1 := hr
    subst he1
    refine W.widen (k := 29) (n := 174) (Nat.le_of_ble_eq_true rfl) (Nat.le_of_ble_eq_true rfl) ?_
    exact x_zM E ad48 hw (Or.inl rfl) he0 dL_refusesAny_472
  · rw [if_pos hc] at hf
    refine lv_aload_n hx hb dL_refusesAny_459 rfl (lv_at hl 0 rfl) ?_
    refine lv_iload_n hx hb dL_refusesAny_460 rfl (lv_at hl 1 rfl) ?_
    obtain ⟨z49, h, hf⟩ := bd_s hf
    refine x_miFP0 hw (x_rS E (As := [.ref h0, .int v1]) (rest := []) (mt_L_isRefused l hfl D I J O h0 n t b0 b1 hh ha ad48 H.size v1 z47.2 z49.1 z49.2 h) blZ (x_pcZF0 E hXZ hw) ok_L_isRefused q736 rfl hl.1 rfl (Nat.le_of_ble_eq_true rfl) ⟨Nat.le_of_ble_eq_true rfl, Nat.le_of_ble_eq_true rfl⟩ ⟨Nat.le_of_ble_eq_true rfl, Nat.le_of_ble_eq_true rfl⟩ dL_refusesAny_461) (fun _ => rfl) (fun ad50 H locs hw => ?_)
    have hw : fy D (va_A ws0 sz) s.heap H locs (wCl I h0 n t b0 b1 hh z49.2 ++ wHi I O hh ha ad50 z49.2.2.2.1) := hw
    refine lv_if_eq (tgt := 471) hx hb dL_refusesAny_464 (by decide) (fun hc => ?_) (fun hc => ?_)
    · rw [if_pos hc] at hf
      refine lv_iconst (v := 0) hx hb dL_refusesAny_471 (by decide) ?_
      obtain ⟨he0, hr⟩ := Prod.mk.inj (Option.some.inj hf)
      have he1 := hr
      subst he1
      refine W.widen (k := 29) (n := 174) (Nat.le_of_ble_eq_true rfl) (Nat.le_of_ble_eq_true rfl) ?_
      exact x_zM E ad50 hw (Or.inl rfl) he0 dL_refusesAny_472
    · rw [if_neg hc] at hf
      refine lv_iconst (v := 1) hx hb dL_refusesAny_467 (by decide) ?_
      refine lv_goto (tgt := 472) hx hb dL_refusesAny_468 (by decide) ?_
      obtain ⟨he0, hr⟩ := Prod.mk.inj (Option.some.inj hf)
      have he1 := hr
      subst he1
      refine W.widen (k := 29) (n := 174) (Nat.le_of_ble_eq_true rfl) (Nat.le_of_ble_eq_true rfl) ?_
      exact x_zM E ad50 hw (Or.inr rfl) he0 dL_refusesAny_472
set_option maxRecDepth 100000 in
set_option maxHeartbeats 4000000 in
theorem k_L_refusesAny_435 {p : Program} {l : Launch} {e : Env} {s : State} {m : MethodId} {args : Array Value} {below : List Frame} {meth : Method} {c : Code} {D : va_G} {I J O : ClassId} {ws0 : va_W} {sz : Nat} (E : fx p s m args meth c cL_refusesAny RL 6 (some .boolean) D I J O) (hfl : l.stackTraces = false) (hXZ : XZ (va_A ws0 sz) s) (h0 : Nat) (n t : Nat → Nat) (b0 b1 hh ha : Nat)  (r : Int32) (y0 : ClC) : ∀ (v1 : Int32) (v4 : Int32) (t1 : Int32) (t2 : Int32) (t3 : Int32) (x : ClC), f_L_refusesAny_435 v1 v4 t1 t2 t3 x = some (r, y0) → ∀ (ad : Nat → Nat → Nat) (H : Heap) (locs : List Loc), fy D (va_A ws0 sz) s.heap H locs (wCl I h0 n t b0 b1 hh x ++ wHi I O hh ha ad x.2.2.1) → ∀ ls : Array Slot, lv_has ls 6 [(0, .ref h0), (1, .int v1), (4, .int v4)] → W p l e (rmB 10 225 29 174) s m args below meth c H locs 21 126 (MQ below (qMi D sz ws0 r (fun ad9 : Nat → Nat → Nat => wCl I h0 n t b0 b1 hh y0 ++ wHi I O hh ha ad9 y0.2.2.1)) args s 29 174 (va_A ws0 sz)) (F0 m 435 ls [.int t3, .int t2, .int t1, .ref h0]) := by
  have hx := E.1
  have hb := E.2.1
  intro v1 v4 t1 t2 t3 x hf ad H locs hw ls hl
  unfold f_L_refusesAny_435 at hf
  refine lv_iconst (v := 0) hx hb dL_refusesAny_435 (by decide) ?_
  obtain ⟨z45, h, hf⟩ := bd_s hf
  refine x_miFP0 hw (x_rW E (As := [.ref h0, .int t1, .int t2, .int t3, .int 0]) (rest := []) (mt_L_call l hfl D I J O h0 n t b0 b1 hh ha ad H.size t1 t2 t3 0 x z45.1 z45.2 h) blW (x_pcVF0 E hXZ hw) ok_L_call q445 rfl hl.1 rfl (Nat.le_of_ble_eq_true rfl) ⟨Nat.le_of_ble_eq_true rfl, Nat.le_of_ble_eq_true rfl⟩ ⟨Nat.le_of_ble_eq_true rfl, Nat.le_of_ble_eq_true rfl⟩ dL_refusesAny_436) (fun _ => rfl) (fun ad46 H locs hw => ?_)
  have hw : fy D (va_A ws0 sz) s.heap H locs (wCl I h0 n t b0 b1 hh z45.2 ++ wHi I O hh ha ad46 z45.2.2.2.1) := hw
  refine lv_bipush (v := (-12)) hx hb dL_refusesAny_439 (by decide) ?_
  refine lv_icmp_ne (tgt := 471) hx hb dL_refusesAny_441 (by decide) (fun hc => ?_) (fun hc => ?_)
  · rw [if_neg hc] at hf
    refine lv_iconst (v := 0) hx hb dL_refusesAny_471 (by decide) ?_
    obtain ⟨he0, hr⟩ := Prod.mk.inj (Option.some.inj hf)
    have he1 := hr
    subst he1
    refine W.widen (k := 29) (n := 174) (Nat.le_of_ble_eq_true rfl) (Nat.le_of_ble_eq_true rfl) ?_
    exact x_zM E ad46 hw (Or.inl rfl) he0 dL_refusesAny_472
  · rw [if_pos hc] at hf
    refine W.widen (k := 22) (n := 132) (Nat.le_of_ble_eq_true rfl) (Nat.le_of_ble_eq_true rfl) ?_
    exact k_L_refusesAny_444 E hfl hXZ h0 n t b0 b1 hh ha r y0 v1 v4 z45.2 hf ad46 _ _ hw _ (lv_sub hl [0, 1, 2] rfl)
set_option maxRecDepth 100000 in
set_option maxHeartbeats 4000000 in
theorem k_L_refusesAny_412 {p : Program} {l : Launch} {e : Env} {s : State} {m : MethodId} {args : Array Value} {below : List Frame} {meth : Method} {c : Code} {D : va_G} {I J O : ClassId} {ws0 : va_W} {sz : Nat} (E : fx p s m args meth c cL_refusesAny RL 6 (some .boolean) D I J O) (hfl : l.stackTraces = false) (hXZ : XZ (va_A ws0 sz) s) (h0 : Nat) (n t : Nat → Nat) (b0 b1 hh ha : Nat)  (r : Int32) (y0 : ClC) : ∀ (v1 : Int32) (v4 : Int32) (t1 : Int32) (t2 : Int32) (x : ClC), f_L_refusesAny_412 v1 v4 t1 t2 x = some (r, y0) → ∀ (ad : Nat → Nat → Nat) (H : Heap) (locs : List Loc), fy D (va_A ws0 sz) s.heap H locs (wCl I h0 n t b0 b1 hh x ++ wHi I O hh ha ad x.2.2.1) → ∀ ls : Array Slot, lv_has ls 6 [(0, .ref h0), (1, .int v1), (4, .int v4)] → W p l e (rmB 10 225 29 174) s m args below meth c H locs 20 120 (MQ below (qMi D sz ws0 r (fun ad9 : Nat → Nat → Nat => wCl I h0 n t b0 b1 hh y0 ++ wHi I O hh ha ad9 y0.2.2.1)) args s 29 174 (va_A ws0 sz)) (F0 m 412 ls [.int t2, .int t1, .ref h0]) := by
  have hx := E.1
  have hb := E.2.1
  intro v1 v4 t1 t2 x hf ad H locs hw ls hl
  unfold f_L_refusesAny_412 at hf
  refine lv_iconst (v := 0) hx hb dL_refusesAny_412 (by decide) ?_
  refine lv_iconst (v := 0) hx hb dL_refusesAny_413 (by decide) ?_
  obtain ⟨z43, h, hf⟩ := bd_s hf
  refine x_miFP0 hw (x_rW E (As := [.ref h0, .int t1, .int t2, .int 0, .int 0]) (rest := []) (mt_L_call l hfl D I J O h0 n t b0 b1 hh ha ad H.size t1 t2 0 0 x z43.1 z43.2 h) blW (x_pcVF0 E hXZ hw) ok_L_call q445 rfl hl.1 rfl (Nat.le_of_ble_eq_true rfl) ⟨Nat.le_of_ble_eq_true rfl, Nat.le_of_ble_eq_true rfl⟩ ⟨Nat.le_of_ble_eq_true rfl, Nat.le_of_ble_eq_true rfl⟩ dL_refusesAny_414) (fun _ => rfl) (fun ad44 H locs hw => ?_)
  have hw : fy D (va_A ws0 sz) s.heap H locs (wCl I h0 n t b0 b1 hh z43.2 ++ wHi I O hh ha ad44 z43.2.2.2.1) := hw
  refine lv_bipush (v := (-12)) hx hb dL_refusesAny_417 (by decide) ?_
  refine lv_icmp_ne (tgt := 471) hx hb dL_refusesAny_419 (by decide) (fun hc => ?_) (fun hc => ?_)
  · rw [if_neg hc] at hf
    refine lv_iconst (v := 0) hx hb dL_refusesAny_471 (by decide) ?_
    obtain ⟨he0, hr⟩ := Prod.mk.inj (Option.some.inj hf)
    have he1 := hr
    subst he1
    refine W.widen (k := 29) (n := 174) (Nat.le_of_ble_eq_true rfl) (Nat.le_of_ble_eq_true rfl) ?_
    exact x_zM E ad44 hw (Or.inl rfl) he0 dL_refusesAny_472
  · rw [if_pos hc] at hf
    refine lv_aload_n hx hb dL_refusesAny_422 rfl (lv_at hl 0 rfl) ?_
    refine lv_bipush (v := 17) hx hb dL_refusesAny_423 (by decide) ?_
    refine lv_iconst (v := 1) hx hb dL_refusesAny_425 (by decide) ?_
    refine lv_iload_n hx hb dL_refusesAny_426 rfl (lv_at hl 1 rfl) ?_
    refine lv_if_ne (tgt := 434) hx hb dL_refusesAny_427 (by decide) (fun hc => ?_) (fun hc => ?_)
    · rw [if_neg hc] at hf
      refine lv_iconst (v := 3) hx hb dL_refusesAny_434 (by decide) ?_
      refine W.widen (k := 21) (n := 126) (Nat.le_of_ble_eq_true rfl) (Nat.le_of_ble_eq_true rfl) ?_
      exact k_L_refusesAny_435 E hfl hXZ h0 n t b0 b1 hh ha r y0 v1 v4 17 1 3 z43.2 hf ad44 _ _ hw _ (lv_sub hl [0, 1, 2] rfl)
    · rw [if_pos hc] at hf
      refine lv_iconst (v := (-1)) hx hb dL_refusesAny_430 (by decide) ?_
      refine lv_goto (tgt := 435) hx hb dL_refusesAny_431 (by decide) ?_
      refine W.widen (k := 21) (n := 126) (Nat.le_of_ble_eq_true rfl) (Nat.le_of_ble_eq_true rfl) ?_
      exact k_L_refusesAny_435 E hfl hXZ h0 n t b0 b1 hh ha r y0 v1 v4 17 1 (-1) z43.2 hf ad44 _ _ hw _ (lv_sub hl [0, 1, 2] rfl)
set_option maxRecDepth 100000 in
set_option maxHeartbeats 4000000 in
theorem k_L_refusesAny_389 {p : Program} {l : Launch} {e : Env} {s : State} {m : MethodId} {args : Array Value} {below : List Frame} {meth : Method} {c : Code} {D : va_G} {I J O : ClassId} {ws0 : va_W} {sz : Nat} (E : fx p s m args meth c cL_refusesAny RL 6 (some .boolean) D I J O) (hfl : l.stackTraces = false) (hXZ : XZ (va_A ws0 sz) s) (h0 : Nat) (n t : Nat → Nat) (b0 b1 hh ha : Nat)  (r : Int32) (y0 : ClC) : ∀ (v1 : Int32) (v4 : Int32) (t1 : Int32) (t2 : Int32) (x : ClC), f_L_refusesAny_389 v1 v4 t1 t2 x = some (r, y0) → ∀ (ad : Nat → Nat → Nat) (H : Heap) (locs : List Loc), fy D (va_A ws0 sz) s.heap H locs (wCl I h0 n t b0 b1 hh x ++ wHi I O hh ha ad x.2.2.1) → ∀ ls : Array Slot, lv_has ls 6 [(0, .ref h0), (1, .int v1), (4, .int v4)] → W p l e (rmB 10 225 29 174) s m args below meth c H locs 19 114 (MQ below (qMi D sz ws0 r (fun ad9 : Nat → Nat → Nat => wCl I h0 n t b0 b1 hh y0 ++ wHi I O hh ha ad9 y0.2.2.1)) args s 29 174 (va_A ws0 sz)) (F0 m 389 ls [.int t2, .int t1, .ref h0]) := by
  have hx := E.1
  have hb := E.2.1
  intro v1 v4 t1 t2 x hf ad H locs hw ls hl
  unfold f_L_refusesAny_389 at hf
  refine lv_iconst (v := 0) hx hb dL_refusesAny_389 (by decide) ?_
  refine lv_iconst (v := 0) hx hb dL_refusesAny_390 (by decide) ?_
  obtain ⟨z41, h, hf⟩ := bd_s hf
  refine x_miFP0 hw (x_rW E (As := [.ref h0, .int t1, .int t2, .int 0, .int 0]) (rest := []) (mt_L_call l hfl D I J O h0 n t b0 b1 hh ha ad H.size t1 t2 0 0 x z41.1 z41.2 h) blW (x_pcVF0 E hXZ hw) ok_L_call q445 rfl hl.1 rfl (Nat.le_of_ble_eq_true rfl) ⟨Nat.le_of_ble_eq_true rfl, Nat.le_of_ble_eq_true rfl⟩ ⟨Nat.le_of_ble_eq_true rfl, Nat.le_of_ble_eq_true rfl⟩ dL_refusesAny_391) (fun _ => rfl) (fun ad42 H locs hw => ?_)
  have hw : fy D (va_A ws0 sz) s.heap H locs (wCl I h0 n t b0 b1 hh z41.2 ++ wHi I O hh ha ad42 z41.2.2.2.1) := hw
  refine lv_bipush (v := (-12)) hx hb dL_refusesAny_394 (by decide) ?_
  refine lv_icmp_ne (tgt := 471) hx hb dL_refusesAny_396 (by decide) (fun hc => ?_) (fun hc => ?_)
  · rw [if_neg hc] at hf
    refine lv_iconst (v := 0) hx hb dL_refusesAny_471 (by decide) ?_
    obtain ⟨he0, hr⟩ := Prod.mk.inj (Option.some.inj hf)
    have he1 := hr
    subst he1
    refine W.widen (k := 29) (n := 174) (Nat.le_of_ble_eq_true rfl) (Nat.le_of_ble_eq_true rfl) ?_
    exact x_zM E ad42 hw (Or.inl rfl) he0 dL_refusesAny_472
  · rw [if_pos hc] at hf
    refine lv_aload_n hx hb dL_refusesAny_399 rfl (lv_at hl 0 rfl) ?_
    refine lv_bipush (v := 17) hx hb dL_refusesAny_400 (by decide) ?_
    refine lv_iload_n hx hb dL_refusesAny_402 rfl (lv_at hl 1 rfl) ?_
    refine lv_if_ne (tgt := 410) hx hb dL_refusesAny_403 (by decide) (fun hc => ?_) (fun hc => ?_)
    · rw [if_neg hc] at hf
      refine lv_bipush (v := 10) hx hb dL_refusesAny_410 (by decide) ?_
      refine W.widen (k := 20) (n := 120) (Nat.le_of_ble_eq_true rfl) (Nat.le_of_ble_eq_true rfl) ?_
      exact k_L_refusesAny_412 E hfl hXZ h0 n t b0 b1 hh ha r y0 v1 v4 17 10 z41.2 hf ad42 _ _ hw _ (lv_sub hl [0, 1, 2] rfl)
    · rw [if_pos hc] at hf
      refine lv_iconst (v := 0) hx hb dL_refusesAny_406 (by decide) ?_
      refine lv_goto (tgt := 412) hx hb dL_refusesAny_407 (by decide) ?_
      refine W.widen (k := 20) (n := 120) (Nat.le_of_ble_eq_true rfl) (Nat.le_of_ble_eq_true rfl) ?_
      exact k_L_refusesAny_412 E hfl hXZ h0 n t b0 b1 hh ha r y0 v1 v4 17 0 z41.2 hf ad42 _ _ hw _ (lv_sub hl [0, 1, 2] rfl)
set_option maxRecDepth 100000 in
set_option maxHeartbeats 4000000 in
theorem k_L_refusesAny_362 {p : Program} {l : Launch} {e : Env} {s : State} {m : MethodId} {args : Array Value} {below : List Frame} {meth : Method} {c : Code} {D : va_G} {I J O : ClassId} {ws0 : va_W} {sz : Nat} (E : fx p s m args meth c cL_refusesAny RL 6 (some .boolean) D I J O) (hfl : l.stackTraces = false) (hXZ : XZ (va_A ws0 sz) s) (h0 : Nat) (n t : Nat → Nat) (b0 b1 hh ha : Nat)  (r : Int32) (y0 : ClC) : ∀ (v1 : Int32) (v4 : Int32) (x : ClC), f_L_refusesAny_362 v1 v4 x = some (r, y0) → ∀ (ad : Nat → Nat → Nat) (H : Heap) (locs : List Loc), fy D (va_A ws0 sz) s.heap H locs (wCl I h0 n t b0 b1 hh x ++ wHi I O hh ha ad x.2.2.1) → ∀ ls : Array Slot, lv_has ls 6 [(0, .ref h0), (1, .int v1), (4, .int v4)] → W p l e (rmB 10 225 29 174) s m args below meth c H locs 18 108 (MQ below (qMi D sz ws0 r (fun ad9 : Nat → Nat → Nat => wCl I h0 n t b0 b1 hh y0 ++ wHi I O hh ha ad9 y0.2.2.1)) args s 29 174 (va_A ws0 sz)) (F0 m 362 ls []) := by
  have hx := E.1
  have hb := E.2.1
  intro v1 v4 x hf ad H locs hw ls hl
  unfold f_L_refusesAny_362 at hf
  refine lv_aload_n hx hb dL_refusesAny_362 rfl (lv_at hl 0 rfl) ?_
  refine lv_bipush (v := 15) hx hb dL_refusesAny_363 (by decide) ?_
  refine lv_iload hx hb dL_refusesAny_365 (lv_at hl 2 rfl) ?_
  refine lv_iconst (v := 0) hx hb dL_refusesAny_367 (by decide) ?_
  refine lv_iconst (v := 0) hx hb dL_refusesAny_368 (by decide) ?_
  obtain ⟨z39, h, hf⟩ := bd_s hf
  refine x_miFP0 hw (x_rW E (As := [.ref h0, .int 15, .int v4, .int 0, .int 0]) (rest := []) (mt_L_call l hfl D I J O h0 n t b0 b1 hh ha ad H.size 15 v4 0 0 x z39.1 z39.2 h) blW (x_pcVF0 E hXZ hw) ok_L_call q445 rfl hl.1 rfl (Nat.le_of_ble_eq_true rfl) ⟨Nat.le_of_ble_eq_true rfl, Nat.le_of_ble_eq_true rfl⟩ ⟨Nat.le_of_ble_eq_true rfl, Nat.le_of_ble_eq_true rfl⟩ dL_refusesAny_369) (fun _ => rfl) (fun ad40 H locs hw => ?_)
  have hw : fy D (va_A ws0 sz) s.heap H locs (wCl I h0 n t b0 b1 hh z39.2 ++ wHi I O hh ha ad40 z39.2.2.2.1) := hw
  refine lv_bipush (v := (-12)) hx hb dL_refusesAny_372 (by decide) ?_
  refine lv_icmp_ne (tgt := 471) hx hb dL_refusesAny_374 (by decide) (fun hc => ?_) (fun hc => ?_)
  · rw [if_neg hc] at hf
    refine lv_iconst (v := 0) hx hb dL_refusesAny_471 (by decide) ?_
    obtain ⟨he0, hr⟩ := Prod.mk.inj (Option.some.inj hf)
    have he1 := hr
    subst he1
    refine W.widen (k := 29) (n := 174) (Nat.le_of_ble_eq_true rfl) (Nat.le_of_ble_eq_true rfl) ?_
    exact x_zM E ad40 hw (Or.inl rfl) he0 dL_refusesAny_472
  · rw [if_pos hc] at hf
    refine lv_aload_n hx hb dL_refusesAny_377 rfl (lv_at hl 0 rfl) ?_
    refine lv_bipush (v := 16) hx hb dL_refusesAny_378 (by decide) ?_
    refine lv_iload_n hx hb dL_refusesAny_380 rfl (lv_at hl 1 rfl) ?_
    refine lv_if_ne (tgt := 388) hx hb dL_refusesAny_381 (by decide) (fun hc => ?_) (fun hc => ?_)
    · rw [if_neg hc] at hf
      refine lv_iconst (v := 2) hx hb dL_refusesAny_388 (by decide) ?_
      refine W.widen (k := 19) (n := 114) (Nat.le_of_ble_eq_true rfl) (Nat.le_of_ble_eq_true rfl) ?_
      exact k_L_refusesAny_389 E hfl hXZ h0 n t b0 b1 hh ha r y0 v1 v4 16 2 z39.2 hf ad40 _ _ hw _ (lv_sub hl [0, 1, 2] rfl)
    · rw [if_pos hc] at hf
      refine lv_iconst (v := (-1)) hx hb dL_refusesAny_384 (by decide) ?_
      refine lv_goto (tgt := 389) hx hb dL_refusesAny_385 (by decide) ?_
      refine W.widen (k := 19) (n := 114) (Nat.le_of_ble_eq_true rfl) (Nat.le_of_ble_eq_true rfl) ?_
      exact k_L_refusesAny_389 E hfl hXZ h0 n t b0 b1 hh ha r y0 v1 v4 16 (-1) z39.2 hf ad40 _ _ hw _ (lv_sub hl [0, 1, 2] rfl)
set_option maxRecDepth 100000 in
set_option maxHeartbeats 4000000 in
theorem k_L_refusesAny_352 {p : Program} {l : Launch} {e : Env} {s : State} {m : MethodId} {args : Array Value} {below : List Frame} {meth : Method} {c : Code} {D : va_G} {I J O : ClassId} {ws0 : va_W} {sz : Nat} (E : fx p s m args meth c cL_refusesAny RL 6 (some .boolean) D I J O) (hfl : l.stackTraces = false) (hXZ : XZ (va_A ws0 sz) s) (h0 : Nat) (n t : Nat → Nat) (b0 b1 hh ha : Nat)  (r : Int32) (y0 : ClC) : ∀ (v1 : Int32) (v4 : Int32) (t1 : Int32) (t2 : Int32) (x : ClC), f_L_refusesAny_352 v1 v4 t1 t2 x = some (r, y0) → ∀ (ad : Nat → Nat → Nat) (H : Heap) (locs : List Loc), fy D (va_A ws0 sz) s.heap H locs (wCl I h0 n t b0 b1 hh x ++ wHi I O hh ha ad x.2.2.1) → ∀ ls : Array Slot, lv_has ls 6 [(0, .ref h0), (1, .int v1), (4, .int v4)] → W p l e (rmB 10 225 29 174) s m args below meth c H locs 17 102 (MQ below (qMi D sz ws0 r (fun ad9 : Nat → Nat → Nat => wCl I h0 n t b0 b1 hh y0 ++ wHi I O hh ha ad9 y0.2.2.1)) args s 29 174 (va_A ws0 sz)) (F0 m 352 ls [.int t2, .int t1, .ref h0]) := by
  have hx := E.1
  have hb := E.2.1
  intro v1 v4 t1 t2 x hf ad H locs hw ls hl
  unfold f_L_refusesAny_352 at hf
  refine lv_iconst (v := 0) hx hb dL_refusesAny_352 (by decide) ?_
  refine lv_iconst (v := 0) hx hb dL_refusesAny_353 (by decide) ?_
  obtain ⟨z37, h, hf⟩ := bd_s hf
  refine x_miFP0 hw (x_rW E (As := [.ref h0, .int t1, .int t2, .int 0, .int 0]) (rest := []) (mt_L_call l hfl D I J O h0 n t b0 b1 hh ha ad H.size t1 t2 0 0 x z37.1 z37.2 h) blW (x_pcVF0 E hXZ hw) ok_L_call q445 rfl hl.1 rfl (Nat.le_of_ble_eq_true rfl) ⟨Nat.le_of_ble_eq_true rfl, Nat.le_of_ble_eq_true rfl⟩ ⟨Nat.le_of_ble_eq_true rfl, Nat.le_of_ble_eq_true rfl⟩ dL_refusesAny_354) (fun _ => rfl) (fun ad38 H locs hw => ?_)
  have hw : fy D (va_A ws0 sz) s.heap H locs (wCl I h0 n t b0 b1 hh z37.2 ++ wHi I O hh ha ad38 z37.2.2.2.1) := hw
  refine lv_bipush (v := (-12)) hx hb dL_refusesAny_357 (by decide) ?_
  refine lv_icmp_ne (tgt := 471) hx hb dL_refusesAny_359 (by decide) (fun hc => ?_) (fun hc => ?_)
  · rw [if_neg hc] at hf
    refine lv_iconst (v := 0) hx hb dL_refusesAny_471 (by decide) ?_
    obtain ⟨he0, hr⟩ := Prod.mk.inj (Option.some.inj hf)
    have he1 := hr
    subst he1
    refine W.widen (k := 29) (n := 174) (Nat.le_of_ble_eq_true rfl) (Nat.le_of_ble_eq_true rfl) ?_
    exact x_zM E ad38 hw (Or.inl rfl) he0 dL_refusesAny_472
  · rw [if_pos hc] at hf
    refine W.widen (k := 18) (n := 108) (Nat.le_of_ble_eq_true rfl) (Nat.le_of_ble_eq_true rfl) ?_
    exact k_L_refusesAny_362 E hfl hXZ h0 n t b0 b1 hh ha r y0 v1 v4 z37.2 hf ad38 _ _ hw _ (lv_sub hl [0, 1, 2] rfl)
set_option maxRecDepth 100000 in
set_option maxHeartbeats 4000000 in
theorem k_L_refusesAny_330 {p : Program} {l : Launch} {e : Env} {s : State} {m : MethodId} {args : Array Value} {below : List Frame} {meth : Method} {c : Code} {D : va_G} {I J O : ClassId} {ws0 : va_W} {sz : Nat} (E : fx p s m args meth c cL_refusesAny RL 6 (some .boolean) D I J O) (hfl : l.stackTraces = false) (hXZ : XZ (va_A ws0 sz) s) (h0 : Nat) (n t : Nat → Nat) (b0 b1 hh ha : Nat)  (r : Int32) (y0 : ClC) : ∀ (v1 : Int32) (v4 : Int32) (t1 : Int32) (t2 : Int32) (t3 : Int32) (x : ClC), f_L_refusesAny_330 v1 v4 t1 t2 t3 x = some (r, y0) → ∀ (ad : Nat → Nat → Nat) (H : Heap) (locs : List Loc), fy D (va_A ws0 sz) s.heap H locs (wCl I h0 n t b0 b1 hh x ++ wHi I O hh ha ad x.2.2.1) → ∀ ls : Array Slot, lv_has ls 6 [(0, .ref h0), (1, .int v1), (4, .int v4)] → W p l e (rmB 10 225 29 174) s m args below meth c H locs 16 96 (MQ below (qMi D sz ws0 r (fun ad9 : Nat → Nat → Nat => wCl I h0 n t b0 b1 hh y0 ++ wHi I O hh ha ad9 y0.2.2.1)) args s 29 174 (va_A ws0 sz)) (F0 m 330 ls [.int t3, .int t2, .int t1, .ref h0]) := by
  have hx := E.1
  have hb := E.2.1
  intro v1 v4 t1 t2 t3 x hf ad H locs hw ls hl
  unfold f_L_refusesAny_330 at hf
  refine lv_iconst (v := 0) hx hb dL_refusesAny_330 (by decide) ?_
  obtain ⟨z35, h, hf⟩ := bd_s hf
  refine x_miFP0 hw (x_rW E (As := [.ref h0, .int t1, .int t2, .int t3, .int 0]) (rest := []) (mt_L_call l hfl D I J O h0 n t b0 b1 hh ha ad H.size t1 t2 t3 0 x z35.1 z35.2 h) blW (x_pcVF0 E hXZ hw) ok_L_call q445 rfl hl.1 rfl (Nat.le_of_ble_eq_true rfl) ⟨Nat.le_of_ble_eq_true rfl, Nat.le_of_ble_eq_true rfl⟩ ⟨Nat.le_of_ble_eq_true rfl, Nat.le_of_ble_eq_true rfl⟩ dL_refusesAny_331) (fun _ => rfl) (fun ad36 H locs hw => ?_)
  have hw : fy D (va_A ws0 sz) s.heap H locs (wCl I h0 n t b0 b1 hh z35.2 ++ wHi I O hh ha ad36 z35.2.2.2.1) := hw
  refine lv_bipush (v := (-12)) hx hb dL_refusesAny_334 (by decide) ?_
  refine lv_icmp_ne (tgt := 471) hx hb dL_refusesAny_336 (by decide) (fun hc => ?_) (fun hc => ?_)
  · rw [if_neg hc] at hf
    refine lv_iconst (v := 0) hx hb dL_refusesAny_471 (by decide) ?_
    obtain ⟨he0, hr⟩ := Prod.mk.inj (Option.some.inj hf)
    have he1 := hr
    subst he1
    refine W.widen (k := 29) (n := 174) (Nat.le_of_ble_eq_true rfl) (Nat.le_of_ble_eq_true rfl) ?_
    exact x_zM E ad36 hw (Or.inl rfl) he0 dL_refusesAny_472
  · rw [if_pos hc] at hf
    refine lv_aload_n hx hb dL_refusesAny_339 rfl (lv_at hl 0 rfl) ?_
    refine lv_bipush (v := 14) hx hb dL_refusesAny_340 (by decide) ?_
    refine lv_iload_n hx hb dL_refusesAny_342 rfl (lv_at hl 1 rfl) ?_
    refine lv_if_ne (tgt := 350) hx hb dL_refusesAny_343 (by decide) (fun hc => ?_) (fun hc => ?_)
    · rw [if_neg hc] at hf
      refine lv_bipush (v := 10) hx hb dL_refusesAny_350 (by decide) ?_
      refine W.widen (k := 17) (n := 102) (Nat.le_of_ble_eq_true rfl) (Nat.le_of_ble_eq_true rfl) ?_
      exact k_L_refusesAny_352 E hfl hXZ h0 n t b0 b1 hh ha r y0 v1 v4 14 10 z35.2 hf ad36 _ _ hw _ (lv_sub hl [0, 1, 2] rfl)
    · rw [if_pos hc] at hf
      refine lv_iconst (v := (-1)) hx hb dL_refusesAny_346 (by decide) ?_
      refine lv_goto (tgt := 352) hx hb dL_refusesAny_347 (by decide) ?_
      refine W.widen (k := 17) (n := 102) (Nat.le_of_ble_eq_true rfl) (Nat.le_of_ble_eq_true rfl) ?_
      exact k_L_refusesAny_352 E hfl hXZ h0 n t b0 b1 hh ha r y0 v1 v4 14 (-1) z35.2 hf ad36 _ _ hw _ (lv_sub hl [0, 1, 2] rfl)
set_option maxRecDepth 100000 in
set_option maxHeartbeats 4000000 in
theorem k_L_refusesAny_291 {p : Program} {l : Launch} {e : Env} {s : State} {m : MethodId} {args : Array Value} {below : List Frame} {meth : Method} {c : Code} {D : va_G} {I J O : ClassId} {ws0 : va_W} {sz : Nat} (E : fx p s m args meth c cL_refusesAny RL 6 (some .boolean) D I J O) (hfl : l.stackTraces = false) (hXZ : XZ (va_A ws0 sz) s) (h0 : Nat) (n t : Nat → Nat) (b0 b1 hh ha : Nat)  (r : Int32) (y0 : ClC) : ∀ (v1 : Int32) (v3 : Int32) (v4 : Int32) (t1 : Int32) (t2 : Int32) (t3 : Int32) (x : ClC), f_L_refusesAny_291 v1 v3 v4 t1 t2 t3 x = some (r, y0) → ∀ (ad : Nat → Nat → Nat) (H : Heap) (locs : List Loc), fy D (va_A ws0 sz) s.heap H locs (wCl I h0 n t b0 b1 hh x ++ wHi I O hh ha ad x.2.2.1) → ∀ ls : Array Slot, lv_has ls 6 [(0, .ref h0), (1, .int v1), (3, .int v3), (4, .int v4)] → W p l e (rmB 10 225 29 174) s m args below meth c H locs 14 84 (MQ below (qMi D sz ws0 r (fun ad9 : Nat → Nat → Nat => wCl I h0 n t b0 b1 hh y0 ++ wHi I O hh ha ad9 y0.2.2.1)) args s 29 174 (va_A ws0 sz)) (F0 m 291 ls [.int t3, .int t2, .int t1, .ref h0]) := by
  have hx := E.1
  have hb := E.2.1
  intro v1 v3 v4 t1 t2 t3 x hf ad H locs hw ls hl
  unfold f_L_refusesAny_291 at hf
  refine lv_iconst (v := 0) hx hb dL_refusesAny_291 (by decide) ?_
  obtain ⟨z31, h, hf⟩ := bd_s hf
  refine x_miFP0 hw (x_rW E (As := [.ref h0, .int t1, .int t2, .int t3, .int 0]) (rest := []) (mt_L_call l hfl D I J O h0 n t b0 b1 hh ha ad H.size t1 t2 t3 0 x z31.1 z31.2 h) blW (x_pcVF0 E hXZ hw) ok_L_call q445 rfl hl.1 rfl (Nat.le_of_ble_eq_true rfl) ⟨Nat.le_of_ble_eq_true rfl, Nat.le_of_ble_eq_true rfl⟩ ⟨Nat.le_of_ble_eq_true rfl, Nat.le_of_ble_eq_true rfl⟩ dL_refusesAny_292) (fun _ => rfl) (fun ad32 H locs hw => ?_)
  have hw : fy D (va_A ws0 sz) s.heap H locs (wCl I h0 n t b0 b1 hh z31.2 ++ wHi I O hh ha ad32 z31.2.2.2.1) := hw
  refine lv_bipush (v := (-12)) hx hb dL_refusesAny_295 (by decide) ?_
  refine lv_icmp_eq (tgt := 302) hx hb dL_refusesAny_297 (by decide) (fun hc => ?_) (fun hc => ?_)
  · rw [if_pos hc] at hf
    refine lv_aload_n hx hb dL_refusesAny_302 rfl (lv_at hl 0 rfl) ?_
    refine lv_bipush (v := 13) hx hb dL_refusesAny_303 (by decide) ?_
    refine lv_iload_n hx hb dL_refusesAny_305 rfl (lv_at hl 2 rfl) ?_
    refine lv_bipush (v := 9) hx hb dL_refusesAny_306 (by decide) ?_
    refine lv_iconst (v := 0) hx hb dL_refusesAny_308 (by decide) ?_
    obtain ⟨z33, h, hf⟩ := bd_s hf
    refine x_miFP0 hw (x_rW E (As := [.ref h0, .int 13, .int v3, .int 9, .int 0]) (rest := []) (mt_L_call l hfl D I J O h0 n t b0 b1 hh ha ad32 H.size 13 v3 9 0 z31.2 z33.1 z33.2 h) blW (x_pcVF0 E hXZ hw) ok_L_call q445 rfl hl.1 rfl (Nat.le_of_ble_eq_true rfl) ⟨Nat.le_of_ble_eq_true rfl, Nat.le_of_ble_eq_true rfl⟩ ⟨Nat.le_of_ble_eq_true rfl, Nat.le_of_ble_eq_true rfl⟩ dL_refusesAny_309) (fun _ => rfl) (fun ad34 H locs hw => ?_)
    have hw : fy D (va_A ws0 sz) s.heap H locs (wCl I h0 n t b0 b1 hh z33.2 ++ wHi I O hh ha ad34 z33.2.2.2.1) := hw
    refine lv_bipush (v := (-11)) hx hb dL_refusesAny_312 (by decide) ?_
    refine lv_icmp_ne (tgt := 471) hx hb dL_refusesAny_314 (by decide) (fun hc => ?_) (fun hc => ?_)
    · rw [if_neg hc] at hf
      refine lv_iconst (v := 0) hx hb dL_refusesAny_471 (by decide) ?_
      obtain ⟨he0, hr⟩ := Prod.mk.inj (Option.some.inj hf)
      have he1 := hr
      subst he1
      refine W.widen (k := 29) (n := 174) (Nat.le_of_ble_eq_true rfl) (Nat.le_of_ble_eq_true rfl) ?_
      exact x_zM E ad34 hw (Or.inl rfl) he0 dL_refusesAny_472
    · rw [if_pos hc] at hf
      refine lv_aload_n hx hb dL_refusesAny_317 rfl (lv_at hl 0 rfl) ?_
      refine lv_bipush (v := 13) hx hb dL_refusesAny_318 (by decide) ?_
      refine lv_iconst (v := 0) hx hb dL_refusesAny_320 (by decide) ?_
      refine lv_iload_n hx hb dL_refusesAny_321 rfl (lv_at hl 1 rfl) ?_
      refine lv_if_ne (tgt := 329) hx hb dL_refusesAny_322 (by decide) (fun hc => ?_) (fun hc => ?_)
      · rw [if_neg hc] at hf
        refine lv_iconst (v := 3) hx hb dL_refusesAny_329 (by decide) ?_
        refine W.widen (k := 16) (n := 96) (Nat.le_of_ble_eq_true rfl) (Nat.le_of_ble_eq_true rfl) ?_
        exact k_L_refusesAny_330 E hfl hXZ h0 n t b0 b1 hh ha r y0 v1 v4 13 0 3 z33.2 hf ad34 _ _ hw _ (lv_sub hl [0, 1, 3] rfl)
      · rw [if_pos hc] at hf
        refine lv_iconst (v := (-1)) hx hb dL_refusesAny_325 (by decide) ?_
        refine lv_goto (tgt := 330) hx hb dL_refusesAny_326 (by decide) ?_
        refine W.widen (k := 16) (n := 96) (Nat.le_of_ble_eq_true rfl) (Nat.le_of_ble_eq_true rfl) ?_
        exact k_L_refusesAny_330 E hfl hXZ h0 n t b0 b1 hh ha r y0 v1 v4 13 0 (-1) z33.2 hf ad34 _ _ hw _ (lv_sub hl [0, 1, 3] rfl)
  · rw [if_neg hc] at hf
    refine lv_iconst (v := 0) hx hb dL_refusesAny_300 (by decide) ?_
    obtain ⟨he0, hr⟩ := Prod.mk.inj (Option.some.inj hf)
    have he1 := hr
    subst he1
    refine W.widen (k := 29) (n := 174) (Nat.le_of_ble_eq_true rfl) (Nat.le_of_ble_eq_true rfl) ?_
    exact x_zM E ad32 hw (Or.inl rfl) he0 dL_refusesAny_301
set_option maxRecDepth 100000 in
set_option maxHeartbeats 4000000 in
theorem k_L_refusesAny_278 {p : Program} {l : Launch} {e : Env} {s : State} {m : MethodId} {args : Array Value} {below : List Frame} {meth : Method} {c : Code} {D : va_G} {I J O : ClassId} {ws0 : va_W} {sz : Nat} (E : fx p s m args meth c cL_refusesAny RL 6 (some .boolean) D I J O) (hfl : l.stackTraces = false) (hXZ : XZ (va_A ws0 sz) s) (h0 : Nat) (n t : Nat → Nat) (b0 b1 hh ha : Nat)  (r : Int32) (y0 : ClC) : ∀ (v1 : Int32) (v3 : Int32) (v4 : Int32) (x : ClC), f_L_refusesAny_278 v1 v3 v4 x = some (r, y0) → ∀ (ad : Nat → Nat → Nat) (H : Heap) (locs : List Loc), fy D (va_A ws0 sz) s.heap H locs (wCl I h0 n t b0 b1 hh x ++ wHi I O hh ha ad x.2.2.1) → ∀ ls : Array Slot, lv_has ls 6 [(0, .ref h0), (1, .int v1), (3, .int v3), (4, .int v4)] → W p l e (rmB 10 225 29 174) s m args below meth c H locs 14 84 (MQ below (qMi D sz ws0 r (fun ad9 : Nat → Nat → Nat => wCl I h0 n t b0 b1 hh y0 ++ wHi I O hh ha ad9 y0.2.2.1)) args s 29 174 (va_A ws0 sz)) (F0 m 278 ls []) := by
  have hx := E.1
  have hb := E.2.1
  intro v1 v3 v4 x hf ad H locs hw ls hl
  unfold f_L_refusesAny_278 at hf
  refine lv_aload_n hx hb dL_refusesAny_278 rfl (lv_at hl 0 rfl) ?_
  refine lv_bipush (v := 12) hx hb dL_refusesAny_279 (by decide) ?_
  refine lv_iconst (v := 0) hx hb dL_refusesAny_281 (by decide) ?_
  refine lv_iload_n hx hb dL_refusesAny_282 rfl (lv_at hl 1 rfl) ?_
  refine lv_if_ne (tgt := 290) hx hb dL_refusesAny_283 (by decide) (fun hc => ?_) (fun hc => ?_)
  · rw [if_neg hc] at hf
    refine lv_iconst (v := 2) hx hb dL_refusesAny_290 (by decide) ?_
    refine W.widen (k := 14) (n := 84) (Nat.le_of_ble_eq_true rfl) (Nat.le_of_ble_eq_true rfl) ?_
    exact k_L_refusesAny_291 E hfl hXZ h0 n t b0 b1 hh ha r y0 v1 v3 v4 12 0 2 x hf ad _ _ hw _ (lv_sub hl [0, 1, 2, 3] rfl)
  · rw [if_pos hc] at hf
    refine lv_iconst (v := (-1)) hx hb dL_refusesAny_286 (by decide) ?_
    refine lv_goto (tgt := 291) hx hb dL_refusesAny_287 (by decide) ?_
    refine W.widen (k := 14) (n := 84) (Nat.le_of_ble_eq_true rfl) (Nat.le_of_ble_eq_true rfl) ?_
    exact k_L_refusesAny_291 E hfl hXZ h0 n t b0 b1 hh ha r y0 v1 v3 v4 12 0 (-1) x hf ad _ _ hw _ (lv_sub hl [0, 1, 2, 3] rfl)
set_option maxRecDepth 100000 in
set_option maxHeartbeats 4000000 in
theorem k_L_refusesAny_267 {p : Program} {l : Launch} {e : Env} {s : State} {m : MethodId} {args : Array Value} {below : List Frame} {meth : Method} {c : Code} {D : va_G} {I J O : ClassId} {ws0 : va_W} {sz : Nat} (E : fx p s m args meth c cL_refusesAny RL 6 (some .boolean) D I J O) (hfl : l.stackTraces = false) (hXZ : XZ (va_A ws0 sz) s) (h0 : Nat) (n t : Nat → Nat) (b0 b1 hh ha : Nat)  (r : Int32) (y0 : ClC) : ∀ (v1 : Int32) (v3 : Int32) (v4 : Int32) (t1 : Int32) (t2 : Int32) (x : ClC), f_L_refusesAny_267 v1 v3 v4 t1 t2 x = some (r, y0) → ∀ (ad : Nat → Nat → Nat) (H : Heap) (locs : List Loc), fy D (va_A ws0 sz) s.heap H locs (wCl I h0 n t b0 b1 hh x ++ wHi I O hh ha ad x.2.2.1) → ∀ ls : Array Slot, lv_has ls 6 [(0, .ref h0), (1, .int v1), (3, .int v3), (4, .int v4)] → W p l e (rmB 10 225 29 174) s m args below meth c H locs 13 78 (MQ below (qMi D sz ws0 r (fun ad9 : Nat → Nat → Nat => wCl I h0 n t b0 b1 hh y0 ++ wHi I O hh ha ad9 y0.2.2.1)) args s 29 174 (va_A ws0 sz)) (F0 m 267 ls [.int t2, .int t1, .ref h0]) := by
  have hx := E.1
  have hb := E.2.1
  intro v1 v3 v4 t1 t2 x hf ad H locs hw ls hl
  unfold f_L_refusesAny_267 at hf
  refine lv_bipush (v := 9) hx hb dL_refusesAny_267 (by decide) ?_
  refine lv_iconst (v := 0) hx hb dL_refusesAny_269 (by decide) ?_
  obtain ⟨z29, h, hf⟩ := bd_s hf
  refine x_miFP0 hw (x_rW E (As := [.ref h0, .int t1, .int t2, .int 9, .int 0]) (rest := []) (mt_L_call l hfl D I J O h0 n t b0 b1 hh ha ad H.size t1 t2 9 0 x z29.1 z29.2 h) blW (x_pcVF0 E hXZ hw) ok_L_call q445 rfl hl.1 rfl (Nat.le_of_ble_eq_true rfl) ⟨Nat.le_of_ble_eq_true rfl, Nat.le_of_ble_eq_true rfl⟩ ⟨Nat.le_of_ble_eq_true rfl, Nat.le_of_ble_eq_true rfl⟩ dL_refusesAny_270) (fun _ => rfl) (fun ad30 H locs hw => ?_)
  have hw : fy D (va_A ws0 sz) s.heap H locs (wCl I h0 n t b0 b1 hh z29.2 ++ wHi I O hh ha ad30 z29.2.2.2.1) := hw
  refine lv_bipush (v := (-11)) hx hb dL_refusesAny_273 (by decide) ?_
  refine lv_icmp_ne (tgt := 300) hx hb dL_refusesAny_275 (by decide) (fun hc => ?_) (fun hc => ?_)
  · rw [if_neg hc] at hf
    refine lv_iconst (v := 0) hx hb dL_refusesAny_300 (by decide) ?_
    obtain ⟨he0, hr⟩ := Prod.mk.inj (Option.some.inj hf)
    have he1 := hr
    subst he1
    refine W.widen (k := 29) (n := 174) (Nat.le_of_ble_eq_true rfl) (Nat.le_of_ble_eq_true rfl) ?_
    exact x_zM E ad30 hw (Or.inl rfl) he0 dL_refusesAny_301
  · rw [if_pos hc] at hf
    refine W.widen (k := 14) (n := 84) (Nat.le_of_ble_eq_true rfl) (Nat.le_of_ble_eq_true rfl) ?_
    exact k_L_refusesAny_278 E hfl hXZ h0 n t b0 b1 hh ha r y0 v1 v3 v4 z29.2 hf ad30 _ _ hw _ (lv_sub hl [0, 1, 2, 3] rfl)
set_option maxRecDepth 100000 in
set_option maxHeartbeats 4000000 in
theorem k_L_refusesAny_220 {p : Program} {l : Launch} {e : Env} {s : State} {m : MethodId} {args : Array Value} {below : List Frame} {meth : Method} {c : Code} {D : va_G} {I J O : ClassId} {ws0 : va_W} {sz : Nat} (E : fx p s m args meth c cL_refusesAny RL 6 (some .boolean) D I J O) (hfl : l.stackTraces = false) (hXZ : XZ (va_A ws0 sz) s) (h0 : Nat) (n t : Nat → Nat) (b0 b1 hh ha : Nat)  (r : Int32) (y0 : ClC) : ∀ (v1 : Int32) (v2 : Int32) (v3 : Int32) (v4 : Int32) (x : ClC), f_L_refusesAny_220 v1 v2 v3 v4 x = some (r, y0) → ∀ (ad : Nat → Nat → Nat) (H : Heap) (locs : List Loc), fy D (va_A ws0 sz) s.heap H locs (wCl I h0 n t b0 b1 hh x ++ wHi I O hh ha ad x.2.2.1) → ∀ ls : Array Slot, lv_has ls 6 [(0, .ref h0), (1, .int v1), (2, .int v2), (3, .int v3), (4, .int v4)] → W p l e (rmB 10 225 29 174) s m args below meth c H locs 11 66 (MQ below (qMi D sz ws0 r (fun ad9 : Nat → Nat → Nat => wCl I h0 n t b0 b1 hh y0 ++ wHi I O hh ha ad9 y0.2.2.1)) args s 29 174 (va_A ws0 sz)) (F0 m 220 ls []) := by
  have hx := E.1
  have hb := E.2.1
  intro v1 v2 v3 v4 x hf ad H locs hw ls hl
  unfold f_L_refusesAny_220 at hf
  refine lv_aload_n hx hb dL_refusesAny_220 rfl (lv_at hl 0 rfl) ?_
  refine lv_bipush (v := 10) hx hb dL_refusesAny_221 (by decide) ?_
  refine lv_iload_n hx hb dL_refusesAny_223 rfl (lv_at hl 2 rfl) ?_
  refine lv_bipush (v := 9) hx hb dL_refusesAny_224 (by decide) ?_
  refine lv_iconst (v := 0) hx hb dL_refusesAny_226 (by decide) ?_
  obtain ⟨z24, h, hf⟩ := bd_s hf
  refine x_miFP0 hw (x_rW E (As := [.ref h0, .int 10, .int v2, .int 9, .int 0]) (rest := []) (mt_L_call l hfl D I J O h0 n t b0 b1 hh ha ad H.size 10 v2 9 0 x z24.1 z24.2 h) blW (x_pcVF0 E hXZ hw) ok_L_call q445 rfl hl.1 rfl (Nat.le_of_ble_eq_true rfl) ⟨Nat.le_of_ble_eq_true rfl, Nat.le_of_ble_eq_true rfl⟩ ⟨Nat.le_of_ble_eq_true rfl, Nat.le_of_ble_eq_true rfl⟩ dL_refusesAny_227) (fun _ => rfl) (fun ad25 H locs hw => ?_)
  have hw : fy D (va_A ws0 sz) s.heap H locs (wCl I h0 n t b0 b1 hh z24.2 ++ wHi I O hh ha ad25 z24.2.2.2.1) := hw
  refine lv_bipush (v := (-11)) hx hb dL_refusesAny_230 (by decide) ?_
  refine lv_icmp_ne (tgt := 300) hx hb dL_refusesAny_232 (by decide) (fun hc => ?_) (fun hc => ?_)
  · rw [if_neg hc] at hf
    refine lv_iconst (v := 0) hx hb dL_refusesAny_300 (by decide) ?_
    obtain ⟨he0, hr⟩ := Prod.mk.inj (Option.some.inj hf)
    have he1 := hr
    subst he1
    refine W.widen (k := 29) (n := 174) (Nat.le_of_ble_eq_true rfl) (Nat.le_of_ble_eq_true rfl) ?_
    exact x_zM E ad25 hw (Or.inl rfl) he0 dL_refusesAny_301
  · rw [if_pos hc] at hf
    refine lv_aload_n hx hb dL_refusesAny_235 rfl (lv_at hl 0 rfl) ?_
    refine lv_bipush (v := 11) hx hb dL_refusesAny_236 (by decide) ?_
    refine lv_iconst (v := (-1)) hx hb dL_refusesAny_238 (by decide) ?_
    refine lv_iload_n hx hb dL_refusesAny_239 rfl (lv_at hl 1 rfl) ?_
    refine lv_isub hx hb dL_refusesAny_240 ?_
    refine lv_iconst (v := 0) hx hb dL_refusesAny_241 (by decide) ?_
    refine lv_iconst (v := 0) hx hb dL_refusesAny_242 (by decide) ?_
    obtain ⟨z26, h, hf⟩ := bd_s hf
    refine x_miFP0 hw (x_rW E (As := [.ref h0, .int 11, .int ((-1) - v1), .int 0, .int 0]) (rest := []) (mt_L_call l hfl D I J O h0 n t b0 b1 hh ha ad25 H.size 11 ((-1) - v1) 0 0 z24.2 z26.1 z26.2 h) blW (x_pcVF0 E hXZ hw) ok_L_call q445 rfl hl.1 rfl (Nat.le_of_ble_eq_true rfl) ⟨Nat.le_of_ble_eq_true rfl, Nat.le_of_ble_eq_true rfl⟩ ⟨Nat.le_of_ble_eq_true rfl, Nat.le_of_ble_eq_true rfl⟩ dL_refusesAny_243) (fun _ => rfl) (fun ad27 H locs hw => ?_)
    have hw : fy D (va_A ws0 sz) s.heap H locs (wCl I h0 n t b0 b1 hh z26.2 ++ wHi I O hh ha ad27 z26.2.2.2.1) := hw
    refine lv_bipush (v := (-12)) hx hb dL_refusesAny_246 (by decide) ?_
    refine lv_icmp_ne (tgt := 300) hx hb dL_refusesAny_248 (by decide) (fun hc => ?_) (fun hc => ?_)
    · rw [if_neg hc] at hf
      refine lv_iconst (v := 0) hx hb dL_refusesAny_300 (by decide) ?_
      obtain ⟨he0, hr⟩ := Prod.mk.inj (Option.some.inj hf)
      have he1 := hr
      subst he1
      refine W.widen (k := 29) (n := 174) (Nat.le_of_ble_eq_true rfl) (Nat.le_of_ble_eq_true rfl) ?_
      exact x_zM E ad27 hw (Or.inl rfl) he0 dL_refusesAny_301
    · rw [if_pos hc] at hf
      refine lv_aload_n hx hb dL_refusesAny_251 rfl (lv_at hl 0 rfl) ?_
      refine lv_bipush (v := 12) hx hb dL_refusesAny_252 (by decide) ?_
      refine lv_iload_n hx hb dL_refusesAny_254 rfl (lv_at hl 1 rfl) ?_
      refine lv_if_ne (tgt := 262) hx hb dL_refusesAny_255 (by decide) (fun hc => ?_) (fun hc => ?_)
      · rw [if_neg hc] at hf
        refine lv_aload_n hx hb dL_refusesAny_262 rfl (lv_at hl 0 rfl) ?_
        refine lv_iconst (v := 2) hx hb dL_refusesAny_263 (by decide) ?_
        obtain ⟨z28, h, hf⟩ := rt_s hf
        refine x_ci (x_rV E (As := [.int 2]) (rest := [.int 12, .ref h0]) (mt_X5_count l D I J O h0 n t b0 b1 hh ha ad27 2 z26.2 z28 h) blR (x_recv E hw.1 0 5 rfl rfl rfl) (x_pcR E hw.1) ok_X5_count q399 rfl hl.1 rfl (Nat.le_of_ble_eq_true rfl) ⟨Nat.le_of_ble_eq_true rfl, Nat.le_of_ble_eq_true rfl⟩ ⟨Nat.le_of_ble_eq_true rfl, Nat.le_of_ble_eq_true rfl⟩ dL_refusesAny_264) ?_
        refine W.widen (k := 13) (n := 78) (Nat.le_of_ble_eq_true rfl) (Nat.le_of_ble_eq_true rfl) ?_
        exact k_L_refusesAny_267 E hfl hXZ h0 n t b0 b1 hh ha r y0 v1 v3 v4 12 z28 z26.2 hf ad27 _ _ hw _ (lv_sub hl [0, 1, 3, 4] rfl)
      · rw [if_pos hc] at hf
        refine lv_iconst (v := (-1)) hx hb dL_refusesAny_258 (by decide) ?_
        refine lv_goto (tgt := 267) hx hb dL_refusesAny_259 (by decide) ?_
        refine W.widen (k := 13) (n := 78) (Nat.le_of_ble_eq_true rfl) (Nat.le_of_ble_eq_true rfl) ?_
        exact k_L_refusesAny_267 E hfl hXZ h0 n t b0 b1 hh ha r y0 v1 v3 v4 12 (-1) z26.2 hf ad27 _ _ hw _ (lv_sub hl [0, 1, 3, 4] rfl)
set_option maxRecDepth 100000 in
set_option maxHeartbeats 4000000 in
theorem k_L_refusesAny_196 {p : Program} {l : Launch} {e : Env} {s : State} {m : MethodId} {args : Array Value} {below : List Frame} {meth : Method} {c : Code} {D : va_G} {I J O : ClassId} {ws0 : va_W} {sz : Nat} (E : fx p s m args meth c cL_refusesAny RL 6 (some .boolean) D I J O) (hfl : l.stackTraces = false) (hXZ : XZ (va_A ws0 sz) s) (h0 : Nat) (n t : Nat → Nat) (b0 b1 hh ha : Nat)  (r : Int32) (y0 : ClC) : ∀ (v1 : Int32) (v2 : Int32) (v3 : Int32) (v4 : Int32) (t1 : Int32) (t2 : Int32) (x : ClC), f_L_refusesAny_196 v1 v2 v3 v4 t1 t2 x = some (r, y0) → ∀ (ad : Nat → Nat → Nat) (H : Heap) (locs : List Loc), fy D (va_A ws0 sz) s.heap H locs (wCl I h0 n t b0 b1 hh x ++ wHi I O hh ha ad x.2.2.1) → ∀ ls : Array Slot, lv_has ls 6 [(0, .ref h0), (1, .int v1), (2, .int v2), (3, .int v3), (4, .int v4)] → W p l e (rmB 10 225 29 174) s m args below meth c H locs 9 54 (MQ below (qMi D sz ws0 r (fun ad9 : Nat → Nat → Nat => wCl I h0 n t b0 b1 hh y0 ++ wHi I O hh ha ad9 y0.2.2.1)) args s 29 174 (va_A ws0 sz)) (F0 m 196 ls [.int t2, .int t1, .ref h0]) := by
  have hx := E.1
  have hb := E.2.1
  intro v1 v2 v3 v4 t1 t2 x hf ad H locs hw ls hl
  unfold f_L_refusesAny_196 at hf
  refine lv_iconst (v := 0) hx hb dL_refusesAny_196 (by decide) ?_
  refine lv_iconst (v := 0) hx hb dL_refusesAny_197 (by decide) ?_
  obtain ⟨z20, h, hf⟩ := bd_s hf
  refine x_miFP0 hw (x_rW E (As := [.ref h0, .int t1, .int t2, .int 0, .int 0]) (rest := []) (mt_L_call l hfl D I J O h0 n t b0 b1 hh ha ad H.size t1 t2 0 0 x z20.1 z20.2 h) blW (x_pcVF0 E hXZ hw) ok_L_call q445 rfl hl.1 rfl (Nat.le_of_ble_eq_true rfl) ⟨Nat.le_of_ble_eq_true rfl, Nat.le_of_ble_eq_true rfl⟩ ⟨Nat.le_of_ble_eq_true rfl, Nat.le_of_ble_eq_true rfl⟩ dL_refusesAny_198) (fun _ => rfl) (fun ad21 H locs hw => ?_)
  have hw : fy D (va_A ws0 sz) s.heap H locs (wCl I h0 n t b0 b1 hh z20.2 ++ wHi I O hh ha ad21 z20.2.2.2.1) := hw
  refine lv_bipush (v := (-12)) hx hb dL_refusesAny_201 (by decide) ?_
  refine lv_icmp_ne (tgt := 300) hx hb dL_refusesAny_203 (by decide) (fun hc => ?_) (fun hc => ?_)
  · rw [if_neg hc] at hf
    refine lv_iconst (v := 0) hx hb dL_refusesAny_300 (by decide) ?_
    obtain ⟨he0, hr⟩ := Prod.mk.inj (Option.some.inj hf)
    have he1 := hr
    subst he1
    refine W.widen (k := 29) (n := 174) (Nat.le_of_ble_eq_true rfl) (Nat.le_of_ble_eq_true rfl) ?_
    exact x_zM E ad21 hw (Or.inl rfl) he0 dL_refusesAny_301
  · rw [if_pos hc] at hf
    refine lv_aload_n hx hb dL_refusesAny_206 rfl (lv_at hl 0 rfl) ?_
    refine lv_bipush (v := 8) hx hb dL_refusesAny_207 (by decide) ?_
    refine lv_iconst (v := 0) hx hb dL_refusesAny_209 (by decide) ?_
    refine lv_iconst (v := 0) hx hb dL_refusesAny_210 (by decide) ?_
    refine lv_iconst (v := 0) hx hb dL_refusesAny_211 (by decide) ?_
    obtain ⟨z22, h, hf⟩ := bd_s hf
    refine x_miFP0 hw (x_rW E (As := [.ref h0, .int 8, .int 0, .int 0, .int 0]) (rest := []) (mt_L_call l hfl D I J O h0 n t b0 b1 hh ha ad21 H.size 8 0 0 0 z20.2 z22.1 z22.2 h) blW (x_pcVF0 E hXZ hw) ok_L_call q445 rfl hl.1 rfl (Nat.le_of_ble_eq_true rfl) ⟨Nat.le_of_ble_eq_true rfl, Nat.le_of_ble_eq_true rfl⟩ ⟨Nat.le_of_ble_eq_true rfl, Nat.le_of_ble_eq_true rfl⟩ dL_refusesAny_212) (fun _ => rfl) (fun ad23 H locs hw => ?_)
    have hw : fy D (va_A ws0 sz) s.heap H locs (wCl I h0 n t b0 b1 hh z22.2 ++ wHi I O hh ha ad23 z22.2.2.2.1) := hw
    refine lv_bipush (v := (-12)) hx hb dL_refusesAny_215 (by decide) ?_
    refine lv_icmp_ne (tgt := 300) hx hb dL_refusesAny_217 (by decide) (fun hc => ?_) (fun hc => ?_)
    · rw [if_neg hc] at hf
      refine lv_iconst (v := 0) hx hb dL_refusesAny_300 (by decide) ?_
      obtain ⟨he0, hr⟩ := Prod.mk.inj (Option.some.inj hf)
      have he1 := hr
      subst he1
      refine W.widen (k := 29) (n := 174) (Nat.le_of_ble_eq_true rfl) (Nat.le_of_ble_eq_true rfl) ?_
      exact x_zM E ad23 hw (Or.inl rfl) he0 dL_refusesAny_301
    · rw [if_pos hc] at hf
      refine W.widen (k := 11) (n := 66) (Nat.le_of_ble_eq_true rfl) (Nat.le_of_ble_eq_true rfl) ?_
      exact k_L_refusesAny_220 E hfl hXZ h0 n t b0 b1 hh ha r y0 v1 v2 v3 v4 z22.2 hf ad23 _ _ hw _ (lv_sub hl [0, 1, 2, 3, 4] rfl)
set_option maxRecDepth 100000 in
set_option maxHeartbeats 4000000 in
theorem k_L_refusesAny_155 {p : Program} {l : Launch} {e : Env} {s : State} {m : MethodId} {args : Array Value} {below : List Frame} {meth : Method} {c : Code} {D : va_G} {I J O : ClassId} {ws0 : va_W} {sz : Nat} (E : fx p s m args meth c cL_refusesAny RL 6 (some .boolean) D I J O) (hfl : l.stackTraces = false) (hXZ : XZ (va_A ws0 sz) s) (h0 : Nat) (n t : Nat → Nat) (b0 b1 hh ha : Nat)  (r : Int32) (y0 : ClC) : ∀ (v1 : Int32) (v2 : Int32) (v3 : Int32) (v4 : Int32) (x : ClC), f_L_refusesAny_155 v1 v2 v3 v4 x = some (r, y0) → ∀ (ad : Nat → Nat → Nat) (H : Heap) (locs : List Loc), fy D (va_A ws0 sz) s.heap H locs (wCl I h0 n t b0 b1 hh x ++ wHi I O hh ha ad x.2.2.1) → ∀ ls : Array Slot, lv_has ls 6 [(0, .ref h0), (1, .int v1), (2, .int v2), (3, .int v3), (4, .int v4)] → W p l e (rmB 10 225 29 174) s m args below meth c H locs 7 42 (MQ below (qMi D sz ws0 r (fun ad9 : Nat → Nat → Nat => wCl I h0 n t b0 b1 hh y0 ++ wHi I O hh ha ad9 y0.2.2.1)) args s 29 174 (va_A ws0 sz)) (F0 m 155 ls []) := by
  have hx := E.1
  have hb := E.2.1
  intro v1 v2 v3 v4 x hf ad H locs hw ls hl
  unfold f_L_refusesAny_155 at hf
  refine lv_aload_n hx hb dL_refusesAny_155 rfl (lv_at hl 0 rfl) ?_
  refine lv_iconst (v := 5) hx hb dL_refusesAny_156 (by decide) ?_
  refine lv_iload_n hx hb dL_refusesAny_157 rfl (lv_at hl 3 rfl) ?_
  refine lv_iconst (v := 0) hx hb dL_refusesAny_158 (by decide) ?_
  refine lv_iconst (v := 0) hx hb dL_refusesAny_159 (by decide) ?_
  obtain ⟨z16, h, hf⟩ := bd_s hf
  refine x_miFP0 hw (x_rW E (As := [.ref h0, .int 5, .int v3, .int 0, .int 0]) (rest := []) (mt_L_call l hfl D I J O h0 n t b0 b1 hh ha ad H.size 5 v3 0 0 x z16.1 z16.2 h) blW (x_pcVF0 E hXZ hw) ok_L_call q445 rfl hl.1 rfl (Nat.le_of_ble_eq_true rfl) ⟨Nat.le_of_ble_eq_true rfl, Nat.le_of_ble_eq_true rfl⟩ ⟨Nat.le_of_ble_eq_true rfl, Nat.le_of_ble_eq_true rfl⟩ dL_refusesAny_160) (fun _ => rfl) (fun ad17 H locs hw => ?_)
  have hw : fy D (va_A ws0 sz) s.heap H locs (wCl I h0 n t b0 b1 hh z16.2 ++ wHi I O hh ha ad17 z16.2.2.2.1) := hw
  refine lv_bipush (v := (-11)) hx hb dL_refusesAny_163 (by decide) ?_
  refine lv_icmp_ne (tgt := 300) hx hb dL_refusesAny_165 (by decide) (fun hc => ?_) (fun hc => ?_)
  · rw [if_neg hc] at hf
    refine lv_iconst (v := 0) hx hb dL_refusesAny_300 (by decide) ?_
    obtain ⟨he0, hr⟩ := Prod.mk.inj (Option.some.inj hf)
    have he1 := hr
    subst he1
    refine W.widen (k := 29) (n := 174) (Nat.le_of_ble_eq_true rfl) (Nat.le_of_ble_eq_true rfl) ?_
    exact x_zM E ad17 hw (Or.inl rfl) he0 dL_refusesAny_301
  · rw [if_pos hc] at hf
    refine lv_aload_n hx hb dL_refusesAny_168 rfl (lv_at hl 0 rfl) ?_
    refine lv_bipush (v := 6) hx hb dL_refusesAny_169 (by decide) ?_
    refine lv_iload_n hx hb dL_refusesAny_171 rfl (lv_at hl 3 rfl) ?_
    refine lv_iconst (v := 0) hx hb dL_refusesAny_172 (by decide) ?_
    refine lv_iconst (v := 0) hx hb dL_refusesAny_173 (by decide) ?_
    obtain ⟨z18, h, hf⟩ := bd_s hf
    refine x_miFP0 hw (x_rW E (As := [.ref h0, .int 6, .int v3, .int 0, .int 0]) (rest := []) (mt_L_call l hfl D I J O h0 n t b0 b1 hh ha ad17 H.size 6 v3 0 0 z16.2 z18.1 z18.2 h) blW (x_pcVF0 E hXZ hw) ok_L_call q445 rfl hl.1 rfl (Nat.le_of_ble_eq_true rfl) ⟨Nat.le_of_ble_eq_true rfl, Nat.le_of_ble_eq_true rfl⟩ ⟨Nat.le_of_ble_eq_true rfl, Nat.le_of_ble_eq_true rfl⟩ dL_refusesAny_174) (fun _ => rfl) (fun ad19 H locs hw => ?_)
    have hw : fy D (va_A ws0 sz) s.heap H locs (wCl I h0 n t b0 b1 hh z18.2 ++ wHi I O hh ha ad19 z18.2.2.2.1) := hw
    refine lv_bipush (v := (-11)) hx hb dL_refusesAny_177 (by decide) ?_
    refine lv_icmp_ne (tgt := 300) hx hb dL_refusesAny_179 (by decide) (fun hc => ?_) (fun hc => ?_)
    · rw [if_neg hc] at hf
      refine lv_iconst (v := 0) hx hb dL_refusesAny_300 (by decide) ?_
      obtain ⟨he0, hr⟩ := Prod.mk.inj (Option.some.inj hf)
      have he1 := hr
      subst he1
      refine W.widen (k := 29) (n := 174) (Nat.le_of_ble_eq_true rfl) (Nat.le_of_ble_eq_true rfl) ?_
      exact x_zM E ad19 hw (Or.inl rfl) he0 dL_refusesAny_301
    · rw [if_pos hc] at hf
      refine lv_aload_n hx hb dL_refusesAny_182 rfl (lv_at hl 0 rfl) ?_
      refine lv_bipush (v := 7) hx hb dL_refusesAny_183 (by decide) ?_
      refine lv_iload_n hx hb dL_refusesAny_185 rfl (lv_at hl 1 rfl) ?_
      refine lv_if_ne (tgt := 194) hx hb dL_refusesAny_186 (by decide) (fun hc => ?_) (fun hc => ?_)
      · rw [if_neg hc] at hf
        refine lv_bipush (v := 127) hx hb dL_refusesAny_194 (by decide) ?_
        refine W.widen (k := 9) (n := 54) (Nat.le_of_ble_eq_true rfl) (Nat.le_of_ble_eq_true rfl) ?_
        exact k_L_refusesAny_196 E hfl hXZ h0 n t b0 b1 hh ha r y0 v1 v2 v3 v4 7 127 z18.2 hf ad19 _ _ hw _ (lv_sub hl [0, 1, 2, 3, 4] rfl)
      · rw [if_pos hc] at hf
        refine lv_bipush (v := 32) hx hb dL_refusesAny_189 (by decide) ?_
        refine lv_goto (tgt := 196) hx hb dL_refusesAny_191 (by decide) ?_
        refine W.widen (k := 9) (n := 54) (Nat.le_of_ble_eq_true rfl) (Nat.le_of_ble_eq_true rfl) ?_
        exact k_L_refusesAny_196 E hfl hXZ h0 n t b0 b1 hh ha r y0 v1 v2 v3 v4 7 32 z18.2 hf ad19 _ _ hw _ (lv_sub hl [0, 1, 2, 3, 4] rfl)
set_option maxRecDepth 100000 in
set_option maxHeartbeats 4000000 in
theorem k_L_refusesAny_101 {p : Program} {l : Launch} {e : Env} {s : State} {m : MethodId} {args : Array Value} {below : List Frame} {meth : Method} {c : Code} {D : va_G} {I J O : ClassId} {ws0 : va_W} {sz : Nat} (E : fx p s m args meth c cL_refusesAny RL 6 (some .boolean) D I J O) (hfl : l.stackTraces = false) (hXZ : XZ (va_A ws0 sz) s) (h0 : Nat) (n t : Nat → Nat) (b0 b1 hh ha : Nat)  (r : Int32) (y0 : ClC) : ∀ (v1 : Int32) (v2 : Int32) (v3 : Int32) (v4 : Int32) (x : ClC), f_L_refusesAny_101 v1 v2 v3 v4 x = some (r, y0) → ∀ (ad : Nat → Nat → Nat) (H : Heap) (locs : List Loc), fy D (va_A ws0 sz) s.heap H locs (wCl I h0 n t b0 b1 hh x ++ wHi I O hh ha ad x.2.2.1) → ∀ ls : Array Slot, lv_has ls 6 [(0, .ref h0), (1, .int v1), (2, .int v2), (3, .int v3), (4, .int v4)] → W p l e (rmB 10 225 29 174) s m args below meth c H locs 3 18 (MQ below (qMi D sz ws0 r (fun ad9 : Nat → Nat → Nat => wCl I h0 n t b0 b1 hh y0 ++ wHi I O hh ha ad9 y0.2.2.1)) args s 29 174 (va_A ws0 sz)) (F0 m 101 ls []) := by
  have hx := E.1
  have hb := E.2.1
  intro v1 v2 v3 v4 x hf ad H locs hw ls hl
  unfold f_L_refusesAny_101 at hf
  refine lv_aload_n hx hb dL_refusesAny_101 rfl (lv_at hl 0 rfl) ?_
  refine lv_iconst (v := 1) hx hb dL_refusesAny_102 (by decide) ?_
  refine lv_iload_n hx hb dL_refusesAny_103 rfl (lv_at hl 2 rfl) ?_
  refine lv_bipush (v := 9) hx hb dL_refusesAny_104 (by decide) ?_
  refine lv_bipush (v := 9) hx hb dL_refusesAny_106 (by decide) ?_
  obtain ⟨z8, h, hf⟩ := bd_s hf
  refine x_miFP0 hw (x_rW E (As := [.ref h0, .int 1, .int v2, .int 9, .int 9]) (rest := []) (mt_L_call l hfl D I J O h0 n t b0 b1 hh ha ad H.size 1 v2 9 9 x z8.1 z8.2 h) blW (x_pcVF0 E hXZ hw) ok_L_call q445 rfl hl.1 rfl (Nat.le_of_ble_eq_true rfl) ⟨Nat.le_of_ble_eq_true rfl, Nat.le_of_ble_eq_true rfl⟩ ⟨Nat.le_of_ble_eq_true rfl, Nat.le_of_ble_eq_true rfl⟩ dL_refusesAny_108) (fun _ => rfl) (fun ad9 H locs hw => ?_)
  have hw : fy D (va_A ws0 sz) s.heap H locs (wCl I h0 n t b0 b1 hh z8.2 ++ wHi I O hh ha ad9 z8.2.2.2.1) := hw
  refine lv_bipush (v := (-11)) hx hb dL_refusesAny_111 (by decide) ?_
  refine lv_icmp_ne (tgt := 300) hx hb dL_refusesAny_113 (by decide) (fun hc => ?_) (fun hc => ?_)
  · rw [if_neg hc] at hf
    refine lv_iconst (v := 0) hx hb dL_refusesAny_300 (by decide) ?_
    obtain ⟨he0, hr⟩ := Prod.mk.inj (Option.some.inj hf)
    have he1 := hr
    subst he1
    refine W.widen (k := 29) (n := 174) (Nat.le_of_ble_eq_true rfl) (Nat.le_of_ble_eq_true rfl) ?_
    exact x_zM E ad9 hw (Or.inl rfl) he0 dL_refusesAny_301
  · rw [if_pos hc] at hf
    refine lv_aload_n hx hb dL_refusesAny_116 rfl (lv_at hl 0 rfl) ?_
    refine lv_iconst (v := 2) hx hb dL_refusesAny_117 (by decide) ?_
    refine lv_iload_n hx hb dL_refusesAny_118 rfl (lv_at hl 2 rfl) ?_
    refine lv_iconst (v := 0) hx hb dL_refusesAny_119 (by decide) ?_
    refine lv_iconst (v := 0) hx hb dL_refusesAny_120 (by decide) ?_
    obtain ⟨z10, h, hf⟩ := bd_s hf
    refine x_miFP0 hw (x_rW E (As := [.ref h0, .int 2, .int v2, .int 0, .int 0]) (rest := []) (mt_L_call l hfl D I J O h0 n t b0 b1 hh ha ad9 H.size 2 v2 0 0 z8.2 z10.1 z10.2 h) blW (x_pcVF0 E hXZ hw) ok_L_call q445 rfl hl.1 rfl (Nat.le_of_ble_eq_true rfl) ⟨Nat.le_of_ble_eq_true rfl, Nat.le_of_ble_eq_true rfl⟩ ⟨Nat.le_of_ble_eq_true rfl, Nat.le_of_ble_eq_true rfl⟩ dL_refusesAny_121) (fun _ => rfl) (fun ad11 H locs hw => ?_)
    have hw : fy D (va_A ws0 sz) s.heap H locs (wCl I h0 n t b0 b1 hh z10.2 ++ wHi I O hh ha ad11 z10.2.2.2.1) := hw
    refine lv_bipush (v := (-11)) hx hb dL_refusesAny_124 (by decide) ?_
    refine lv_icmp_ne (tgt := 300) hx hb dL_refusesAny_126 (by decide) (fun hc => ?_) (fun hc => ?_)
    · rw [if_neg hc] at hf
      refine lv_iconst (v := 0) hx hb dL_refusesAny_300 (by decide) ?_
      obtain ⟨he0, hr⟩ := Prod.mk.inj (Option.some.inj hf)
      have he1 := hr
      subst he1
      refine W.widen (k := 29) (n := 174) (Nat.le_of_ble_eq_true rfl) (Nat.le_of_ble_eq_true rfl) ?_
      exact x_zM E ad11 hw (Or.inl rfl) he0 dL_refusesAny_301
    · rw [if_pos hc] at hf
      refine lv_aload_n hx hb dL_refusesAny_129 rfl (lv_at hl 0 rfl) ?_
      refine lv_iconst (v := 3) hx hb dL_refusesAny_130 (by decide) ?_
      refine lv_iload_n hx hb dL_refusesAny_131 rfl (lv_at hl 2 rfl) ?_
      refine lv_iconst (v := (-1)) hx hb dL_refusesAny_132 (by decide) ?_
      refine lv_iconst (v := 0) hx hb dL_refusesAny_133 (by decide) ?_
      obtain ⟨z12, h, hf⟩ := bd_s hf
      refine x_miFP0 hw (x_rW E (As := [.ref h0, .int 3, .int v2, .int (-1), .int 0]) (rest := []) (mt_L_call l hfl D I J O h0 n t b0 b1 hh ha ad11 H.size 3 v2 (-1) 0 z10.2 z12.1 z12.2 h) blW (x_pcVF0 E hXZ hw) ok_L_call q445 rfl hl.1 rfl (Nat.le_of_ble_eq_true rfl) ⟨Nat.le_of_ble_eq_true rfl, Nat.le_of_ble_eq_true rfl⟩ ⟨Nat.le_of_ble_eq_true rfl, Nat.le_of_ble_eq_true rfl⟩ dL_refusesAny_134) (fun _ => rfl) (fun ad13 H locs hw => ?_)
      have hw : fy D (va_A ws0 sz) s.heap H locs (wCl I h0 n t b0 b1 hh z12.2 ++ wHi I O hh ha ad13 z12.2.2.2.1) := hw
      refine lv_bipush (v := (-11)) hx hb dL_refusesAny_137 (by decide) ?_
      refine lv_icmp_ne (tgt := 300) hx hb dL_refusesAny_139 (by decide) (fun hc => ?_) (fun hc => ?_)
      · rw [if_neg hc] at hf
        refine lv_iconst (v := 0) hx hb dL_refusesAny_300 (by decide) ?_
        obtain ⟨he0, hr⟩ := Prod.mk.inj (Option.some.inj hf)
        have he1 := hr
        subst he1
        refine W.widen (k := 29) (n := 174) (Nat.le_of_ble_eq_true rfl) (Nat.le_of_ble_eq_true rfl) ?_
        exact x_zM E ad13 hw (Or.inl rfl) he0 dL_refusesAny_301
      · rw [if_pos hc] at hf
        refine lv_aload_n hx hb dL_refusesAny_142 rfl (lv_at hl 0 rfl) ?_
        refine lv_iconst (v := 4) hx hb dL_refusesAny_143 (by decide) ?_
        refine lv_iload_n hx hb dL_refusesAny_144 rfl (lv_at hl 3 rfl) ?_
        refine lv_iconst (v := 0) hx hb dL_refusesAny_145 (by decide) ?_
        refine lv_iconst (v := 0) hx hb dL_refusesAny_146 (by decide) ?_
        obtain ⟨z14, h, hf⟩ := bd_s hf
        refine x_miFP0 hw (x_rW E (As := [.ref h0, .int 4, .int v3, .int 0, .int 0]) (rest := []) (mt_L_call l hfl D I J O h0 n t b0 b1 hh ha ad13 H.size 4 v3 0 0 z12.2 z14.1 z14.2 h) blW (x_pcVF0 E hXZ hw) ok_L_call q445 rfl hl.1 rfl (Nat.le_of_ble_eq_true rfl) ⟨Nat.le_of_ble_eq_true rfl, Nat.le_of_ble_eq_true rfl⟩ ⟨Nat.le_of_ble_eq_true rfl, Nat.le_of_ble_eq_true rfl⟩ dL_refusesAny_147) (fun _ => rfl) (fun ad15 H locs hw => ?_)
        have hw : fy D (va_A ws0 sz) s.heap H locs (wCl I h0 n t b0 b1 hh z14.2 ++ wHi I O hh ha ad15 z14.2.2.2.1) := hw
        refine lv_bipush (v := (-11)) hx hb dL_refusesAny_150 (by decide) ?_
        refine lv_icmp_ne (tgt := 300) hx hb dL_refusesAny_152 (by decide) (fun hc => ?_) (fun hc => ?_)
        · rw [if_neg hc] at hf
          refine lv_iconst (v := 0) hx hb dL_refusesAny_300 (by decide) ?_
          obtain ⟨he0, hr⟩ := Prod.mk.inj (Option.some.inj hf)
          have he1 := hr
          subst he1
          refine W.widen (k := 29) (n := 174) (Nat.le_of_ble_eq_true rfl) (Nat.le_of_ble_eq_true rfl) ?_
          exact x_zM E ad15 hw (Or.inl rfl) he0 dL_refusesAny_301
        · rw [if_pos hc] at hf
          refine W.widen (k := 7) (n := 42) (Nat.le_of_ble_eq_true rfl) (Nat.le_of_ble_eq_true rfl) ?_
          exact k_L_refusesAny_155 E hfl hXZ h0 n t b0 b1 hh ha r y0 v1 v2 v3 v4 z14.2 hf ad15 _ _ hw _ (lv_sub hl [0, 1, 2, 3, 4] rfl)
set_option maxRecDepth 100000 in
set_option maxHeartbeats 4000000 in
theorem k_L_refusesAny_93 {p : Program} {l : Launch} {e : Env} {s : State} {m : MethodId} {args : Array Value} {below : List Frame} {meth : Method} {c : Code} {D : va_G} {I J O : ClassId} {ws0 : va_W} {sz : Nat} (E : fx p s m args meth c cL_refusesAny RL 6 (some .boolean) D I J O) (hfl : l.stackTraces = false) (hXZ : XZ (va_A ws0 sz) s) (h0 : Nat) (n t : Nat → Nat) (b0 b1 hh ha : Nat)  (r : Int32) (y0 : ClC) : ∀ (v1 : Int32) (v2 : Int32) (v3 : Int32) (v4 : Int32) (t1 : Int32) (t2 : Int32) (t3 : Int32) (t4 : Int32) (x : ClC), f_L_refusesAny_93 v1 v2 v3 v4 t1 t2 t3 t4 x = some (r, y0) → ∀ (ad : Nat → Nat → Nat) (H : Heap) (locs : List Loc), fy D (va_A ws0 sz) s.heap H locs (wCl I h0 n t b0 b1 hh x ++ wHi I O hh ha ad x.2.2.1) → ∀ ls : Array Slot, lv_has ls 6 [(0, .ref h0), (1, .int v1), (2, .int v2), (3, .int v3), (4, .int v4)] → W p l e (rmB 10 225 29 174) s m args below meth c H locs 2 12 (MQ below (qMi D sz ws0 r (fun ad9 : Nat → Nat → Nat => wCl I h0 n t b0 b1 hh y0 ++ wHi I O hh ha ad9 y0.2.2.1)) args s 29 174 (va_A ws0 sz)) (F0 m 93 ls [.int t4, .int t3, .int t2, .int t1, .ref h0]) := by
  have hx := E.1
  have hb := E.2.1
  intro v1 v2 v3 v4 t1 t2 t3 t4 x hf ad H locs hw ls hl
  unfold f_L_refusesAny_93 at hf
  obtain ⟨z6, h, hf⟩ := bd_s hf
  refine x_miFP0 hw (x_rW E (As := [.ref h0, .int t1, .int t2, .int t3, .int t4]) (rest := []) (mt_L_call l hfl D I J O h0 n t b0 b1 hh ha ad H.size t1 t2 t3 t4 x z6.1 z6.2 h) blW (x_pcVF0 E hXZ hw) ok_L_call q445 rfl hl.1 rfl (Nat.le_of_ble_eq_true rfl) ⟨Nat.le_of_ble_eq_true rfl, Nat.le_of_ble_eq_true rfl⟩ ⟨Nat.le_of_ble_eq_true rfl, Nat.le_of_ble_eq_true rfl⟩ dL_refusesAny_93) (fun _ => rfl) (fun ad7 H locs hw => ?_)
  have hw : fy D (va_A ws0 sz) s.heap H locs (wCl I h0 n t b0 b1 hh z6.2 ++ wHi I O hh ha ad7 z6.2.2.2.1) := hw
  refine lv_bipush (v := (-12)) hx hb dL_refusesAny_96 (by decide) ?_
  refine lv_icmp_ne (tgt := 300) hx hb dL_refusesAny_98 (by decide) (fun hc => ?_) (fun hc => ?_)
  · rw [if_neg hc] at hf
    refine lv_iconst (v := 0) hx hb dL_refusesAny_300 (by decide) ?_
    obtain ⟨he0, hr⟩ := Prod.mk.inj (Option.some.inj hf)
    have he1 := hr
    subst he1
    refine W.widen (k := 29) (n := 174) (Nat.le_of_ble_eq_true rfl) (Nat.le_of_ble_eq_true rfl) ?_
    exact x_zM E ad7 hw (Or.inl rfl) he0 dL_refusesAny_301
  · rw [if_pos hc] at hf
    refine W.widen (k := 3) (n := 18) (Nat.le_of_ble_eq_true rfl) (Nat.le_of_ble_eq_true rfl) ?_
    exact k_L_refusesAny_101 E hfl hXZ h0 n t b0 b1 hh ha r y0 v1 v2 v3 v4 z6.2 hf ad7 _ _ hw _ (lv_sub hl [0, 1, 2, 3, 4] rfl)
set_option maxRecDepth 100000 in
set_option maxHeartbeats 4000000 in
theorem k_L_refusesAny_50 {p : Program} {l : Launch} {e : Env} {s : State} {m : MethodId} {args : Array Value} {below : List Frame} {meth : Method} {c : Code} {D : va_G} {I J O : ClassId} {ws0 : va_W} {sz : Nat} (E : fx p s m args meth c cL_refusesAny RL 6 (some .boolean) D I J O) (hfl : l.stackTraces = false) (hXZ : XZ (va_A ws0 sz) s) (h0 : Nat) (n t : Nat → Nat) (b0 b1 hh ha : Nat)  (r : Int32) (y0 : ClC) : ∀ (v1 : Int32) (v2 : Int32) (v3 : Int32) (v4 : Int32) (t0 : Int32) (x : ClC), f_L_refusesAny_50 v1 v2 v3 v4 t0 x = some (r, y0) → ∀ (ad : Nat → Nat → Nat) (H : Heap) (locs : List Loc), fy D (va_A ws0 sz) s.heap H locs (wCl I h0 n t b0 b1 hh x ++ wHi I O hh ha ad x.2.2.1) → ∀ ls : Array Slot, lv_has ls 6 [(0, .ref h0), (1, .int v1), (2, .int v2), (3, .int v3), (4, .int v4)] → W p l e (rmB 10 225 29 174) s m args below meth c H locs 0 0 (MQ below (qMi D sz ws0 r (fun ad9 : Nat → Nat → Nat => wCl I h0 n t b0 b1 hh y0 ++ wHi I O hh ha ad9 y0.2.2.1)) args s 29 174 (va_A ws0 sz)) (F0 m 50 ls [.int t0]) := by
  have hx := E.1
  have hb := E.2.1
  intro v1 v2 v3 v4 t0 x hf ad H locs hw ls hl
  unfold f_L_refusesAny_50 at hf
  refine lv_istore (lv' := [(5, .int t0), (0, .ref h0), (1, .int v1), (2, .int v2), (3, .int v3), (4, .int v4)]) hx hb dL_refusesAny_50 hl (by decide) rfl (fun ls hl => ?_)
  refine lv_aload_n hx hb dL_refusesAny_52 rfl (lv_at hl 1 rfl) ?_
  refine lv_iconst (v := 0) hx hb dL_refusesAny_53 (by decide) ?_
  refine lv_iload hx hb dL_refusesAny_54 (lv_at hl 0 rfl) ?_
  refine lv_iconst (v := 1) hx hb dL_refusesAny_56 (by decide) ?_
  refine lv_iconst (v := 0) hx hb dL_refusesAny_57 (by decide) ?_
  obtain ⟨z2, h, hf⟩ := bd_s hf
  refine x_miFP0 hw (x_rW E (As := [.ref h0, .int 0, .int t0, .int 1, .int 0]) (rest := []) (mt_L_call l hfl D I J O h0 n t b0 b1 hh ha ad H.size 0 t0 1 0 x z2.1 z2.2 h) blW (x_pcVF0 E hXZ hw) ok_L_call q445 rfl hl.1 rfl (Nat.le_of_ble_eq_true rfl) ⟨Nat.le_of_ble_eq_true rfl, Nat.le_of_ble_eq_true rfl⟩ ⟨Nat.le_of_ble_eq_true rfl, Nat.le_of_ble_eq_true rfl⟩ dL_refusesAny_58) (fun _ => rfl) (fun ad3 H locs hw => ?_)
  have hw : fy D (va_A ws0 sz) s.heap H locs (wCl I h0 n t b0 b1 hh z2.2 ++ wHi I O hh ha ad3 z2.2.2.2.1) := hw
  refine lv_bipush (v := (-12)) hx hb dL_refusesAny_61 (by decide) ?_
  refine lv_icmp_ne (tgt := 300) hx hb dL_refusesAny_63 (by decide) (fun hc => ?_) (fun hc => ?_)
  · rw [if_neg hc] at hf
    refine lv_iconst (v := 0) hx hb dL_refusesAny_300 (by decide) ?_
    obtain ⟨he0, hr⟩ := Prod.mk.inj (Option.some.inj hf)
    have he1 := hr
    subst he1
    refine W.widen (k := 29) (n := 174) (Nat.le_of_ble_eq_true rfl) (Nat.le_of_ble_eq_true rfl) ?_
    exact x_zM E ad3 hw (Or.inl rfl) he0 dL_refusesAny_301
  · rw [if_pos hc] at hf
    refine lv_aload_n hx hb dL_refusesAny_66 rfl (lv_at hl 1 rfl) ?_
    refine lv_iconst (v := 0) hx hb dL_refusesAny_67 (by decide) ?_
    refine lv_iconst (v := 1) hx hb dL_refusesAny_68 (by decide) ?_
    refine lv_iload hx hb dL_refusesAny_69 (lv_at hl 5 rfl) ?_
    refine lv_iconst (v := 0) hx hb dL_refusesAny_71 (by decide) ?_
    obtain ⟨z4, h, hf⟩ := bd_s hf
    refine x_miFP0 hw (x_rW E (As := [.ref h0, .int 0, .int 1, .int v4, .int 0]) (rest := []) (mt_L_call l hfl D I J O h0 n t b0 b1 hh ha ad3 H.size 0 1 v4 0 z2.2 z4.1 z4.2 h) blW (x_pcVF0 E hXZ hw) ok_L_call q445 rfl hl.1 rfl (Nat.le_of_ble_eq_true rfl) ⟨Nat.le_of_ble_eq_true rfl, Nat.le_of_ble_eq_true rfl⟩ ⟨Nat.le_of_ble_eq_true rfl, Nat.le_of_ble_eq_true rfl⟩ dL_refusesAny_72) (fun _ => rfl) (fun ad5 H locs hw => ?_)
    have hw : fy D (va_A ws0 sz) s.heap H locs (wCl I h0 n t b0 b1 hh z4.2 ++ wHi I O hh ha ad5 z4.2.2.2.1) := hw
    refine lv_bipush (v := (-12)) hx hb dL_refusesAny_75 (by decide) ?_
    refine lv_icmp_ne (tgt := 300) hx hb dL_refusesAny_77 (by decide) (fun hc => ?_) (fun hc => ?_)
    · rw [if_neg hc] at hf
      refine lv_iconst (v := 0) hx hb dL_refusesAny_300 (by decide) ?_
      obtain ⟨he0, hr⟩ := Prod.mk.inj (Option.some.inj hf)
      have he1 := hr
      subst he1
      refine W.widen (k := 29) (n := 174) (Nat.le_of_ble_eq_true rfl) (Nat.le_of_ble_eq_true rfl) ?_
      exact x_zM E ad5 hw (Or.inl rfl) he0 dL_refusesAny_301
    · rw [if_pos hc] at hf
      refine lv_aload_n hx hb dL_refusesAny_80 rfl (lv_at hl 1 rfl) ?_
      refine lv_iconst (v := 0) hx hb dL_refusesAny_81 (by decide) ?_
      refine lv_iconst (v := 1) hx hb dL_refusesAny_82 (by decide) ?_
      refine lv_iconst (v := 1) hx hb dL_refusesAny_83 (by decide) ?_
      refine lv_iload_n hx hb dL_refusesAny_84 rfl (lv_at hl 2 rfl) ?_
      refine lv_if_ne (tgt := 92) hx hb dL_refusesAny_85 (by decide) (fun hc => ?_) (fun hc => ?_)
      · rw [if_neg hc] at hf
        refine lv_iconst (v := 3) hx hb dL_refusesAny_92 (by decide) ?_
        refine W.widen (k := 2) (n := 12) (Nat.le_of_ble_eq_true rfl) (Nat.le_of_ble_eq_true rfl) ?_
        exact k_L_refusesAny_93 E hfl hXZ h0 n t b0 b1 hh ha r y0 v1 v2 v3 v4 0 1 1 3 z4.2 hf ad5 _ _ hw _ (lv_sub hl [1, 2, 3, 4, 5] rfl)
      · rw [if_pos hc] at hf
        refine lv_iconst (v := (-1)) hx hb dL_refusesAny_88 (by decide) ?_
        refine lv_goto (tgt := 93) hx hb dL_refusesAny_89 (by decide) ?_
        refine W.widen (k := 2) (n := 12) (Nat.le_of_ble_eq_true rfl) (Nat.le_of_ble_eq_true rfl) ?_
        exact k_L_refusesAny_93 E hfl hXZ h0 n t b0 b1 hh ha r y0 v1 v2 v3 v4 0 1 1 (-1) z4.2 hf ad5 _ _ hw _ (lv_sub hl [1, 2, 3, 4, 5] rfl)
set_option maxRecDepth 100000 in
set_option maxHeartbeats 4000000 in
theorem k_L_refusesAny_37 {p : Program} {l : Launch} {e : Env} {s : State} {m : MethodId} {args : Array Value} {below : List Frame} {meth : Method} {c : Code} {D : va_G} {I J O : ClassId} {ws0 : va_W} {sz : Nat} (E : fx p s m args meth c cL_refusesAny RL 6 (some .boolean) D I J O) (hfl : l.stackTraces = false) (hXZ : XZ (va_A ws0 sz) s) (h0 : Nat) (n t : Nat → Nat) (b0 b1 hh ha : Nat)  (r : Int32) (y0 : ClC) : ∀ (v1 : Int32) (v2 : Int32) (v3 : Int32) (t0 : Int32) (x : ClC), f_L_refusesAny_37 v1 v2 v3 t0 x = some (r, y0) → ∀ (ad : Nat → Nat → Nat) (H : Heap) (locs : List Loc), fy D (va_A ws0 sz) s.heap H locs (wCl I h0 n t b0 b1 hh x ++ wHi I O hh ha ad x.2.2.1) → ∀ ls : Array Slot, lv_has ls 6 [(0, .ref h0), (1, .int v1), (2, .int v2), (3, .int v3)] → W p l e (rmB 10 225 29 174) s m args below meth c H locs 0 0 (MQ below (qMi D sz ws0 r (fun ad9 : Nat → Nat → Nat => wCl I h0 n t b0 b1 hh y0 ++ wHi I O hh ha ad9 y0.2.2.1)) args s 29 174 (va_A ws0 sz)) (F0 m 37 ls [.int t0]) := by
  have hx := E.1
  have hb := E.2.1
  intro v1 v2 v3 t0 x hf ad H locs hw ls hl
  unfold f_L_refusesAny_37 at hf
  refine lv_istore (lv' := [(4, .int t0), (0, .ref h0), (1, .int v1), (2, .int v2), (3, .int v3)]) hx hb dL_refusesAny_37 hl (by decide) rfl (fun ls hl => ?_)
  refine lv_iload_n hx hb dL_refusesAny_39 rfl (lv_at hl 2 rfl) ?_
  refine lv_if_ne (tgt := 47) hx hb dL_refusesAny_40 (by decide) (fun hc => ?_) (fun hc => ?_)
  · rw [if_neg hc] at hf
    refine lv_sipush (v := 1000) hx hb dL_refusesAny_47 (by decide) ?_
    refine W.widen (k := 0) (n := 0) (Nat.le_of_ble_eq_true rfl) (Nat.le_of_ble_eq_true rfl) ?_
    exact k_L_refusesAny_50 E hfl hXZ h0 n t b0 b1 hh ha r y0 v1 v2 v3 t0 1000 x hf ad _ _ hw _ (lv_sub hl [1, 2, 3, 4, 0] rfl)
  · rw [if_pos hc] at hf
    refine lv_iconst (v := (-1)) hx hb dL_refusesAny_43 (by decide) ?_
    refine lv_goto (tgt := 50) hx hb dL_refusesAny_44 (by decide) ?_
    refine W.widen (k := 0) (n := 0) (Nat.le_of_ble_eq_true rfl) (Nat.le_of_ble_eq_true rfl) ?_
    exact k_L_refusesAny_50 E hfl hXZ h0 n t b0 b1 hh ha r y0 v1 v2 v3 t0 (-1) x hf ad _ _ hw _ (lv_sub hl [1, 2, 3, 4, 0] rfl)
set_option maxRecDepth 100000 in
set_option maxHeartbeats 4000000 in
theorem k_L_refusesAny_27 {p : Program} {l : Launch} {e : Env} {s : State} {m : MethodId} {args : Array Value} {below : List Frame} {meth : Method} {c : Code} {D : va_G} {I J O : ClassId} {ws0 : va_W} {sz : Nat} (E : fx p s m args meth c cL_refusesAny RL 6 (some .boolean) D I J O) (hfl : l.stackTraces = false) (hXZ : XZ (va_A ws0 sz) s) (h0 : Nat) (n t : Nat → Nat) (b0 b1 hh ha : Nat)  (r : Int32) (y0 : ClC) : ∀ (v1 : Int32) (v2 : Int32) (t0 : Int32) (x : ClC), f_L_refusesAny_27 v1 v2 t0 x = some (r, y0) → ∀ (ad : Nat → Nat → Nat) (H : Heap) (locs : List Loc), fy D (va_A ws0 sz) s.heap H locs (wCl I h0 n t b0 b1 hh x ++ wHi I O hh ha ad x.2.2.1) → ∀ ls : Array Slot, lv_has ls 6 [(0, .ref h0), (1, .int v1), (2, .int v2)] → W p l e (rmB 10 225 29 174) s m args below meth c H locs 0 0 (MQ below (qMi D sz ws0 r (fun ad9 : Nat → Nat → Nat => wCl I h0 n t b0 b1 hh y0 ++ wHi I O hh ha ad9 y0.2.2.1)) args s 29 174 (va_A ws0 sz)) (F0 m 27 ls [.int t0]) := by
  have hx := E.1
  have hb := E.2.1
  intro v1 v2 t0 x hf ad H locs hw ls hl
  unfold f_L_refusesAny_27 at hf
  refine lv_istore_n (lv' := [(3, .int t0), (0, .ref h0), (1, .int v1), (2, .int v2)]) hx hb dL_refusesAny_27 rfl hl (by decide) rfl (fun ls hl => ?_)
  refine lv_iload_n hx hb dL_refusesAny_28 rfl (lv_at hl 2 rfl) ?_
  refine lv_if_ne (tgt := 36) hx hb dL_refusesAny_29 (by decide) (fun hc => ?_) (fun hc => ?_)
  · rw [if_neg hc] at hf
    refine lv_iconst (v := 5) hx hb dL_refusesAny_36 (by decide) ?_
    refine W.widen (k := 0) (n := 0) (Nat.le_of_ble_eq_true rfl) (Nat.le_of_ble_eq_true rfl) ?_
    exact k_L_refusesAny_37 E hfl hXZ h0 n t b0 b1 hh ha r y0 v1 v2 t0 5 x hf ad _ _ hw _ (lv_sub hl [1, 2, 3, 0] rfl)
  · rw [if_pos hc] at hf
    refine lv_iconst (v := 0) hx hb dL_refusesAny_32 (by decide) ?_
    refine lv_goto (tgt := 37) hx hb dL_refusesAny_33 (by decide) ?_
    refine W.widen (k := 0) (n := 0) (Nat.le_of_ble_eq_true rfl) (Nat.le_of_ble_eq_true rfl) ?_
    exact k_L_refusesAny_37 E hfl hXZ h0 n t b0 b1 hh ha r y0 v1 v2 t0 0 x hf ad _ _ hw _ (lv_sub hl [1, 2, 3, 0] rfl)
set_option maxRecDepth 100000 in
set_option maxHeartbeats 4000000 in
theorem k_L_refusesAny_17 {p : Program} {l : Launch} {e : Env} {s : State} {m : MethodId} {args : Array Value} {below : List Frame} {meth : Method} {c : Code} {D : va_G} {I J O : ClassId} {ws0 : va_W} {sz : Nat} (E : fx p s m args meth c cL_refusesAny RL 6 (some .boolean) D I J O) (hfl : l.stackTraces = false) (hXZ : XZ (va_A ws0 sz) s) (h0 : Nat) (n t : Nat → Nat) (b0 b1 hh ha : Nat)  (r : Int32) (y0 : ClC) : ∀ (v1 : Int32) (t0 : Int32) (x : ClC), f_L_refusesAny_17 v1 t0 x = some (r, y0) → ∀ (ad : Nat → Nat → Nat) (H : Heap) (locs : List Loc), fy D (va_A ws0 sz) s.heap H locs (wCl I h0 n t b0 b1 hh x ++ wHi I O hh ha ad x.2.2.1) → ∀ ls : Array Slot, lv_has ls 6 [(0, .ref h0), (1, .int v1)] → W p l e (rmB 10 225 29 174) s m args below meth c H locs 0 0 (MQ below (qMi D sz ws0 r (fun ad9 : Nat → Nat → Nat => wCl I h0 n t b0 b1 hh y0 ++ wHi I O hh ha ad9 y0.2.2.1)) args s 29 174 (va_A ws0 sz)) (F0 m 17 ls [.int t0]) := by
  have hx := E.1
  have hb := E.2.1
  intro v1 t0 x hf ad H locs hw ls hl
  unfold f_L_refusesAny_17 at hf
  refine lv_istore_n (lv' := [(2, .int t0), (0, .ref h0), (1, .int v1)]) hx hb dL_refusesAny_17 rfl hl (by decide) rfl (fun ls hl => ?_)
  refine lv_iload_n hx hb dL_refusesAny_18 rfl (lv_at hl 2 rfl) ?_
  refine lv_if_ne (tgt := 26) hx hb dL_refusesAny_19 (by decide) (fun hc => ?_) (fun hc => ?_)
  · rw [if_neg hc] at hf
    refine lv_iconst (v := 4) hx hb dL_refusesAny_26 (by decide) ?_
    refine W.widen (k := 0) (n := 0) (Nat.le_of_ble_eq_true rfl) (Nat.le_of_ble_eq_true rfl) ?_
    exact k_L_refusesAny_27 E hfl hXZ h0 n t b0 b1 hh ha r y0 v1 t0 4 x hf ad _ _ hw _ (lv_sub hl [1, 2, 0] rfl)
  · rw [if_pos hc] at hf
    refine lv_iconst (v := (-1)) hx hb dL_refusesAny_22 (by decide) ?_
    refine lv_goto (tgt := 27) hx hb dL_refusesAny_23 (by decide) ?_
    refine W.widen (k := 0) (n := 0) (Nat.le_of_ble_eq_true rfl) (Nat.le_of_ble_eq_true rfl) ?_
    exact k_L_refusesAny_27 E hfl hXZ h0 n t b0 b1 hh ha r y0 v1 t0 (-1) x hf ad _ _ hw _ (lv_sub hl [1, 2, 0] rfl)
set_option maxRecDepth 100000 in
set_option maxHeartbeats 4000000 in
theorem mt_L_refusesAny (l : Launch) (hfl : l.stackTraces = false) (D : va_G) (I J O : ClassId) (h0 : Nat) (n t : Nat → Nat) (b0 b1 hh ha : Nat) (ad : Nat → Nat → Nat) (sz : Nat) (p1 : Int32) (x : ClC) (r : Int32) (y0 : ClC) (hf : f_L_refusesAny p1 x = some (r, y0)) : mZ l yL_refusesAny cL_refusesAny 6 (some .boolean) 10 225 29 174 D I J O sz [.ref h0, .int p1] (wCl I h0 n t b0 b1 hh x ++ wHi I O hh ha ad x.2.2.1) (qMi D sz (wCl I h0 n t b0 b1 hh x ++ wHi I O hh ha ad x.2.2.1) r (fun ad9 : Nat → Nat → Nat => wCl I h0 n t b0 b1 hh y0 ++ wHi I O hh ha ad9 y0.2.2.1)) := by
  refine mZ_open (own := RL) rfl (by decide +kernel) (Nat.le_of_ble_eq_true rfl) (fun p e s m below meth c ls E hXZ hsz hw hl => ?_)
  obtain ⟨ws0, hws⟩ : ∃ ws0 : va_W, ws0 = wCl I h0 n t b0 b1 hh x ++ wHi I O hh ha ad x.2.2.1 := ⟨_, rfl⟩
  rw [← hws] at hXZ
  have hw : fy D (va_A ws0 sz) s.heap s.heap [] (wCl I h0 n t b0 b1 hh x ++ wHi I O hh ha ad x.2.2.1) := by rw [hws]; exact hw
  rw [← hws]
  have hx := E.1
  have hb := E.2.1
  have hl : lv_has ls 6 [(0, .ref h0), (1, .int p1)] := hl
  unfold f_L_refusesAny at hf
  refine lv_iload_n hx hb dL_refusesAny_0 rfl (lv_at hl 1 rfl) ?_
  refine lv_if_ne (tgt := 8) hx hb dL_refusesAny_1 (by decide) (fun hc => ?_) (fun hc => ?_)
  · rw [if_neg hc] at hf
    refine lv_sipush (v := 1000) hx hb dL_refusesAny_8 (by decide) ?_
    refine lv_aload_n hx hb dL_refusesAny_11 rfl (lv_at hl 0 rfl) ?_
    refine lv_iconst (v := 2) hx hb dL_refusesAny_12 (by decide) ?_
    obtain ⟨z1, h, hf⟩ := rt_s hf
    refine x_ci (x_rV E (As := [.int 2]) (rest := [.int 1000]) (mt_X5_count l D I J O h0 n t b0 b1 hh ha ad 2 x z1 h) blR (x_recv E hw.1 0 5 rfl rfl rfl) (x_pcR E hw.1) ok_X5_count q399 rfl hl.1 rfl (Nat.le_of_ble_eq_true rfl) ⟨Nat.le_of_ble_eq_true rfl, Nat.le_of_ble_eq_true rfl⟩ ⟨Nat.le_of_ble_eq_true rfl, Nat.le_of_ble_eq_true rfl⟩ dL_refusesAny_13) ?_
    refine lv_imul hx hb dL_refusesAny_16 ?_
    refine W.widen (k := 0) (n := 0) (Nat.le_of_ble_eq_true rfl) (Nat.le_of_ble_eq_true rfl) ?_
    exact k_L_refusesAny_17 E hfl hXZ h0 n t b0 b1 hh ha r y0 p1 (1000 * z1) x hf ad _ _ hw _ (lv_sub hl [0, 1] rfl)
  · rw [if_pos hc] at hf
    refine lv_iconst (v := (-1)) hx hb dL_refusesAny_4 (by decide) ?_
    refine lv_goto (tgt := 17) hx hb dL_refusesAny_5 (by decide) ?_
    refine W.widen (k := 0) (n := 0) (Nat.le_of_ble_eq_true rfl) (Nat.le_of_ble_eq_true rfl) ?_
    exact k_L_refusesAny_17 E hfl hXZ h0 n t b0 b1 hh ha r y0 p1 (-1) x hf ad _ _ hw _ (lv_sub hl [0, 1] rfl)
