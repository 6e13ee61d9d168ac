theorem ok_L_texts : yS yL_texts cL_texts 2 (some .boolean) 0 := ⟨q755, q0, q754, by decide +kernel, by decide +kernel, by decide +kernel⟩
set_option maxRecDepth 100000 in
set_option maxHeartbeats 4000000 in
theorem k_L_texts_332 {p : Program} {l : Launch} {e : Env} {s : State} {m : MethodId} {args : Array Value} {below : List Frame} {meth : Method} {c : Code} {D : va_G} {I J O : ClassId} {ws0 : va_W} {sz : Nat} (E : fx p s m args meth c cL_texts RL 2 (some .boolean) D I J O) (hfl : l.stackTraces = false) (hXZ : XZ (va_A ws0 sz) s) (h0 : Nat) (n t : Nat → Nat) (b0 b1 hh ha : Nat)  (r : Int32) (k288 : Int32 → ClC → Option (Int32)) (hk288 : ∀ (v1 : Int32) (x : ClC), k288 v1 x = some r → ∀ (ad : Nat → Nat → Nat) (H : Heap) (locs : List Loc), fy D (va_A ws0 sz) s.heap H locs (wCl I h0 n t b0 b1 hh x ++ wHi I O hh ha ad x.2.2.1) → ∀ ls : Array Slot, lv_has ls 2 [(0, .ref h0), (1, .int v1)] → W p l e (rmB 9 204 106 4400) s m args below meth c H locs 103 4382 (MQ below (qMi D sz ws0 r (fun _ : Unit => ([] : va_W))) args s 106 4400 (va_A ws0 sz)) (F0 m 288 ls [])) : ∀ (v1 : Int32) (t1 : Int32) (x : ClC), f_L_texts_332 k288 v1 t1 x = some r → ∀ (ad : Nat → Nat → Nat) (H : Heap) (locs : List Loc), fy D (va_A ws0 sz) s.heap H locs (wCl I h0 n t b0 b1 hh x ++ wHi I O hh ha ad x.2.2.1) → ∀ ls : Array Slot, lv_has ls 2 [(0, .ref h0), (1, .int v1)] → W p l e (rmB 9 204 106 4400) s m args below meth c H locs 103 4382 (MQ below (qMi D sz ws0 r (fun _ : Unit => ([] : va_W))) args s 106 4400 (va_A ws0 sz)) (F0 m 332 ls [.int t1, .ref h0]) := by
  have hx := E.1
  have hb := E.2.1
  intro v1 t1 x hf ad H locs hw ls hl
  unfold f_L_texts_332 at hf
  obtain ⟨z53, h, hf⟩ := rt_s hf
  refine x_miFP0 hw (x_rV E (As := [.int t1]) (rest := []) (mt_X5_append l D I J O h0 n t b0 b1 hh ha ad H.size t1 x z53.1 z53.2 h) blM (x_recv E hw.1 0 5 rfl rfl rfl) (x_pcMPF0 E hw) ok_X5_append q559 rfl hl.1 rfl (Nat.le_of_ble_eq_true rfl) ⟨Nat.le_of_ble_eq_true rfl, Nat.le_of_ble_eq_true rfl⟩ ⟨Nat.le_of_ble_eq_true rfl, Nat.le_of_ble_eq_true rfl⟩ dL_texts_332) (fun _ => rfl) (fun ad54 H locs hw => ?_)
  have hw : fy D (va_A ws0 sz) s.heap H locs (wCl I h0 n t b0 b1 hh z53.2 ++ wHi I O hh ha ad54 z53.2.2.2.1) := hw
  refine lv_iload_n hx hb dL_texts_335 rfl (lv_at hl 1 rfl) ?_
  refine lv_iconst (v := 1) hx hb dL_texts_336 (by decide) ?_
  refine lv_iadd hx hb dL_texts_337 ?_
  refine lv_icmp_eq (tgt := 343) hx hb dL_texts_338 (by decide) (fun hc => ?_) (fun hc => ?_)
  · rw [if_pos hc] at hf
    refine lv_iinc (v := v1 + 1) (lv' := [(1, .int (v1 + 1)), (0, .ref h0)]) hx hb dL_texts_343 hl (k := 1) rfl rfl (by decide) rfl (fun ls hl => ?_)
    refine lv_goto (tgt := 288) hx hb dL_texts_346 (by decide) ?_
    refine W.widen (k := 103) (n := 4382) (Nat.le_of_ble_eq_true rfl) (Nat.le_of_ble_eq_true rfl) ?_
    exact hk288 (v1 + 1) z53.2 hf ad54 _ _ hw _ (lv_sub hl [1, 0] rfl)
  · rw [if_neg hc] at hf
    refine lv_iconst (v := 0) hx hb dL_texts_341 (by decide) ?_
    have he0 := Option.some.inj hf
    have hw : fy D (va_A ws0 sz) s.heap H locs ([] : va_W) := fy.sub hw [] rfl rfl
    refine W.widen (k := 106) (n := 4400) (Nat.le_of_ble_eq_true rfl) (Nat.le_of_ble_eq_true rfl) ?_
    exact x_zM (w1 := fun _ : Unit => ([] : va_W)) E () hw (Or.inl rfl) he0 dL_texts_342
set_option maxRecDepth 100000 in
set_option maxHeartbeats 4000000 in
theorem k_L_texts_379 {p : Program} {l : Launch} {e : Env} {s : State} {m : MethodId} {args : Array Value} {below : List Frame} {meth : Method} {c : Code} {D : va_G} {I J O : ClassId} {ws0 : va_W} {sz : Nat} (E : fx p s m args meth c cL_texts RL 2 (some .boolean) D I J O) (hfl : l.stackTraces = false) (hXZ : XZ (va_A ws0 sz) s) (h0 : Nat) (n t : Nat → Nat) (b0 b1 hh ha : Nat)  (r : Int32) : ∀ (x : ClC), f_L_texts_379 x = some r → ∀ (ad : Nat → Nat → Nat) (H : Heap) (locs : List Loc), fy D (va_A ws0 sz) s.heap H locs (wCl I h0 n t b0 b1 hh x ++ wHi I O hh ha ad x.2.2.1) → ∀ ls : Array Slot, lv_has ls 2 [(0, .ref h0)] → W p l e (rmB 9 204 106 4400) s m args below meth c H locs 105 4394 (MQ below (qMi D sz ws0 r (fun _ : Unit => ([] : va_W))) args s 106 4400 (va_A ws0 sz)) (F0 m 379 ls []) := by
  have hx := E.1
  have hb := E.2.1
  intro x hf ad H locs hw ls hl
  unfold f_L_texts_379 at hf
  refine lv_aload_n hx hb dL_texts_379 rfl (lv_at hl 0 rfl) ?_
  obtain ⟨z55, h, hf⟩ := bd_s hf
  refine x_ci (x_rV E (As := []) (rest := []) (mt_X5_firstError l D I J O h0 n t b0 b1 hh ha ad x z55 h) blR (x_recv E hw.1 0 5 rfl rfl rfl) (x_pcR E hw.1) ok_X5_firstError q756 rfl hl.1 rfl (Nat.le_of_ble_eq_true rfl) ⟨Nat.le_of_ble_eq_true rfl, Nat.le_of_ble_eq_true rfl⟩ ⟨Nat.le_of_ble_eq_true rfl, Nat.le_of_ble_eq_true rfl⟩ dL_texts_380) ?_
  refine lv_bipush (v := 60) hx hb dL_texts_383 (by decide) ?_
  refine lv_icmp_ne (tgt := 415) hx hb dL_texts_385 (by decide) (fun hc => ?_) (fun hc => ?_)
  · rw [if_neg hc] at hf
    refine lv_iconst (v := 0) hx hb dL_texts_415 (by decide) ?_
    have he0 := Option.some.inj hf
    have hw : fy D (va_A ws0 sz) s.heap H locs ([] : va_W) := fy.sub hw [] rfl rfl
    refine W.widen (k := 106) (n := 4400) (Nat.le_of_ble_eq_true rfl) (Nat.le_of_ble_eq_true rfl) ?_
    exact x_zM (w1 := fun _ : Unit => ([] : va_W)) E () hw (Or.inl rfl) he0 dL_texts_416
  · rw [if_pos hc] at hf
    refine lv_aload_n hx hb dL_texts_388 rfl (lv_at hl 0 rfl) ?_
    refine lv_bipush (v := 8) hx hb dL_texts_389 (by decide) ?_
    refine lv_iconst (v := 0) hx hb dL_texts_391 (by decide) ?_
    refine lv_iconst (v := 0) hx hb dL_texts_392 (by decide) ?_
    refine lv_iconst (v := 0) hx hb dL_texts_393 (by decide) ?_
    obtain ⟨z56, h, hf⟩ := bd_s hf
    refine x_miFP0 hw (x_rW E (As := [.ref h0, .int 8, .int 0, .int 0, .int 0]) (rest := []) (mt_L_call l hfl D I J O h0 n t b0 b1 hh ha ad H.size 8 0 0 0 x z56.1 z56.2 h) blW (x_pcVF0 E hXZ hw) ok_L_call q445 rfl hl.1 rfl (Nat.le_of_ble_eq_true rfl) ⟨Nat.le_of_ble_eq_true rfl, Nat.le_of_ble_eq_true rfl⟩ ⟨Nat.le_of_ble_eq_true rfl, Nat.le_of_ble_eq_true rfl⟩ dL_texts_394) (fun _ => rfl) (fun ad57 H locs hw => ?_)
    have hw : fy D (va_A ws0 sz) s.heap H locs (wCl I h0 n t b0 b1 hh z56.2 ++ wHi I O hh ha ad57 z56.2.2.2.1) := hw
    refine lv_bipush (v := (-12)) hx hb dL_texts_397 (by decide) ?_
    refine lv_icmp_ne (tgt := 415) hx hb dL_texts_399 (by decide) (fun hc => ?_) (fun hc => ?_)
    · rw [if_neg hc] at hf
      refine lv_iconst (v := 0) hx hb dL_texts_415 (by decide) ?_
      have he0 := Option.some.inj hf
      have hw : fy D (va_A ws0 sz) s.heap H locs ([] : va_W) := fy.sub hw [] rfl rfl
      refine W.widen (k := 106) (n := 4400) (Nat.le_of_ble_eq_true rfl) (Nat.le_of_ble_eq_true rfl) ?_
      exact x_zM (w1 := fun _ : Unit => ([] : va_W)) E () hw (Or.inl rfl) he0 dL_texts_416
    · rw [if_pos hc] at hf
      refine lv_aload_n hx hb dL_texts_402 rfl (lv_at hl 0 rfl) ?_
      obtain ⟨z58, h, hf⟩ := bd_s hf
      refine x_miFP0 hw (x_rV E (As := []) (rest := []) (mt_X5_clearBuffer l D I J O h0 n t b0 b1 hh ha ad57 H.size z56.2 z58.1 z58.2 h) blM (x_recv E hw.1 0 5 rfl rfl rfl) (x_pcMPF0 E hw) ok_X5_clearBuffer q768 rfl hl.1 rfl (Nat.le_of_ble_eq_true rfl) ⟨Nat.le_of_ble_eq_true rfl, Nat.le_of_ble_eq_true rfl⟩ ⟨Nat.le_of_ble_eq_true rfl, Nat.le_of_ble_eq_true rfl⟩ dL_texts_403) (fun _ => rfl) (fun ad59 H locs hw => ?_)
      have hw : fy D (va_A ws0 sz) s.heap H locs (wCl I h0 n t b0 b1 hh z58.2 ++ wHi I O hh ha ad59 z58.2.2.2.1) := hw
      refine lv_bipush (v := 60) hx hb dL_texts_406 (by decide) ?_
      refine lv_icmp_ne (tgt := 415) hx hb dL_texts_408 (by decide) (fun hc => ?_) (fun hc => ?_)
      · rw [if_neg hc] at hf
        refine lv_iconst (v := 0) hx hb dL_texts_415 (by decide) ?_
        have he0 := Option.some.inj hf
        have hw : fy D (va_A ws0 sz) s.heap H locs ([] : va_W) := fy.sub hw [] rfl rfl
        refine W.widen (k := 106) (n := 4400) (Nat.le_of_ble_eq_true rfl) (Nat.le_of_ble_eq_true rfl) ?_
        exact x_zM (w1 := fun _ : Unit => ([] : va_W)) E () hw (Or.inl rfl) he0 dL_texts_416
      · rw [if_pos hc] at hf
        refine lv_iconst (v := 1) hx hb dL_texts_411 (by decide) ?_
        refine lv_goto (tgt := 416) hx hb dL_texts_412 (by decide) ?_
        have he0 := Option.some.inj hf
        have hw : fy D (va_A ws0 sz) s.heap H locs ([] : va_W) := fy.sub hw [] rfl rfl
        refine W.widen (k := 106) (n := 4400) (Nat.le_of_ble_eq_true rfl) (Nat.le_of_ble_eq_true rfl) ?_
        exact x_zM (w1 := fun _ : Unit => ([] : va_W)) E () hw (Or.inr rfl) he0 dL_texts_416
set_option maxRecDepth 100000 in
set_option maxHeartbeats 4000000 in
theorem k_L_texts_288 {p : Program} {l : Launch} {e : Env} {s : State} {m : MethodId} {args : Array Value} {below : List Frame} {meth : Method} {c : Code} {D : va_G} {I J O : ClassId} {ws0 : va_W} {sz : Nat} (E : fx p s m args meth c cL_texts RL 2 (some .boolean) D I J O) (hfl : l.stackTraces = false) (hXZ : XZ (va_A ws0 sz) s) (h0 : Nat) (n t : Nat → Nat) (b0 b1 hh ha : Nat)  (r : Int32) : ∀ fu : Nat, ∀ (v1 : Int32) (x : ClC), f_L_texts_288 fu v1 x = some r → ∀ (ad : Nat → Nat → Nat) (H : Heap) (locs : List Loc), fy D (va_A ws0 sz) s.heap H locs (wCl I h0 n t b0 b1 hh x ++ wHi I O hh ha ad x.2.2.1) → ∀ ls : Array Slot, lv_has ls 2 [(0, .ref h0), (1, .int v1)] → W p l e (rmB 9 204 106 4400) s m args below meth c H locs 103 4382 (MQ below (qMi D sz ws0 r (fun _ : Unit => ([] : va_W))) args s 106 4400 (va_A ws0 sz)) (F0 m 288 ls []) := by
  have hx := E.1
  have hb := E.2.1
  intro fu
  induction fu with
  | zero =>
    intro v1 x hf ad H locs hw ls hl
    rw [f_L_texts_288.eq_1] at hf
    cases hf
  | succ fu ih =>
    intro v1 x hf ad H locs hw ls hl
    rw [f_L_texts_288.eq_2] at hf
    refine lv_iload_n hx hb dL_texts_288 rfl (lv_at hl 1 rfl) ?_
    refine lv_bipush (v := 60) hx hb dL_texts_289 (by decide) ?_
    refine lv_icmp_ge (tgt := 349) hx hb dL_texts_291 (by decide) (fun hc => ?_) (fun hc => ?_)
    · rw [if_pos hc] at hf
      refine lv_aload_n hx hb dL_texts_349 rfl (lv_at hl 0 rfl) ?_
      refine lv_bipush (v := 7) hx hb dL_texts_350 (by decide) ?_
      refine lv_bipush (v := 53) hx hb dL_texts_352 (by decide) ?_
      refine lv_iconst (v := 0) hx hb dL_texts_354 (by decide) ?_
      refine lv_iconst (v := 0) hx hb dL_texts_355 (by decide) ?_
      obtain ⟨z49, h, hf⟩ := bd_s hf
      refine x_miFP0 hw (x_rW E (As := [.ref h0, .int 7, .int 53, .int 0, .int 0]) (rest := []) (mt_L_call l hfl D I J O h0 n t b0 b1 hh ha ad H.size 7 53 0 0 x z49.1 z49.2 h) blW (x_pcVF0 E hXZ hw) ok_L_call q445 rfl hl.1 rfl (Nat.le_of_ble_eq_true rfl) ⟨Nat.le_of_ble_eq_true rfl, Nat.le_of_ble_eq_true rfl⟩ ⟨Nat.le_of_ble_eq_true rfl, Nat.le_of_ble_eq_true rfl⟩ dL_texts_356) (fun _ => rfl) (fun ad50 H locs hw => ?_)
      have hw : fy D (va_A ws0 sz) s.heap H locs (wCl I h0 n t b0 b1 hh z49.2 ++ wHi I O hh ha ad50 z49.2.2.2.1) := hw
      refine lv_bipush (v := (-13)) hx hb dL_texts_359 (by decide) ?_
      refine lv_icmp_ne (tgt := 415) hx hb dL_texts_361 (by decide) (fun hc => ?_) (fun hc => ?_)
      · rw [if_neg hc] at hf
        refine lv_iconst (v := 0) hx hb dL_texts_415 (by decide) ?_
        have he0 := Option.some.inj hf
        have hw : fy D (va_A ws0 sz) s.heap H locs ([] : va_W) := fy.sub hw [] rfl rfl
        refine W.widen (k := 106) (n := 4400) (Nat.le_of_ble_eq_true rfl) (Nat.le_of_ble_eq_true rfl) ?_
        exact x_zM (w1 := fun _ : Unit => ([] : va_W)) E () hw (Or.inl rfl) he0 dL_texts_416
      · rw [if_pos hc] at hf
        refine lv_aload_n hx hb dL_texts_364 rfl (lv_at hl 0 rfl) ?_
        refine lv_bipush (v := 7) hx hb dL_texts_365 (by decide) ?_
        refine lv_bipush (v := 32) hx hb dL_texts_367 (by decide) ?_
        refine lv_iconst (v := 0) hx hb dL_texts_369 (by decide) ?_
        refine lv_iconst (v := 0) hx hb dL_texts_370 (by decide) ?_
        obtain ⟨z51, h, hf⟩ := bd_s hf
        refine x_miFP0 hw (x_rW E (As := [.ref h0, .int 7, .int 32, .int 0, .int 0]) (rest := []) (mt_L_call l hfl D I J O h0 n t b0 b1 hh ha ad50 H.size 7 32 0 0 z49.2 z51.1 z51.2 h) blW (x_pcVF0 E hXZ hw) ok_L_call q445 rfl hl.1 rfl (Nat.le_of_ble_eq_true rfl) ⟨Nat.le_of_ble_eq_true rfl, Nat.le_of_ble_eq_true rfl⟩ ⟨Nat.le_of_ble_eq_true rfl, Nat.le_of_ble_eq_true rfl⟩ dL_texts_371) (fun _ => rfl) (fun ad52 H locs hw => ?_)
        have hw : fy D (va_A ws0 sz) s.heap H locs (wCl I h0 n t b0 b1 hh z51.2 ++ wHi I O hh ha ad52 z51.2.2.2.1) := hw
        refine lv_bipush (v := (-12)) hx hb dL_texts_374 (by decide) ?_
        refine lv_icmp_ne (tgt := 415) hx hb dL_texts_376 (by decide) (fun hc => ?_) (fun hc => ?_)
        · rw [if_neg hc] at hf
          refine lv_iconst (v := 0) hx hb dL_texts_415 (by decide) ?_
          have he0 := Option.some.inj hf
          have hw : fy D (va_A ws0 sz) s.heap H locs ([] : va_W) := fy.sub hw [] rfl rfl
          refine W.widen (k := 106) (n := 4400) (Nat.le_of_ble_eq_true rfl) (Nat.le_of_ble_eq_true rfl) ?_
          exact x_zM (w1 := fun _ : Unit => ([] : va_W)) E () hw (Or.inl rfl) he0 dL_texts_416
        · rw [if_pos hc] at hf
          refine W.widen (k := 105) (n := 4394) (Nat.le_of_ble_eq_true rfl) (Nat.le_of_ble_eq_true rfl) ?_
          exact k_L_texts_379 E hfl hXZ h0 n t b0 b1 hh ha r z51.2 hf ad52 _ _ hw _ (lv_sub hl [0] rfl)
    · rw [if_neg hc] at hf
      refine lv_aload_n hx hb dL_texts_294 rfl (lv_at hl 0 rfl) ?_
      refine lv_iload_n hx hb dL_texts_295 rfl (lv_at hl 1 rfl) ?_
      refine lv_iconst (v := 4) hx hb dL_texts_296 (by decide) ?_
      refine lv_irem hx hb dL_texts_297 (by decide) ?_
      refine lv_if_ne (tgt := 306) hx hb dL_texts_298 (by decide) (fun hc => ?_) (fun hc => ?_)
      · rw [if_neg hc] at hf
        refine lv_iload_n hx hb dL_texts_306 rfl (lv_at hl 1 rfl) ?_
        refine lv_iconst (v := 4) hx hb dL_texts_307 (by decide) ?_
        refine lv_irem hx hb dL_texts_308 (by decide) ?_
        refine lv_iconst (v := 1) hx hb dL_texts_309 (by decide) ?_
        refine lv_icmp_ne (tgt := 318) hx hb dL_texts_310 (by decide) (fun hc => ?_) (fun hc => ?_)
        · rw [if_neg hc] at hf
          refine lv_iload_n hx hb dL_texts_318 rfl (lv_at hl 1 rfl) ?_
          refine lv_iconst (v := 4) hx hb dL_texts_319 (by decide) ?_
          refine lv_irem hx hb dL_texts_320 (by decide) ?_
          refine lv_iconst (v := 2) hx hb dL_texts_321 (by decide) ?_
          refine lv_icmp_ne (tgt := 330) hx hb dL_texts_322 (by decide) (fun hc => ?_) (fun hc => ?_)
          · rw [if_neg hc] at hf
            refine lv_bipush (v := 44) hx hb dL_texts_330 (by decide) ?_
            refine W.widen (k := 103) (n := 4382) (Nat.le_of_ble_eq_true rfl) (Nat.le_of_ble_eq_true rfl) ?_
            exact k_L_texts_332 E hfl hXZ h0 n t b0 b1 hh ha r (f_L_texts_288 fu) ih v1 44 x hf ad _ _ hw _ (lv_sub hl [0, 1] rfl)
          · rw [if_pos hc] at hf
            refine lv_bipush (v := 52) hx hb dL_texts_325 (by decide) ?_
            refine lv_goto (tgt := 332) hx hb dL_texts_327 (by decide) ?_
            refine W.widen (k := 103) (n := 4382) (Nat.le_of_ble_eq_true rfl) (Nat.le_of_ble_eq_true rfl) ?_
            exact k_L_texts_332 E hfl hXZ h0 n t b0 b1 hh ha r (f_L_texts_288 fu) ih v1 52 x hf ad _ _ hw _ (lv_sub hl [0, 1] rfl)
        · rw [if_pos hc] at hf
          refine lv_bipush (v := 42) hx hb dL_texts_313 (by decide) ?_
          refine lv_goto (tgt := 332) hx hb dL_texts_315 (by decide) ?_
          refine W.widen (k := 103) (n := 4382) (Nat.le_of_ble_eq_true rfl) (Nat.le_of_ble_eq_true rfl) ?_
          exact k_L_texts_332 E hfl hXZ h0 n t b0 b1 hh ha r (f_L_texts_288 fu) ih v1 42 x hf ad _ _ hw _ (lv_sub hl [0, 1] rfl)
      · rw [if_pos hc] at hf
        refine lv_bipush (v := 51) hx hb dL_texts_301 (by decide) ?_
        refine lv_goto (tgt := 332) hx hb dL_texts_303 (by decide) ?_
        refine W.widen (k := 103) (n := 4382) (Nat.le_of_ble_eq_true rfl) (Nat.le_of_ble_eq_true rfl) ?_
        exact k_L_texts_332 E hfl hXZ h0 n t b0 b1 hh ha r (f_L_texts_288 fu) ih v1 51 x hf ad _ _ hw _ (lv_sub hl [0, 1] rfl)
set_option maxRecDepth 100000 in
set_option maxHeartbeats 4000000 in
theorem k_L_texts_262 {p : Program} {l : Launch} {e : Env} {s : State} {m : MethodId} {args : Array Value} {below : List Frame} {meth : Method} {c : Code} {D : va_G} {I J O : ClassId} {ws0 : va_W} {sz : Nat} (E : fx p s m args meth c cL_texts RL 2 (some .boolean) D I J O) (hfl : l.stackTraces = false) (hXZ : XZ (va_A ws0 sz) s) (h0 : Nat) (n t : Nat → Nat) (b0 b1 hh ha : Nat)  (r : Int32) : ∀ (x : ClC), f_L_texts_262 x = some r → ∀ (ad : Nat → Nat → Nat) (H : Heap) (locs : List Loc), fy D (va_A ws0 sz) s.heap H locs (wCl I h0 n t b0 b1 hh x ++ wHi I O hh ha ad x.2.2.1) → ∀ ls : Array Slot, lv_has ls 2 [(0, .ref h0)] → W p l e (rmB 9 204 106 4400) s m args below meth c H locs 103 4382 (MQ below (qMi D sz ws0 r (fun _ : Unit => ([] : va_W))) args s 106 4400 (va_A ws0 sz)) (F0 m 262 ls []) := by
  have hx := E.1
  have hb := E.2.1
  intro x hf ad H locs hw ls hl
  unfold f_L_texts_262 at hf
  refine lv_aload_n hx hb dL_texts_262 rfl (lv_at hl 0 rfl) ?_
  obtain ⟨z44, h, hf⟩ := bd_s hf
  refine x_miFP0 hw (x_rV E (As := []) (rest := []) (mt_X5_clearBuffer l D I J O h0 n t b0 b1 hh ha ad H.size x z44.1 z44.2 h) blM (x_recv E hw.1 0 5 rfl rfl rfl) (x_pcMPF0 E hw) ok_X5_clearBuffer q768 rfl hl.1 rfl (Nat.le_of_ble_eq_true rfl) ⟨Nat.le_of_ble_eq_true rfl, Nat.le_of_ble_eq_true rfl⟩ ⟨Nat.le_of_ble_eq_true rfl, Nat.le_of_ble_eq_true rfl⟩ dL_texts_263) (fun _ => rfl) (fun ad45 H locs hw => ?_)
  have hw : fy D (va_A ws0 sz) s.heap H locs (wCl I h0 n t b0 b1 hh z44.2 ++ wHi I O hh ha ad45 z44.2.2.2.1) := hw
  refine lv_if_ne (tgt := 284) hx hb dL_texts_266 (by decide) (fun hc => ?_) (fun hc => ?_)
  · rw [if_neg hc] at hf
    refine lv_iconst (v := 0) hx hb dL_texts_284 (by decide) ?_
    have he0 := Option.some.inj hf
    have hw : fy D (va_A ws0 sz) s.heap H locs ([] : va_W) := fy.sub hw [] rfl rfl
    refine W.widen (k := 106) (n := 4400) (Nat.le_of_ble_eq_true rfl) (Nat.le_of_ble_eq_true rfl) ?_
    exact x_zM (w1 := fun _ : Unit => ([] : va_W)) E () hw (Or.inl rfl) he0 dL_texts_285
  · rw [if_pos hc] at hf
    refine lv_aload_n hx hb dL_texts_269 rfl (lv_at hl 0 rfl) ?_
    obtain ⟨z46, h, hf⟩ := rt_s hf
    refine x_miFP0 hw (x_rV E (As := []) (rest := []) (mt_X5_undo l D I J O h0 n t b0 b1 hh ha ad45 H.size z44.2 z46.1 z46.2 h) blM (x_recv E hw.1 0 5 rfl rfl rfl) (x_pcMPF0 E hw) ok_X5_undo q291 rfl hl.1 rfl (Nat.le_of_ble_eq_true rfl) ⟨Nat.le_of_ble_eq_true rfl, Nat.le_of_ble_eq_true rfl⟩ ⟨Nat.le_of_ble_eq_true rfl, Nat.le_of_ble_eq_true rfl⟩ dL_texts_270) (fun _ => rfl) (fun ad47 H locs hw => ?_)
    have hw : fy D (va_A ws0 sz) s.heap H locs (wCl I h0 n t b0 b1 hh z46.2 ++ wHi I O hh ha ad47 z46.2.2.2.1) := hw
    refine lv_if_ne (tgt := 284) hx hb dL_texts_273 (by decide) (fun hc => ?_) (fun hc => ?_)
    · rw [if_neg hc] at hf
      refine lv_iconst (v := 0) hx hb dL_texts_284 (by decide) ?_
      have he0 := Option.some.inj hf
      have hw : fy D (va_A ws0 sz) s.heap H locs ([] : va_W) := fy.sub hw [] rfl rfl
      refine W.widen (k := 106) (n := 4400) (Nat.le_of_ble_eq_true rfl) (Nat.le_of_ble_eq_true rfl) ?_
      exact x_zM (w1 := fun _ : Unit => ([] : va_W)) E () hw (Or.inl rfl) he0 dL_texts_285
    · rw [if_pos hc] at hf
      refine lv_aload_n hx hb dL_texts_276 rfl (lv_at hl 0 rfl) ?_
      refine lv_iconst (v := 0) hx hb dL_texts_277 (by decide) ?_
      obtain ⟨z48, h, hf⟩ := rt_s hf
      refine x_ci (x_rV E (As := [.int 0]) (rest := []) (mt_X5_count l D I J O h0 n t b0 b1 hh ha ad47 0 z46.2 z48 h) blR (x_recv E hw.1 0 5 rfl rfl rfl) (x_pcR E hw.1) ok_X5_count q399 rfl hl.1 rfl (Nat.le_of_ble_eq_true rfl) ⟨Nat.le_of_ble_eq_true rfl, Nat.le_of_ble_eq_true rfl⟩ ⟨Nat.le_of_ble_eq_true rfl, Nat.le_of_ble_eq_true rfl⟩ dL_texts_278) ?_
      refine lv_if_eq (tgt := 286) hx hb dL_texts_281 (by decide) (fun hc => ?_) (fun hc => ?_)
      · rw [if_pos hc] at hf
        refine lv_iconst (v := 0) hx hb dL_texts_286 (by decide) ?_
        refine lv_istore_n (lv' := [(1, .int 0), (0, .ref h0)]) hx hb dL_texts_287 rfl hl (by decide) rfl (fun ls hl => ?_)
        refine W.widen (k := 103) (n := 4382) (Nat.le_of_ble_eq_true rfl) (Nat.le_of_ble_eq_true rfl) ?_
        exact k_L_texts_288 E hfl hXZ h0 n t b0 b1 hh ha r FU 0 z46.2 hf ad47 _ _ hw _ (lv_sub hl [1, 0] rfl)
      · rw [if_neg hc] at hf
        refine lv_iconst (v := 0) hx hb dL_texts_284 (by decide) ?_
        have he0 := Option.some.inj hf
        have hw : fy D (va_A ws0 sz) s.heap H locs ([] : va_W) := fy.sub hw [] rfl rfl
        refine W.widen (k := 106) (n := 4400) (Nat.le_of_ble_eq_true rfl) (Nat.le_of_ble_eq_true rfl) ?_
        exact x_zM (w1 := fun _ : Unit => ([] : va_W)) E () hw (Or.inl rfl) he0 dL_texts_285
set_option maxRecDepth 100000 in
set_option maxHeartbeats 4000000 in
theorem k_L_texts_196 {p : Program} {l : Launch} {e : Env} {s : State} {m : MethodId} {args : Array Value} {below : List Frame} {meth : Method} {c : Code} {D : va_G} {I J O : ClassId} {ws0 : va_W} {sz : Nat} (E : fx p s m args meth c cL_texts RL 2 (some .boolean) D I J O) (hfl : l.stackTraces = false) (hXZ : XZ (va_A ws0 sz) s) (h0 : Nat) (n t : Nat → Nat) (b0 b1 hh ha : Nat)  (r : Int32) : ∀ (x : ClC), f_L_texts_196 x = some r → ∀ (ad : Nat → Nat → Nat) (H : Heap) (locs : List Loc), fy D (va_A ws0 sz) s.heap H locs (wCl I h0 n t b0 b1 hh x ++ wHi I O hh ha ad x.2.2.1) → ∀ ls : Array Slot, lv_has ls 2 [(0, .ref h0)] → W p l e (rmB 9 204 106 4400) s m args below meth c H locs 102 4376 (MQ below (qMi D sz ws0 r (fun _ : Unit => ([] : va_W))) args s 106 4400 (va_A ws0 sz)) (F0 m 196 ls []) := by
  have hx := E.1
  have hb := E.2.1
  intro x hf ad H locs hw ls hl
  unfold f_L_texts_196 at hf
  refine lv_aload_n hx hb dL_texts_196 rfl (lv_at hl 0 rfl) ?_
  refine lv_ldc2 (v := 891957548) hx hb E.2.2.2.1 (E.2.2.2.2.1 _ q781) dL_texts_197 ?_
  refine lv_iconst (v := 4) hx hb dL_texts_200 (by decide) ?_
  obtain ⟨z34, h, hf⟩ := bd_s hf
  refine x_miFP0 hw (x_rS E (As := [.ref h0, .long 891957548, .int 4]) (rest := []) (mt_L_isError l hfl D I J O h0 n t b0 b1 hh ha ad H.size 891957548 4 x z34.1 z34.2 h) blZ (x_pcZF0 E hXZ hw) ok_L_isError q765 rfl hl.1 rfl (Nat.le_of_ble_eq_true rfl) ⟨Nat.le_of_ble_eq_true rfl, Nat.le_of_ble_eq_true rfl⟩ ⟨Nat.le_of_ble_eq_true rfl, Nat.le_of_ble_eq_true rfl⟩ dL_texts_201) (fun _ => rfl) (fun ad35 H locs hw => ?_)
  have hw : fy D (va_A ws0 sz) s.heap H locs (wCl I h0 n t b0 b1 hh z34.2 ++ wHi I O hh ha ad35 z34.2.2.2.1) := hw
  refine lv_if_eq (tgt := 284) hx hb dL_texts_204 (by decide) (fun hc => ?_) (fun hc => ?_)
  · rw [if_pos hc] at hf
    refine lv_iconst (v := 0) hx hb dL_texts_284 (by decide) ?_
    have he0 := Option.some.inj hf
    have hw : fy D (va_A ws0 sz) s.heap H locs ([] : va_W) := fy.sub hw [] rfl rfl
    refine W.widen (k := 106) (n := 4400) (Nat.le_of_ble_eq_true rfl) (Nat.le_of_ble_eq_true rfl) ?_
    exact x_zM (w1 := fun _ : Unit => ([] : va_W)) E () hw (Or.inl rfl) he0 dL_texts_285
  · rw [if_neg hc] at hf
    refine lv_aload_n hx hb dL_texts_207 rfl (lv_at hl 0 rfl) ?_
    refine lv_bipush (v := 8) hx hb dL_texts_208 (by decide) ?_
    refine lv_iconst (v := 0) hx hb dL_texts_210 (by decide) ?_
    refine lv_iconst (v := 0) hx hb dL_texts_211 (by decide) ?_
    refine lv_iconst (v := 0) hx hb dL_texts_212 (by decide) ?_
    obtain ⟨z36, h, hf⟩ := bd_s hf
    refine x_miFP0 hw (x_rW E (As := [.ref h0, .int 8, .int 0, .int 0, .int 0]) (rest := []) (mt_L_call l hfl D I J O h0 n t b0 b1 hh ha ad35 H.size 8 0 0 0 z34.2 z36.1 z36.2 h) blW (x_pcVF0 E hXZ hw) ok_L_call q445 rfl hl.1 rfl (Nat.le_of_ble_eq_true rfl) ⟨Nat.le_of_ble_eq_true rfl, Nat.le_of_ble_eq_true rfl⟩ ⟨Nat.le_of_ble_eq_true rfl, Nat.le_of_ble_eq_true rfl⟩ dL_texts_213) (fun _ => rfl) (fun ad37 H locs hw => ?_)
    have hw : fy D (va_A ws0 sz) s.heap H locs (wCl I h0 n t b0 b1 hh z36.2 ++ wHi I O hh ha ad37 z36.2.2.2.1) := hw
    refine lv_bipush (v := (-12)) hx hb dL_texts_216 (by decide) ?_
    refine lv_icmp_ne (tgt := 284) hx hb dL_texts_218 (by decide) (fun hc => ?_) (fun hc => ?_)
    · rw [if_neg hc] at hf
      refine lv_iconst (v := 0) hx hb dL_texts_284 (by decide) ?_
      have he0 := Option.some.inj hf
      have hw : fy D (va_A ws0 sz) s.heap H locs ([] : va_W) := fy.sub hw [] rfl rfl
      refine W.widen (k := 106) (n := 4400) (Nat.le_of_ble_eq_true rfl) (Nat.le_of_ble_eq_true rfl) ?_
      exact x_zM (w1 := fun _ : Unit => ([] : va_W)) E () hw (Or.inl rfl) he0 dL_texts_285
    · rw [if_pos hc] at hf
      refine lv_aload_n hx hb dL_texts_221 rfl (lv_at hl 0 rfl) ?_
      refine lv_ldc2 (v := 3975046938188327474) hx hb E.2.2.2.1 (E.2.2.2.2.1 _ q785) dL_texts_222 ?_
      refine lv_bipush (v := 8) hx hb dL_texts_225 (by decide) ?_
      obtain ⟨z38, h, hf⟩ := bd_s hf
      refine x_miFP0 hw (x_rS E (As := [.ref h0, .long 3975046938188327474, .int 8]) (rest := []) (mt_L_isError l hfl D I J O h0 n t b0 b1 hh ha ad37 H.size 3975046938188327474 8 z36.2 z38.1 z38.2 h) blZ (x_pcZF0 E hXZ hw) ok_L_isError q765 rfl hl.1 rfl (Nat.le_of_ble_eq_true rfl) ⟨Nat.le_of_ble_eq_true rfl, Nat.le_of_ble_eq_true rfl⟩ ⟨Nat.le_of_ble_eq_true rfl, Nat.le_of_ble_eq_true rfl⟩ dL_texts_227) (fun _ => rfl) (fun ad39 H locs hw => ?_)
      have hw : fy D (va_A ws0 sz) s.heap H locs (wCl I h0 n t b0 b1 hh z38.2 ++ wHi I O hh ha ad39 z38.2.2.2.1) := hw
      refine lv_if_eq (tgt := 284) hx hb dL_texts_230 (by decide) (fun hc => ?_) (fun hc => ?_)
      · rw [if_pos hc] at hf
        refine lv_iconst (v := 0) hx hb dL_texts_284 (by decide) ?_
        have he0 := Option.some.inj hf
        have hw : fy D (va_A ws0 sz) s.heap H locs ([] : va_W) := fy.sub hw [] rfl rfl
        refine W.widen (k := 106) (n := 4400) (Nat.le_of_ble_eq_true rfl) (Nat.le_of_ble_eq_true rfl) ?_
        exact x_zM (w1 := fun _ : Unit => ([] : va_W)) E () hw (Or.inl rfl) he0 dL_texts_285
      · rw [if_neg hc] at hf
        refine lv_aload_n hx hb dL_texts_233 rfl (lv_at hl 0 rfl) ?_
        obtain ⟨z40, h, hf⟩ := rt_s hf
        refine x_miFP0 hw (x_rV E (As := []) (rest := []) (mt_X5_putAll l D I J O h0 n t b0 b1 hh ha ad39 H.size z38.2 z40.1 z40.2 h) blM (x_recv E hw.1 0 5 rfl rfl rfl) (x_pcMPF0 E hw) ok_X5_putAll q577 rfl hl.1 rfl (Nat.le_of_ble_eq_true rfl) ⟨Nat.le_of_ble_eq_true rfl, Nat.le_of_ble_eq_true rfl⟩ ⟨Nat.le_of_ble_eq_true rfl, Nat.le_of_ble_eq_true rfl⟩ dL_texts_234) (fun _ => rfl) (fun ad41 H locs hw => ?_)
        have hw : fy D (va_A ws0 sz) s.heap H locs (wCl I h0 n t b0 b1 hh z40.2 ++ wHi I O hh ha ad41 z40.2.2.2.1) := hw
        refine lv_iconst (v := 2) hx hb dL_texts_237 (by decide) ?_
        refine lv_icmp_ne (tgt := 284) hx hb dL_texts_238 (by decide) (fun hc => ?_) (fun hc => ?_)
        · rw [if_neg hc] at hf
          refine lv_iconst (v := 0) hx hb dL_texts_284 (by decide) ?_
          have he0 := Option.some.inj hf
          have hw : fy D (va_A ws0 sz) s.heap H locs ([] : va_W) := fy.sub hw [] rfl rfl
          refine W.widen (k := 106) (n := 4400) (Nat.le_of_ble_eq_true rfl) (Nat.le_of_ble_eq_true rfl) ?_
          exact x_zM (w1 := fun _ : Unit => ([] : va_W)) E () hw (Or.inl rfl) he0 dL_texts_285
        · rw [if_pos hc] at hf
          refine lv_aload_n hx hb dL_texts_241 rfl (lv_at hl 0 rfl) ?_
          refine lv_iconst (v := 1) hx hb dL_texts_242 (by decide) ?_
          obtain ⟨z42, h, hf⟩ := rt_s hf
          refine x_ci (x_rV E (As := [.int 1]) (rest := []) (mt_X5_at l D I J O h0 n t b0 b1 hh ha ad41 1 z40.2 z42 h) blR (x_recv E hw.1 0 5 rfl rfl rfl) (x_pcR E hw.1) ok_X5_at q371 rfl hl.1 rfl (Nat.le_of_ble_eq_true rfl) ⟨Nat.le_of_ble_eq_true rfl, Nat.le_of_ble_eq_true rfl⟩ ⟨Nat.le_of_ble_eq_true rfl, Nat.le_of_ble_eq_true rfl⟩ dL_texts_243) ?_
          refine lv_sipush (v := 4000) hx hb dL_texts_246 (by decide) ?_
          refine lv_icmp_ne (tgt := 284) hx hb dL_texts_249 (by decide) (fun hc => ?_) (fun hc => ?_)
          · rw [if_neg hc] at hf
            refine lv_iconst (v := 0) hx hb dL_texts_284 (by decide) ?_
            have he0 := Option.some.inj hf
            have hw : fy D (va_A ws0 sz) s.heap H locs ([] : va_W) := fy.sub hw [] rfl rfl
            refine W.widen (k := 106) (n := 4400) (Nat.le_of_ble_eq_true rfl) (Nat.le_of_ble_eq_true rfl) ?_
            exact x_zM (w1 := fun _ : Unit => ([] : va_W)) E () hw (Or.inl rfl) he0 dL_texts_285
          · rw [if_pos hc] at hf
            refine lv_aload_n hx hb dL_texts_252 rfl (lv_at hl 0 rfl) ?_
            refine lv_iconst (v := 0) hx hb dL_texts_253 (by decide) ?_
            refine lv_iconst (v := 2) hx hb dL_texts_254 (by decide) ?_
            obtain ⟨z43, h, hf⟩ := rt_s hf
            refine x_ci (x_rV E (As := [.int 0, .int 2]) (rest := []) (mt_X5_thing l D I J O h0 n t b0 b1 hh ha ad41 0 2 z40.2 z43 h) blR (x_recv E hw.1 0 5 rfl rfl rfl) (x_pcR E hw.1) ok_X5_thing q622 rfl hl.1 rfl (Nat.le_of_ble_eq_true rfl) ⟨Nat.le_of_ble_eq_true rfl, Nat.le_of_ble_eq_true rfl⟩ ⟨Nat.le_of_ble_eq_true rfl, Nat.le_of_ble_eq_true rfl⟩ dL_texts_255) ?_
            refine lv_iconst (v := 1) hx hb dL_texts_258 (by decide) ?_
            refine lv_icmp_ne (tgt := 284) hx hb dL_texts_259 (by decide) (fun hc => ?_) (fun hc => ?_)
            · rw [if_neg hc] at hf
              refine lv_iconst (v := 0) hx hb dL_texts_284 (by decide) ?_
              have he0 := Option.some.inj hf
              have hw : fy D (va_A ws0 sz) s.heap H locs ([] : va_W) := fy.sub hw [] rfl rfl
              refine W.widen (k := 106) (n := 4400) (Nat.le_of_ble_eq_true rfl) (Nat.le_of_ble_eq_true rfl) ?_
              exact x_zM (w1 := fun _ : Unit => ([] : va_W)) E () hw (Or.inl rfl) he0 dL_texts_285
            · rw [if_pos hc] at hf
              refine W.widen (k := 103) (n := 4382) (Nat.le_of_ble_eq_true rfl) (Nat.le_of_ble_eq_true rfl) ?_
              exact k_L_texts_262 E hfl hXZ h0 n t b0 b1 hh ha r z40.2 hf ad41 _ _ hw _ (lv_sub hl [0] rfl)
set_option maxRecDepth 100000 in
set_option maxHeartbeats 4000000 in
theorem k_L_texts_126 {p : Program} {l : Launch} {e : Env} {s : State} {m : MethodId} {args : Array Value} {below : List Frame} {meth : Method} {c : Code} {D : va_G} {I J O : ClassId} {ws0 : va_W} {sz : Nat} (E : fx p s m args meth c cL_texts RL 2 (some .boolean) D I J O) (hfl : l.stackTraces = false) (hXZ : XZ (va_A ws0 sz) s) (h0 : Nat) (n t : Nat → Nat) (b0 b1 hh ha : Nat)  (r : Int32) : ∀ (x : ClC), f_L_texts_126 x = some r → ∀ (ad : Nat → Nat → Nat) (H : Heap) (locs : List Loc), fy D (va_A ws0 sz) s.heap H locs (wCl I h0 n t b0 b1 hh x ++ wHi I O hh ha ad x.2.2.1) → ∀ ls : Array Slot, lv_has ls 2 [(0, .ref h0)] → W p l e (rmB 9 204 106 4400) s m args below meth c H locs 101 4370 (MQ below (qMi D sz ws0 r (fun _ : Unit => ([] : va_W))) args s 106 4400 (va_A ws0 sz)) (F0 m 126 ls []) := by
  have hx := E.1
  have hb := E.2.1
  intro x hf ad H locs hw ls hl
  unfold f_L_texts_126 at hf
  refine lv_aload_n hx hb dL_texts_126 rfl (lv_at hl 0 rfl) ?_
  refine lv_ldc2 (v := 3470640481387555378) hx hb E.2.2.2.1 (E.2.2.2.2.1 _ q782) dL_texts_127 ?_
  refine lv_bipush (v := 8) hx hb dL_texts_130 (by decide) ?_
  obtain ⟨z23, h, hf⟩ := bd_s hf
  refine x_miFP0 hw (x_rS E (As := [.ref h0, .long 3470640481387555378, .int 8]) (rest := []) (mt_L_isError l hfl D I J O h0 n t b0 b1 hh ha ad H.size 3470640481387555378 8 x z23.1 z23.2 h) blZ (x_pcZF0 E hXZ hw) ok_L_isError q765 rfl hl.1 rfl (Nat.le_of_ble_eq_true rfl) ⟨Nat.le_of_ble_eq_true rfl, Nat.le_of_ble_eq_true rfl⟩ ⟨Nat.le_of_ble_eq_true rfl, Nat.le_of_ble_eq_true rfl⟩ dL_texts_132) (fun _ => rfl) (fun ad24 H locs hw => ?_)
  have hw : fy D (va_A ws0 sz) s.heap H locs (wCl I h0 n t b0 b1 hh z23.2 ++ wHi I O hh ha ad24 z23.2.2.2.1) := hw
  refine lv_if_eq (tgt := 160) hx hb dL_texts_135 (by decide) (fun hc => ?_) (fun hc => ?_)
  · rw [if_pos hc] at hf
    refine lv_iconst (v := 0) hx hb dL_texts_160 (by decide) ?_
    have he0 := Option.some.inj hf
    have hw : fy D (va_A ws0 sz) s.heap H locs ([] : va_W) := fy.sub hw [] rfl rfl
    refine W.widen (k := 106) (n := 4400) (Nat.le_of_ble_eq_true rfl) (Nat.le_of_ble_eq_true rfl) ?_
    exact x_zM (w1 := fun _ : Unit => ([] : va_W)) E () hw (Or.inl rfl) he0 dL_texts_161
  · rw [if_neg hc] at hf
    refine lv_aload_n hx hb dL_texts_138 rfl (lv_at hl 0 rfl) ?_
    refine lv_ldc2 (v := 97) hx hb E.2.2.2.1 (E.2.2.2.2.1 _ q783) dL_texts_139 ?_
    refine lv_iconst (v := 0) hx hb dL_texts_142 (by decide) ?_
    obtain ⟨z25, h, hf⟩ := bd_s hf
    refine x_miFP0 hw (x_rS E (As := [.ref h0, .long 97, .int 0]) (rest := []) (mt_L_isError l hfl D I J O h0 n t b0 b1 hh ha ad24 H.size 97 0 z23.2 z25.1 z25.2 h) blZ (x_pcZF0 E hXZ hw) ok_L_isError q765 rfl hl.1 rfl (Nat.le_of_ble_eq_true rfl) ⟨Nat.le_of_ble_eq_true rfl, Nat.le_of_ble_eq_true rfl⟩ ⟨Nat.le_of_ble_eq_true rfl, Nat.le_of_ble_eq_true rfl⟩ dL_texts_143) (fun _ => rfl) (fun ad26 H locs hw => ?_)
    have hw : fy D (va_A ws0 sz) s.heap H locs (wCl I h0 n t b0 b1 hh z25.2 ++ wHi I O hh ha ad26 z25.2.2.2.1) := hw
    refine lv_if_eq (tgt := 160) hx hb dL_texts_146 (by decide) (fun hc => ?_) (fun hc => ?_)
    · rw [if_pos hc] at hf
      refine lv_iconst (v := 0) hx hb dL_texts_160 (by decide) ?_
      have he0 := Option.some.inj hf
      have hw : fy D (va_A ws0 sz) s.heap H locs ([] : va_W) := fy.sub hw [] rfl rfl
      refine W.widen (k := 106) (n := 4400) (Nat.le_of_ble_eq_true rfl) (Nat.le_of_ble_eq_true rfl) ?_
      exact x_zM (w1 := fun _ : Unit => ([] : va_W)) E () hw (Or.inl rfl) he0 dL_texts_161
    · rw [if_neg hc] at hf
      refine lv_aload_n hx hb dL_texts_149 rfl (lv_at hl 0 rfl) ?_
      refine lv_ldc2 (v := 925512242) hx hb E.2.2.2.1 (E.2.2.2.2.1 _ q784) dL_texts_150 ?_
      refine lv_iconst (v := 3) hx hb dL_texts_153 (by decide) ?_
      obtain ⟨z27, h, hf⟩ := bd_s hf
      refine x_miFP0 hw (x_rS E (As := [.ref h0, .long 925512242, .int 3]) (rest := []) (mt_L_isError l hfl D I J O h0 n t b0 b1 hh ha ad26 H.size 925512242 3 z25.2 z27.1 z27.2 h) blZ (x_pcZF0 E hXZ hw) ok_L_isError q765 rfl hl.1 rfl (Nat.le_of_ble_eq_true rfl) ⟨Nat.le_of_ble_eq_true rfl, Nat.le_of_ble_eq_true rfl⟩ ⟨Nat.le_of_ble_eq_true rfl, Nat.le_of_ble_eq_true rfl⟩ dL_texts_154) (fun _ => rfl) (fun ad28 H locs hw => ?_)
      have hw : fy D (va_A ws0 sz) s.heap H locs (wCl I h0 n t b0 b1 hh z27.2 ++ wHi I O hh ha ad28 z27.2.2.2.1) := hw
      refine lv_if_ne (tgt := 162) hx hb dL_texts_157 (by decide) (fun hc => ?_) (fun hc => ?_)
      · rw [if_neg hc] at hf
        refine lv_aload_n hx hb dL_texts_162 rfl (lv_at hl 0 rfl) ?_
        refine lv_ldc2 (v := 13610) hx hb E.2.2.2.1 (E.2.2.2.2.1 _ q780) dL_texts_163 ?_
        refine lv_iconst (v := 2) hx hb dL_texts_166 (by decide) ?_
        obtain ⟨z29, h, hf⟩ := bd_s hf
        refine x_miFP0 hw (x_rS E (As := [.ref h0, .long 13610, .int 2]) (rest := []) (mt_L_isError l hfl D I J O h0 n t b0 b1 hh ha ad28 H.size 13610 2 z27.2 z29.1 z29.2 h) blZ (x_pcZF0 E hXZ hw) ok_L_isError q765 rfl hl.1 rfl (Nat.le_of_ble_eq_true rfl) ⟨Nat.le_of_ble_eq_true rfl, Nat.le_of_ble_eq_true rfl⟩ ⟨Nat.le_of_ble_eq_true rfl, Nat.le_of_ble_eq_true rfl⟩ dL_texts_167) (fun _ => rfl) (fun ad30 H locs hw => ?_)
        have hw : fy D (va_A ws0 sz) s.heap H locs (wCl I h0 n t b0 b1 hh z29.2 ++ wHi I O hh ha ad30 z29.2.2.2.1) := hw
        refine lv_if_eq (tgt := 284) hx hb dL_texts_170 (by decide) (fun hc => ?_) (fun hc => ?_)
        · rw [if_pos hc] at hf
          refine lv_iconst (v := 0) hx hb dL_texts_284 (by decide) ?_
          have he0 := Option.some.inj hf
          have hw : fy D (va_A ws0 sz) s.heap H locs ([] : va_W) := fy.sub hw [] rfl rfl
          refine W.widen (k := 106) (n := 4400) (Nat.le_of_ble_eq_true rfl) (Nat.le_of_ble_eq_true rfl) ?_
          exact x_zM (w1 := fun _ : Unit => ([] : va_W)) E () hw (Or.inl rfl) he0 dL_texts_285
        · rw [if_neg hc] at hf
          refine lv_aload_n hx hb dL_texts_173 rfl (lv_at hl 0 rfl) ?_
          refine lv_bipush (v := 8) hx hb dL_texts_174 (by decide) ?_
          refine lv_iconst (v := 0) hx hb dL_texts_176 (by decide) ?_
          refine lv_iconst (v := 0) hx hb dL_texts_177 (by decide) ?_
          refine lv_iconst (v := 0) hx hb dL_texts_178 (by decide) ?_
          obtain ⟨z31, h, hf⟩ := bd_s hf
          refine x_miFP0 hw (x_rW E (As := [.ref h0, .int 8, .int 0, .int 0, .int 0]) (rest := []) (mt_L_call l hfl D I J O h0 n t b0 b1 hh ha ad30 H.size 8 0 0 0 z29.2 z31.1 z31.2 h) blW (x_pcVF0 E hXZ hw) ok_L_call q445 rfl hl.1 rfl (Nat.le_of_ble_eq_true rfl) ⟨Nat.le_of_ble_eq_true rfl, Nat.le_of_ble_eq_true rfl⟩ ⟨Nat.le_of_ble_eq_true rfl, Nat.le_of_ble_eq_true rfl⟩ dL_texts_179) (fun _ => rfl) (fun ad32 H locs hw => ?_)
          have hw : fy D (va_A ws0 sz) s.heap H locs (wCl I h0 n t b0 b1 hh z31.2 ++ wHi I O hh ha ad32 z31.2.2.2.1) := hw
          refine lv_bipush (v := (-12)) hx hb dL_texts_182 (by decide) ?_
          refine lv_icmp_ne (tgt := 284) hx hb dL_texts_184 (by decide) (fun hc => ?_) (fun hc => ?_)
          · rw [if_neg hc] at hf
            refine lv_iconst (v := 0) hx hb dL_texts_284 (by decide) ?_
            have he0 := Option.some.inj hf
            have hw : fy D (va_A ws0 sz) s.heap H locs ([] : va_W) := fy.sub hw [] rfl rfl
            refine W.widen (k := 106) (n := 4400) (Nat.le_of_ble_eq_true rfl) (Nat.le_of_ble_eq_true rfl) ?_
            exact x_zM (w1 := fun _ : Unit => ([] : va_W)) E () hw (Or.inl rfl) he0 dL_texts_285
          · rw [if_pos hc] at hf
            refine lv_aload_n hx hb dL_texts_187 rfl (lv_at hl 0 rfl) ?_
            refine lv_bipush (v := 9) hx hb dL_texts_188 (by decide) ?_
            obtain ⟨z33, h, hf⟩ := rt_s hf
            refine x_ci (x_rV E (As := [.int 9]) (rest := []) (mt_X5_count l D I J O h0 n t b0 b1 hh ha ad32 9 z31.2 z33 h) blR (x_recv E hw.1 0 5 rfl rfl rfl) (x_pcR E hw.1) ok_X5_count q399 rfl hl.1 rfl (Nat.le_of_ble_eq_true rfl) ⟨Nat.le_of_ble_eq_true rfl, Nat.le_of_ble_eq_true rfl⟩ ⟨Nat.le_of_ble_eq_true rfl, Nat.le_of_ble_eq_true rfl⟩ dL_texts_190) ?_
            refine lv_if_ne (tgt := 284) hx hb dL_texts_193 (by decide) (fun hc => ?_) (fun hc => ?_)
            · rw [if_neg hc] at hf
              refine lv_iconst (v := 0) hx hb dL_texts_284 (by decide) ?_
              have he0 := Option.some.inj hf
              have hw : fy D (va_A ws0 sz) s.heap H locs ([] : va_W) := fy.sub hw [] rfl rfl
              refine W.widen (k := 106) (n := 4400) (Nat.le_of_ble_eq_true rfl) (Nat.le_of_ble_eq_true rfl) ?_
              exact x_zM (w1 := fun _ : Unit => ([] : va_W)) E () hw (Or.inl rfl) he0 dL_texts_285
            · rw [if_pos hc] at hf
              refine W.widen (k := 102) (n := 4376) (Nat.le_of_ble_eq_true rfl) (Nat.le_of_ble_eq_true rfl) ?_
              exact k_L_texts_196 E hfl hXZ h0 n t b0 b1 hh ha r z31.2 hf ad32 _ _ hw _ (lv_sub hl [0] rfl)
      · rw [if_pos hc] at hf
        refine lv_iconst (v := 0) hx hb dL_texts_160 (by decide) ?_
        have he0 := Option.some.inj hf
        have hw : fy D (va_A ws0 sz) s.heap H locs ([] : va_W) := fy.sub hw [] rfl rfl
        refine W.widen (k := 106) (n := 4400) (Nat.le_of_ble_eq_true rfl) (Nat.le_of_ble_eq_true rfl) ?_
        exact x_zM (w1 := fun _ : Unit => ([] : va_W)) E () hw (Or.inl rfl) he0 dL_texts_161
set_option maxRecDepth 100000 in
set_option maxHeartbeats 4000000 in
theorem k_L_texts_59 {p : Program} {l : Launch} {e : Env} {s : State} {m : MethodId} {args : Array Value} {below : List Frame} {meth : Method} {c : Code} {D : va_G} {I J O : ClassId} {ws0 : va_W} {sz : Nat} (E : fx p s m args meth c cL_texts RL 2 (some .boolean) D I J O) (hfl : l.stackTraces = false) (hXZ : XZ (va_A ws0 sz) s) (h0 : Nat) (n t : Nat → Nat) (b0 b1 hh ha : Nat)  (r : Int32) : ∀ (x : ClC), f_L_texts_59 x = some r → ∀ (ad : Nat → Nat → Nat) (H : Heap) (locs : List Loc), fy D (va_A ws0 sz) s.heap H locs (wCl I h0 n t b0 b1 hh x ++ wHi I O hh ha ad x.2.2.1) → ∀ ls : Array Slot, lv_has ls 2 [(0, .ref h0)] → W p l e (rmB 9 204 106 4400) s m args below meth c H locs 101 4370 (MQ below (qMi D sz ws0 r (fun _ : Unit => ([] : va_W))) args s 106 4400 (va_A ws0 sz)) (F0 m 59 ls []) := by
  have hx := E.1
  have hb := E.2.1
  intro x hf ad H locs hw ls hl
  unfold f_L_texts_59 at hf
  refine lv_aload_n hx hb dL_texts_59 rfl (lv_at hl 0 rfl) ?_
  refine lv_ldc2 (v := 228341129515) hx hb E.2.2.2.1 (E.2.2.2.2.1 _ q776) dL_texts_60 ?_
  refine lv_iconst (v := 4) hx hb dL_texts_63 (by decide) ?_
  obtain ⟨z11, h, hf⟩ := bd_s hf
  refine x_miFP0 hw (x_rS E (As := [.ref h0, .long 228341129515, .int 4]) (rest := []) (mt_L_isError l hfl D I J O h0 n t b0 b1 hh ha ad H.size 228341129515 4 x z11.1 z11.2 h) blZ (x_pcZF0 E hXZ hw) ok_L_isError q765 rfl hl.1 rfl (Nat.le_of_ble_eq_true rfl) ⟨Nat.le_of_ble_eq_true rfl, Nat.le_of_ble_eq_true rfl⟩ ⟨Nat.le_of_ble_eq_true rfl, Nat.le_of_ble_eq_true rfl⟩ dL_texts_64) (fun _ => rfl) (fun ad12 H locs hw => ?_)
  have hw : fy D (va_A ws0 sz) s.heap H locs (wCl I h0 n t b0 b1 hh z11.2 ++ wHi I O hh ha ad12 z11.2.2.2.1) := hw
  refine lv_if_eq (tgt := 160) hx hb dL_texts_67 (by decide) (fun hc => ?_) (fun hc => ?_)
  · rw [if_pos hc] at hf
    refine lv_iconst (v := 0) hx hb dL_texts_160 (by decide) ?_
    have he0 := Option.some.inj hf
    have hw : fy D (va_A ws0 sz) s.heap H locs ([] : va_W) := fy.sub hw [] rfl rfl
    refine W.widen (k := 106) (n := 4400) (Nat.le_of_ble_eq_true rfl) (Nat.le_of_ble_eq_true rfl) ?_
    exact x_zM (w1 := fun _ : Unit => ([] : va_W)) E () hw (Or.inl rfl) he0 dL_texts_161
  · rw [if_neg hc] at hf
    refine lv_aload_n hx hb dL_texts_70 rfl (lv_at hl 0 rfl) ?_
    refine lv_ldc2 (v := 13601) hx hb E.2.2.2.1 (E.2.2.2.2.1 _ q777) dL_texts_71 ?_
    refine lv_iconst (v := 1) hx hb dL_texts_74 (by decide) ?_
    obtain ⟨z13, h, hf⟩ := bd_s hf
    refine x_miFP0 hw (x_rS E (As := [.ref h0, .long 13601, .int 1]) (rest := []) (mt_L_isError l hfl D I J O h0 n t b0 b1 hh ha ad12 H.size 13601 1 z11.2 z13.1 z13.2 h) blZ (x_pcZF0 E hXZ hw) ok_L_isError q765 rfl hl.1 rfl (Nat.le_of_ble_eq_true rfl) ⟨Nat.le_of_ble_eq_true rfl, Nat.le_of_ble_eq_true rfl⟩ ⟨Nat.le_of_ble_eq_true rfl, Nat.le_of_ble_eq_true rfl⟩ dL_texts_75) (fun _ => rfl) (fun ad14 H locs hw => ?_)
    have hw : fy D (va_A ws0 sz) s.heap H locs (wCl I h0 n t b0 b1 hh z13.2 ++ wHi I O hh ha ad14 z13.2.2.2.1) := hw
    refine lv_if_eq (tgt := 160) hx hb dL_texts_78 (by decide) (fun hc => ?_) (fun hc => ?_)
    · rw [if_pos hc] at hf
      refine lv_iconst (v := 0) hx hb dL_texts_160 (by decide) ?_
      have he0 := Option.some.inj hf
      have hw : fy D (va_A ws0 sz) s.heap H locs ([] : va_W) := fy.sub hw [] rfl rfl
      refine W.widen (k := 106) (n := 4400) (Nat.le_of_ble_eq_true rfl) (Nat.le_of_ble_eq_true rfl) ?_
      exact x_zM (w1 := fun _ : Unit => ([] : va_W)) E () hw (Or.inl rfl) he0 dL_texts_161
    · rw [if_neg hc] at hf
      refine lv_aload_n hx hb dL_texts_81 rfl (lv_at hl 0 rfl) ?_
      refine lv_ldc2 (v := 228341132332) hx hb E.2.2.2.1 (E.2.2.2.2.1 _ q778) dL_texts_82 ?_
      refine lv_iconst (v := 4) hx hb dL_texts_85 (by decide) ?_
      obtain ⟨z15, h, hf⟩ := bd_s hf
      refine x_miFP0 hw (x_rS E (As := [.ref h0, .long 228341132332, .int 4]) (rest := []) (mt_L_isError l hfl D I J O h0 n t b0 b1 hh ha ad14 H.size 228341132332 4 z13.2 z15.1 z15.2 h) blZ (x_pcZF0 E hXZ hw) ok_L_isError q765 rfl hl.1 rfl (Nat.le_of_ble_eq_true rfl) ⟨Nat.le_of_ble_eq_true rfl, Nat.le_of_ble_eq_true rfl⟩ ⟨Nat.le_of_ble_eq_true rfl, Nat.le_of_ble_eq_true rfl⟩ dL_texts_86) (fun _ => rfl) (fun ad16 H locs hw => ?_)
      have hw : fy D (va_A ws0 sz) s.heap H locs (wCl I h0 n t b0 b1 hh z15.2 ++ wHi I O hh ha ad16 z15.2.2.2.1) := hw
      refine lv_if_eq (tgt := 160) hx hb dL_texts_89 (by decide) (fun hc => ?_) (fun hc => ?_)
      · rw [if_pos hc] at hf
        refine lv_iconst (v := 0) hx hb dL_texts_160 (by decide) ?_
        have he0 := Option.some.inj hf
        have hw : fy D (va_A ws0 sz) s.heap H locs ([] : va_W) := fy.sub hw [] rfl rfl
        refine W.widen (k := 106) (n := 4400) (Nat.le_of_ble_eq_true rfl) (Nat.le_of_ble_eq_true rfl) ?_
        exact x_zM (w1 := fun _ : Unit => ([] : va_W)) E () hw (Or.inl rfl) he0 dL_texts_161
      · rw [if_neg hc] at hf
        refine lv_aload_n hx hb dL_texts_92 rfl (lv_at hl 0 rfl) ?_
        refine lv_ldc2 (v := 62917934986283) hx hb E.2.2.2.1 (E.2.2.2.2.1 _ q779) dL_texts_93 ?_
        refine lv_bipush (v := 6) hx hb dL_texts_96 (by decide) ?_
        obtain ⟨z17, h, hf⟩ := bd_s hf
        refine x_miFP0 hw (x_rS E (As := [.ref h0, .long 62917934986283, .int 6]) (rest := []) (mt_L_isError l hfl D I J O h0 n t b0 b1 hh ha ad16 H.size 62917934986283 6 z15.2 z17.1 z17.2 h) blZ (x_pcZF0 E hXZ hw) ok_L_isError q765 rfl hl.1 rfl (Nat.le_of_ble_eq_true rfl) ⟨Nat.le_of_ble_eq_true rfl, Nat.le_of_ble_eq_true rfl⟩ ⟨Nat.le_of_ble_eq_true rfl, Nat.le_of_ble_eq_true rfl⟩ dL_texts_98) (fun _ => rfl) (fun ad18 H locs hw => ?_)
        have hw : fy D (va_A ws0 sz) s.heap H locs (wCl I h0 n t b0 b1 hh z17.2 ++ wHi I O hh ha ad18 z17.2.2.2.1) := hw
        refine lv_if_eq (tgt := 160) hx hb dL_texts_101 (by decide) (fun hc => ?_) (fun hc => ?_)
        · rw [if_pos hc] at hf
          refine lv_iconst (v := 0) hx hb dL_texts_160 (by decide) ?_
          have he0 := Option.some.inj hf
          have hw : fy D (va_A ws0 sz) s.heap H locs ([] : va_W) := fy.sub hw [] rfl rfl
          refine W.widen (k := 106) (n := 4400) (Nat.le_of_ble_eq_true rfl) (Nat.le_of_ble_eq_true rfl) ?_
          exact x_zM (w1 := fun _ : Unit => ([] : va_W)) E () hw (Or.inl rfl) he0 dL_texts_161
        · rw [if_neg hc] at hf
          refine lv_aload_n hx hb dL_texts_104 rfl (lv_at hl 0 rfl) ?_
          refine lv_ldc2 (v := 13610) hx hb E.2.2.2.1 (E.2.2.2.2.1 _ q780) dL_texts_105 ?_
          refine lv_iconst (v := 2) hx hb dL_texts_108 (by decide) ?_
          obtain ⟨z19, h, hf⟩ := bd_s hf
          refine x_miFP0 hw (x_rS E (As := [.ref h0, .long 13610, .int 2]) (rest := []) (mt_L_isError l hfl D I J O h0 n t b0 b1 hh ha ad18 H.size 13610 2 z17.2 z19.1 z19.2 h) blZ (x_pcZF0 E hXZ hw) ok_L_isError q765 rfl hl.1 rfl (Nat.le_of_ble_eq_true rfl) ⟨Nat.le_of_ble_eq_true rfl, Nat.le_of_ble_eq_true rfl⟩ ⟨Nat.le_of_ble_eq_true rfl, Nat.le_of_ble_eq_true rfl⟩ dL_texts_109) (fun _ => rfl) (fun ad20 H locs hw => ?_)
          have hw : fy D (va_A ws0 sz) s.heap H locs (wCl I h0 n t b0 b1 hh z19.2 ++ wHi I O hh ha ad20 z19.2.2.2.1) := hw
          refine lv_if_eq (tgt := 160) hx hb dL_texts_112 (by decide) (fun hc => ?_) (fun hc => ?_)
          · rw [if_pos hc] at hf
            refine lv_iconst (v := 0) hx hb dL_texts_160 (by decide) ?_
            have he0 := Option.some.inj hf
            have hw : fy D (va_A ws0 sz) s.heap H locs ([] : va_W) := fy.sub hw [] rfl rfl
            refine W.widen (k := 106) (n := 4400) (Nat.le_of_ble_eq_true rfl) (Nat.le_of_ble_eq_true rfl) ?_
            exact x_zM (w1 := fun _ : Unit => ([] : va_W)) E () hw (Or.inl rfl) he0 dL_texts_161
          · rw [if_neg hc] at hf
            refine lv_aload_n hx hb dL_texts_115 rfl (lv_at hl 0 rfl) ?_
            refine lv_ldc2 (v := 891957548) hx hb E.2.2.2.1 (E.2.2.2.2.1 _ q781) dL_texts_116 ?_
            refine lv_iconst (v := 4) hx hb dL_texts_119 (by decide) ?_
            obtain ⟨z21, h, hf⟩ := bd_s hf
            refine x_miFP0 hw (x_rS E (As := [.ref h0, .long 891957548, .int 4]) (rest := []) (mt_L_isError l hfl D I J O h0 n t b0 b1 hh ha ad20 H.size 891957548 4 z19.2 z21.1 z21.2 h) blZ (x_pcZF0 E hXZ hw) ok_L_isError q765 rfl hl.1 rfl (Nat.le_of_ble_eq_true rfl) ⟨Nat.le_of_ble_eq_true rfl, Nat.le_of_ble_eq_true rfl⟩ ⟨Nat.le_of_ble_eq_true rfl, Nat.le_of_ble_eq_true rfl⟩ dL_texts_120) (fun _ => rfl) (fun ad22 H locs hw => ?_)
            have hw : fy D (va_A ws0 sz) s.heap H locs (wCl I h0 n t b0 b1 hh z21.2 ++ wHi I O hh ha ad22 z21.2.2.2.1) := hw
            refine lv_if_eq (tgt := 160) hx hb dL_texts_123 (by decide) (fun hc => ?_) (fun hc => ?_)
            · rw [if_pos hc] at hf
              refine lv_iconst (v := 0) hx hb dL_texts_160 (by decide) ?_
              have he0 := Option.some.inj hf
              have hw : fy D (va_A ws0 sz) s.heap H locs ([] : va_W) := fy.sub hw [] rfl rfl
              refine W.widen (k := 106) (n := 4400) (Nat.le_of_ble_eq_true rfl) (Nat.le_of_ble_eq_true rfl) ?_
              exact x_zM (w1 := fun _ : Unit => ([] : va_W)) E () hw (Or.inl rfl) he0 dL_texts_161
            · rw [if_neg hc] at hf
              refine W.widen (k := 101) (n := 4370) (Nat.le_of_ble_eq_true rfl) (Nat.le_of_ble_eq_true rfl) ?_
              exact k_L_texts_126 E hfl hXZ h0 n t b0 b1 hh ha r z21.2 hf ad22 _ _ hw _ (lv_sub hl [0] rfl)
set_option maxRecDepth 100000 in
set_option maxHeartbeats 4000000 in
theorem mt_L_texts (l : Launch) (hfl : l.stackTraces = false) (D : va_G) (I J O : ClassId) (sz : Nat)   (r : Int32) (hf : f_L_texts = some r) : mZ l yL_texts cL_texts 2 (some .boolean) 9 204 106 4400 D I J O sz [] ([] : va_W) (qMi D sz ([] : va_W) r (fun _ : Unit => ([] : va_W))) := by
  refine mZ_open (own := RL) rfl (by decide +kernel) (Nat.le_of_ble_eq_true rfl) (fun p e s m below meth c ls E hXZ hsz hw hl => ?_)
  have hx := E.1
  have hb := E.2.1
  have hl : lv_has ls 2 [] := hl
  unfold f_L_texts at hf
  have hl := lv_sub hl [] rfl
  have hw : fy D (va_A ([] : va_W) sz) s.heap s.heap [] ([] : va_W) := hw
  obtain ⟨z1, h, hf⟩ := bd_s hf
  refine x_new (ci := 5) (fs := [.null, .null, .null, .null]) E hw rfl in5 tyX5_ok q15 q16 q1 (fun j hj => by rcases (show j = 0 ∨ j = 1 ∨ j = 2 ∨ j = 3 by omega) with rfl | rfl | rfl | rfl <;> rfl) (Nat.le_of_ble_eq_true rfl) (Nat.le_of_ble_eq_true rfl) dL_texts_0 (fun h0 H hw => ?_)
  refine lv_dup hx hb dL_texts_3 rfl ?_
  refine x_ctor (w1 := fun (u9 : (Nat → Nat) × (Nat → Nat) × Nat × Nat × Nat × Nat × (Nat → Nat → Nat)) => wCl I h0 u9.1 u9.2.1 u9.2.2.1 u9.2.2.2.1 u9.2.2.2.2.1 z1 ++ wHi I O u9.2.2.2.2.1 u9.2.2.2.2.2.1 u9.2.2.2.2.2.2 (z1).2.2.1) E hw (fun hpc => x_rI E (As := []) (rest := [.ref h0]) (mt_X5_init l D I J O h0 H.size z1 h) blM hpc ok_X5_init q17 rfl hl.1 rfl (Nat.le_of_ble_eq_true rfl) ⟨Nat.le_of_ble_eq_true rfl, Nat.le_of_ble_eq_true rfl⟩ ⟨Nat.le_of_ble_eq_true rfl, Nat.le_of_ble_eq_true rfl⟩ dL_texts_4) (fun u1 H locs hw => ?_)
  obtain ⟨n, t, b0, b1, hh, ha, ad⟩ := u1
  have hw : fy D (va_A ([] : va_W) sz) s.heap H locs (wCl I h0 n t b0 b1 hh z1 ++ wHi I O hh ha ad z1.2.2.1) := hw
  refine lv_astore_n (lv' := [(0, .ref h0)]) hx hb dL_texts_7 rfl hl (by decide) rfl (fun ls hl => ?_)
  refine lv_aload_n hx hb dL_texts_8 rfl (lv_at hl 0 rfl) ?_
  obtain ⟨z2, h, hf⟩ := bd_s hf
  refine x_ci (x_rV E (As := []) (rest := []) (mt_X5_firstError l D I J O h0 n t b0 b1 hh ha ad z1 z2 h) blR (x_recv E hw.1 0 5 rfl rfl rfl) (x_pcR E hw.1) ok_X5_firstError q756 rfl hl.1 rfl (Nat.le_of_ble_eq_true rfl) ⟨Nat.le_of_ble_eq_true rfl, Nat.le_of_ble_eq_true rfl⟩ ⟨Nat.le_of_ble_eq_true rfl, Nat.le_of_ble_eq_true rfl⟩ dL_texts_9) ?_
  refine lv_if_ne (tgt := 160) hx hb dL_texts_12 (by decide) (fun hc => ?_) (fun hc => ?_)
  · rw [if_neg hc] at hf
    refine lv_iconst (v := 0) hx hb dL_texts_160 (by decide) ?_
    have he0 := Option.some.inj hf
    have hw : fy D (va_A ([] : va_W) sz) s.heap H locs ([] : va_W) := fy.sub hw [] rfl rfl
    refine W.widen (k := 106) (n := 4400) (Nat.le_of_ble_eq_true rfl) (Nat.le_of_ble_eq_true rfl) ?_
    exact x_zM (w1 := fun _ : Unit => ([] : va_W)) E () hw (Or.inl rfl) he0 dL_texts_161
  · rw [if_pos hc] at hf
    refine lv_aload_n hx hb dL_texts_15 rfl (lv_at hl 0 rfl) ?_
    refine lv_ldc2 (v := 825241648) hx hb E.2.2.2.1 (E.2.2.2.2.1 _ q764) dL_texts_16 ?_
    refine lv_iconst (v := 3) hx hb dL_texts_19 (by decide) ?_
    obtain ⟨z3, h, hf⟩ := bd_s hf
    refine x_miFP0 hw (x_rS E (As := [.ref h0, .long 825241648, .int 3]) (rest := []) (mt_L_isError l hfl D I J O h0 n t b0 b1 hh ha ad H.size 825241648 3 z1 z3.1 z3.2 h) blZ (x_pcZF0 E hXZ hw) ok_L_isError q765 rfl hl.1 rfl (Nat.le_of_ble_eq_true rfl) ⟨Nat.le_of_ble_eq_true rfl, Nat.le_of_ble_eq_true rfl⟩ ⟨Nat.le_of_ble_eq_true rfl, Nat.le_of_ble_eq_true rfl⟩ dL_texts_20) (fun _ => rfl) (fun ad4 H locs hw => ?_)
    have hw : fy D (va_A ([] : va_W) sz) s.heap H locs (wCl I h0 n t b0 b1 hh z3.2 ++ wHi I O hh ha ad4 z3.2.2.2.1) := hw
    refine lv_if_eq (tgt := 160) hx hb dL_texts_23 (by decide) (fun hc => ?_) (fun hc => ?_)
    · rw [if_pos hc] at hf
      refine lv_iconst (v := 0) hx hb dL_texts_160 (by decide) ?_
      have he0 := Option.some.inj hf
      have hw : fy D (va_A ([] : va_W) sz) s.heap H locs ([] : va_W) := fy.sub hw [] rfl rfl
      refine W.widen (k := 106) (n := 4400) (Nat.le_of_ble_eq_true rfl) (Nat.le_of_ble_eq_true rfl) ?_
      exact x_zM (w1 := fun _ : Unit => ([] : va_W)) E () hw (Or.inl rfl) he0 dL_texts_161
    · rw [if_neg hc] at hf
      refine lv_aload_n hx hb dL_texts_26 rfl (lv_at hl 0 rfl) ?_
      refine lv_ldc2 (v := 12337) hx hb E.2.2.2.1 (E.2.2.2.2.1 _ q773) dL_texts_27 ?_
      refine lv_iconst (v := 1) hx hb dL_texts_30 (by decide) ?_
      obtain ⟨z5, h, hf⟩ := bd_s hf
      refine x_miFP0 hw (x_rS E (As := [.ref h0, .long 12337, .int 1]) (rest := []) (mt_L_isError l hfl D I J O h0 n t b0 b1 hh ha ad4 H.size 12337 1 z3.2 z5.1 z5.2 h) blZ (x_pcZF0 E hXZ hw) ok_L_isError q765 rfl hl.1 rfl (Nat.le_of_ble_eq_true rfl) ⟨Nat.le_of_ble_eq_true rfl, Nat.le_of_ble_eq_true rfl⟩ ⟨Nat.le_of_ble_eq_true rfl, Nat.le_of_ble_eq_true rfl⟩ dL_texts_31) (fun _ => rfl) (fun ad6 H locs hw => ?_)
      have hw : fy D (va_A ([] : va_W) sz) s.heap H locs (wCl I h0 n t b0 b1 hh z5.2 ++ wHi I O hh ha ad6 z5.2.2.2.1) := hw
      refine lv_if_eq (tgt := 160) hx hb dL_texts_34 (by decide) (fun hc => ?_) (fun hc => ?_)
      · rw [if_pos hc] at hf
        refine lv_iconst (v := 0) hx hb dL_texts_160 (by decide) ?_
        have he0 := Option.some.inj hf
        have hw : fy D (va_A ([] : va_W) sz) s.heap H locs ([] : va_W) := fy.sub hw [] rfl rfl
        refine W.widen (k := 106) (n := 4400) (Nat.le_of_ble_eq_true rfl) (Nat.le_of_ble_eq_true rfl) ?_
        exact x_zM (w1 := fun _ : Unit => ([] : va_W)) E () hw (Or.inl rfl) he0 dL_texts_161
      · rw [if_neg hc] at hf
        refine lv_aload_n hx hb dL_texts_37 rfl (lv_at hl 0 rfl) ?_
        refine lv_ldc2 (v := 3484208) hx hb E.2.2.2.1 (E.2.2.2.2.1 _ q774) dL_texts_38 ?_
        refine lv_iconst (v := 2) hx hb dL_texts_41 (by decide) ?_
        obtain ⟨z7, h, hf⟩ := bd_s hf
        refine x_miFP0 hw (x_rS E (As := [.ref h0, .long 3484208, .int 2]) (rest := []) (mt_L_isError l hfl D I J O h0 n t b0 b1 hh ha ad6 H.size 3484208 2 z5.2 z7.1 z7.2 h) blZ (x_pcZF0 E hXZ hw) ok_L_isError q765 rfl hl.1 rfl (Nat.le_of_ble_eq_true rfl) ⟨Nat.le_of_ble_eq_true rfl, Nat.le_of_ble_eq_true rfl⟩ ⟨Nat.le_of_ble_eq_true rfl, Nat.le_of_ble_eq_true rfl⟩ dL_texts_42) (fun _ => rfl) (fun ad8 H locs hw => ?_)
        have hw : fy D (va_A ([] : va_W) sz) s.heap H locs (wCl I h0 n t b0 b1 hh z7.2 ++ wHi I O hh ha ad8 z7.2.2.2.1) := hw
        refine lv_if_eq (tgt := 160) hx hb dL_texts_45 (by decide) (fun hc => ?_) (fun hc => ?_)
        · rw [if_pos hc] at hf
          refine lv_iconst (v := 0) hx hb dL_texts_160 (by decide) ?_
          have he0 := Option.some.inj hf
          have hw : fy D (va_A ([] : va_W) sz) s.heap H locs ([] : va_W) := fy.sub hw [] rfl rfl
          refine W.widen (k := 106) (n := 4400) (Nat.le_of_ble_eq_true rfl) (Nat.le_of_ble_eq_true rfl) ?_
          exact x_zM (w1 := fun _ : Unit => ([] : va_W)) E () hw (Or.inl rfl) he0 dL_texts_161
        · rw [if_neg hc] at hf
          refine lv_aload_n hx hb dL_texts_48 rfl (lv_at hl 0 rfl) ?_
          refine lv_ldc2 (v := 3484213) hx hb E.2.2.2.1 (E.2.2.2.2.1 _ q775) dL_texts_49 ?_
          refine lv_iconst (v := 2) hx hb dL_texts_52 (by decide) ?_
          obtain ⟨z9, h, hf⟩ := bd_s hf
          refine x_miFP0 hw (x_rS E (As := [.ref h0, .long 3484213, .int 2]) (rest := []) (mt_L_isError l hfl D I J O h0 n t b0 b1 hh ha ad8 H.size 3484213 2 z7.2 z9.1 z9.2 h) blZ (x_pcZF0 E hXZ hw) ok_L_isError q765 rfl hl.1 rfl (Nat.le_of_ble_eq_true rfl) ⟨Nat.le_of_ble_eq_true rfl, Nat.le_of_ble_eq_true rfl⟩ ⟨Nat.le_of_ble_eq_true rfl, Nat.le_of_ble_eq_true rfl⟩ dL_texts_53) (fun _ => rfl) (fun ad10 H locs hw => ?_)
          have hw : fy D (va_A ([] : va_W) sz) s.heap H locs (wCl I h0 n t b0 b1 hh z9.2 ++ wHi I O hh ha ad10 z9.2.2.2.1) := hw
          refine lv_if_eq (tgt := 160) hx hb dL_texts_56 (by decide) (fun hc => ?_) (fun hc => ?_)
          · rw [if_pos hc] at hf
            refine lv_iconst (v := 0) hx hb dL_texts_160 (by decide) ?_
            have he0 := Option.some.inj hf
            have hw : fy D (va_A ([] : va_W) sz) s.heap H locs ([] : va_W) := fy.sub hw [] rfl rfl
            refine W.widen (k := 106) (n := 4400) (Nat.le_of_ble_eq_true rfl) (Nat.le_of_ble_eq_true rfl) ?_
            exact x_zM (w1 := fun _ : Unit => ([] : va_W)) E () hw (Or.inl rfl) he0 dL_texts_161
          · rw [if_neg hc] at hf
            refine W.widen (k := 101) (n := 4370) (Nat.le_of_ble_eq_true rfl) (Nat.le_of_ble_eq_true rfl) ?_
            exact k_L_texts_59 E hfl hXZ h0 n t b0 b1 hh ha r z9.2 hf ad10 _ _ hw _ (lv_sub hl [0] rfl)
