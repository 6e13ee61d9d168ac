theorem ok_L_isError : yS yL_isError cL_isError 7 (some .boolean) 3 := ⟨q767, q0, q766, by decide +kernel, by decide +kernel, by decide +kernel⟩
set_option maxRecDepth 100000 in
set_option maxHeartbeats 4000000 in
theorem k_L_isError_58 {p : Program} {l : Launch} {e : Env} {s : State} {m : MethodId} {args : Array Value} {below : List Frame} {meth : Method} {c : Code} {D : va_G} {I J O : ClassId} {ws0 : va_W} {sz : Nat} (E : fx p s m args meth c cL_isError RL 7 (some .boolean) D I J O) (hfl : l.stackTraces = false) (hXZ : XZ (va_A ws0 sz) s) (h0 : Nat) (n t : Nat → Nat) (b0 b1 hh ha : Nat)  (r : Int32) (y0 : ClC) (k18 : Int64 → Int32 → Int32 → Int32 → ClC → Option (Int32 × ClC)) (hk18 : ∀ (v1 : Int64) (v3 : Int32) (v4 : Int32) (v5 : Int32) (x : ClC), k18 v1 v3 v4 v5 x = some (r, y0) → ∀ (ad : Nat → Nat → Nat) (H : Heap) (locs : List Loc), fy D (va_A ws0 sz) s.heap H locs (wCl I h0 n t b0 b1 hh x ++ wHi I O hh ha ad x.2.2.1) → ∀ ls : Array Slot, lv_has ls 7 [(0, .ref h0), (1, .long v1), (3, .int v3), (4, .int v4), (5, .int v5)] → W p l e (rmB 4 84 0 0) s m args below meth c H locs 0 0 (MQ below (qMi D sz ws0 r (fun ad9 : Nat → Nat → Nat => wCl I h0 n t b0 b1 hh y0 ++ wHi I O hh ha ad9 y0.2.2.1)) args s 0 0 (va_A ws0 sz)) (F0 m 18 ls [])) : ∀ (v1 : Int64) (v3 : Int32) (v5 : Int32) (t0 : Int32) (x : ClC), f_L_isError_58 k18 v1 v3 v5 t0 x = some (r, y0) → ∀ (ad : Nat → Nat → Nat) (H : Heap) (locs : List Loc), fy D (va_A ws0 sz) s.heap H locs (wCl I h0 n t b0 b1 hh x ++ wHi I O hh ha ad x.2.2.1) → ∀ ls : Array Slot, lv_has ls 7 [(0, .ref h0), (1, .long v1), (3, .int v3), (5, .int v5)] → W p l e (rmB 4 84 0 0) s m args below meth c H locs 0 0 (MQ below (qMi D sz ws0 r (fun ad9 : Nat → Nat → Nat => wCl I h0 n t b0 b1 hh y0 ++ wHi I O hh ha ad9 y0.2.2.1)) args s 0 0 (va_A ws0 sz)) (F0 m 58 ls [.int t0]) := by
  have hx := E.1
  have hb := E.2.1
  intro v1 v3 v5 t0 x hf ad H locs hw ls hl
  unfold f_L_isError_58 at hf
  refine lv_istore (lv' := [(4, .int t0), (0, .ref h0), (1, .long v1), (3, .int v3), (5, .int v5)]) hx hb dL_isError_58 hl (by decide) rfl (fun ls hl => ?_)
  refine lv_iinc (v := v5 + (-8)) (lv' := [(5, .int (v5 + (-8))), (4, .int t0), (0, .ref h0), (1, .long v1), (3, .int v3)]) hx hb dL_isError_60 hl (k := 4) rfl rfl (by decide) rfl (fun ls hl => ?_)
  refine lv_goto (tgt := 18) hx hb dL_isError_63 (by decide) ?_
  refine W.widen (k := 0) (n := 0) (Nat.le_of_ble_eq_true rfl) (Nat.le_of_ble_eq_true rfl) ?_
  exact hk18 v1 v3 t0 (v5 + (-8)) x hf ad _ _ hw _ (lv_sub hl [2, 3, 4, 1, 0] rfl)
set_option maxRecDepth 100000 in
set_option maxHeartbeats 4000000 in
theorem k_L_isError_53 {p : Program} {l : Launch} {e : Env} {s : State} {m : MethodId} {args : Array Value} {below : List Frame} {meth : Method} {c : Code} {D : va_G} {I J O : ClassId} {ws0 : va_W} {sz : Nat} (E : fx p s m args meth c cL_isError RL 7 (some .boolean) D I J O) (hfl : l.stackTraces = false) (hXZ : XZ (va_A ws0 sz) s) (h0 : Nat) (n t : Nat → Nat) (b0 b1 hh ha : Nat)  (r : Int32) (y0 : ClC) (k18 : Int64 → Int32 → Int32 → Int32 → ClC → Option (Int32 × ClC)) (hk18 : ∀ (v1 : Int64) (v3 : Int32) (v4 : Int32) (v5 : Int32) (x : ClC), k18 v1 v3 v4 v5 x = some (r, y0) → ∀ (ad : Nat → Nat → Nat) (H : Heap) (locs : List Loc), fy D (va_A ws0 sz) s.heap H locs (wCl I h0 n t b0 b1 hh x ++ wHi I O hh ha ad x.2.2.1) → ∀ ls : Array Slot, lv_has ls 7 [(0, .ref h0), (1, .long v1), (3, .int v3), (4, .int v4), (5, .int v5)] → W p l e (rmB 4 84 0 0) s m args below meth c H locs 0 0 (MQ below (qMi D sz ws0 r (fun ad9 : Nat → Nat → Nat => wCl I h0 n t b0 b1 hh y0 ++ wHi I O hh ha ad9 y0.2.2.1)) args s 0 0 (va_A ws0 sz)) (F0 m 18 ls [])) : ∀ (v1 : Int64) (v3 : Int32) (v5 : Int32) (x : ClC), f_L_isError_53 k18 v1 v3 v5 x = some (r, y0) → ∀ (ad : Nat → Nat → Nat) (H : Heap) (locs : List Loc), fy D (va_A ws0 sz) s.heap H locs (wCl I h0 n t b0 b1 hh x ++ wHi I O hh ha ad x.2.2.1) → ∀ ls : Array Slot, lv_has ls 7 [(0, .ref h0), (1, .long v1), (3, .int v3), (5, .int v5)] → W p l e (rmB 4 84 0 0) s m args below meth c H locs 0 0 (MQ below (qMi D sz ws0 r (fun ad9 : Nat → Nat → Nat => wCl I h0 n t b0 b1 hh y0 ++ wHi I O hh ha ad9 y0.2.2.1)) args s 0 0 (va_A ws0 sz)) (F0 m 53 ls []) := by
  have hx := E.1
  have hb := E.2.1
  intro v1 v3 v5 x hf ad H locs hw ls hl
  unfold f_L_isError_53 at hf
  refine lv_iconst (v := 1) hx hb dL_isError_53 (by decide) ?_
  refine lv_goto (tgt := 58) hx hb dL_isError_54 (by decide) ?_
  refine W.widen (k := 0) (n := 0) (Nat.le_of_ble_eq_true rfl) (Nat.le_of_ble_eq_true rfl) ?_
  exact k_L_isError_58 E hfl hXZ h0 n t b0 b1 hh ha r y0 k18 hk18 v1 v3 v5 1 x hf ad _ _ hw _ (lv_sub hl [0, 1, 2, 3] rfl)
set_option maxRecDepth 100000 in
set_option maxHeartbeats 4000000 in
theorem k_L_isError_57 {p : Program} {l : Launch} {e : Env} {s : State} {m : MethodId} {args : Array Value} {below : List Frame} {meth : Method} {c : Code} {D : va_G} {I J O : ClassId} {ws0 : va_W} {sz : Nat} (E : fx p s m args meth c cL_isError RL 7 (some .boolean) D I J O) (hfl : l.stackTraces = false) (hXZ : XZ (va_A ws0 sz) s) (h0 : Nat) (n t : Nat → Nat) (b0 b1 hh ha : Nat)  (r : Int32) (y0 : ClC) (k18 : Int64 → Int32 → Int32 → Int32 → ClC → Option (Int32 × ClC)) (hk18 : ∀ (v1 : Int64) (v3 : Int32) (v4 : Int32) (v5 : Int32) (x : ClC), k18 v1 v3 v4 v5 x = some (r, y0) → ∀ (ad : Nat → Nat → Nat) (H : Heap) (locs : List Loc), fy D (va_A ws0 sz) s.heap H locs (wCl I h0 n t b0 b1 hh x ++ wHi I O hh ha ad x.2.2.1) → ∀ ls : Array Slot, lv_has ls 7 [(0, .ref h0), (1, .long v1), (3, .int v3), (4, .int v4), (5, .int v5)] → W p l e (rmB 4 84 0 0) s m args below meth c H locs 0 0 (MQ below (qMi D sz ws0 r (fun ad9 : Nat → Nat → Nat => wCl I h0 n t b0 b1 hh y0 ++ wHi I O hh ha ad9 y0.2.2.1)) args s 0 0 (va_A ws0 sz)) (F0 m 18 ls [])) : ∀ (v1 : Int64) (v3 : Int32) (v5 : Int32) (x : ClC), f_L_isError_57 k18 v1 v3 v5 x = some (r, y0) → ∀ (ad : Nat → Nat → Nat) (H : Heap) (locs : List Loc), fy D (va_A ws0 sz) s.heap H locs (wCl I h0 n t b0 b1 hh x ++ wHi I O hh ha ad x.2.2.1) → ∀ ls : Array Slot, lv_has ls 7 [(0, .ref h0), (1, .long v1), (3, .int v3), (5, .int v5)] → W p l e (rmB 4 84 0 0) s m args below meth c H locs 0 0 (MQ below (qMi D sz ws0 r (fun ad9 : Nat → Nat → Nat => wCl I h0 n t b0 b1 hh y0 ++ wHi I O hh ha ad9 y0.2.2.1)) args s 0 0 (va_A ws0 sz)) (F0 m 57 ls []) := by
  have hx := E.1
  have hb := E.2.1
  intro v1 v3 v5 x hf ad H locs hw ls hl
  unfold f_L_isError_57 at hf
  refine lv_iconst (v := 0) hx hb dL_isError_57 (by decide) ?_
  refine W.widen (k := 0) (n := 0) (Nat.le_of_ble_eq_true rfl) (Nat.le_of_ble_eq_true rfl) ?_
  exact k_L_isError_58 E hfl hXZ h0 n t b0 b1 hh ha r y0 k18 hk18 v1 v3 v5 0 x hf ad _ _ hw _ (lv_sub hl [0, 1, 2, 3] rfl)
set_option maxRecDepth 100000 in
set_option maxHeartbeats 4000000 in
theorem k_L_isError_18 {p : Program} {l : Launch} {e : Env} {s : State} {m : MethodId} {args : Array Value} {below : List Frame} {meth : Method} {c : Code} {D : va_G} {I J O : ClassId} {ws0 : va_W} {sz : Nat} (E : fx p s m args meth c cL_isError RL 7 (some .boolean) D I J O) (hfl : l.stackTraces = false) (hXZ : XZ (va_A ws0 sz) s) (h0 : Nat) (n t : Nat → Nat) (b0 b1 hh ha : Nat)  (r : Int32) (y0 : ClC) : ∀ fu : Nat, ∀ (v1 : Int64) (v3 : Int32) (v4 : Int32) (v5 : Int32) (x : ClC), f_L_isError_18 fu v1 v3 v4 v5 x = some (r, y0) → ∀ (ad : Nat → Nat → Nat) (H : Heap) (locs : List Loc), fy D (va_A ws0 sz) s.heap H locs (wCl I h0 n t b0 b1 hh x ++ wHi I O hh ha ad x.2.2.1) → ∀ ls : Array Slot, lv_has ls 7 [(0, .ref h0), (1, .long v1), (3, .int v3), (4, .int v4), (5, .int v5)] → W p l e (rmB 4 84 0 0) s m args below meth c H locs 0 0 (MQ below (qMi D sz ws0 r (fun ad9 : Nat → Nat → Nat => wCl I h0 n t b0 b1 hh y0 ++ wHi I O hh ha ad9 y0.2.2.1)) args s 0 0 (va_A ws0 sz)) (F0 m 18 ls []) := by
  have hx := E.1
  have hb := E.2.1
  intro fu
  induction fu with
  | zero =>
    intro v1 v3 v4 v5 x hf ad H locs hw ls hl
    rw [f_L_isError_18.eq_1] at hf
    cases hf
  | succ fu ih =>
    intro v1 v3 v4 v5 x hf ad H locs hw ls hl
    rw [f_L_isError_18.eq_2] at hf
    refine lv_iload hx hb dL_isError_18 (lv_at hl 4 rfl) ?_
    refine lv_if_lt (tgt := 66) hx hb dL_isError_20 (by decide) (fun hc => ?_) (fun hc => ?_)
    · rw [if_pos hc] at hf
      refine lv_iload hx hb dL_isError_66 (lv_at hl 3 rfl) ?_
      refine lv_if_eq (tgt := 83) hx hb dL_isError_68 (by decide) (fun hc => ?_) (fun hc => ?_)
      · rw [if_pos hc] at hf
        refine lv_iconst (v := 0) hx hb dL_isError_83 (by decide) ?_
        obtain ⟨he0, hr⟩ := Prod.mk.inj (Option.some.inj hf)
        have he1 := hr
        subst he1
        refine W.widen (k := 0) (n := 0) (Nat.le_of_ble_eq_true rfl) (Nat.le_of_ble_eq_true rfl) ?_
        exact x_zM E ad hw (Or.inl rfl) he0 dL_isError_84
      · rw [if_neg hc] at hf
        refine lv_aload_n hx hb dL_isError_71 rfl (lv_at hl 0 rfl) ?_
        obtain ⟨z3, h, hf⟩ := bd_s hf
        refine x_ci (x_rV E (As := []) (rest := []) (mt_X5_firstError l D I J O h0 n t b0 b1 hh ha ad x z3 h) blR (x_recv E hw.1 0 5 rfl rfl rfl) (x_pcR E hw.1) ok_X5_firstError q756 rfl hl.1 rfl (Nat.le_of_ble_eq_true rfl) ⟨Nat.le_of_ble_eq_true rfl, Nat.le_of_ble_eq_true rfl⟩ ⟨Nat.le_of_ble_eq_true rfl, Nat.le_of_ble_eq_true rfl⟩ dL_isError_72) ?_
        refine lv_iload_n hx hb dL_isError_75 rfl (lv_at hl 2 rfl) ?_
        refine lv_icmp_ne (tgt := 83) hx hb dL_isError_76 (by decide) (fun hc => ?_) (fun hc => ?_)
        · rw [if_neg hc] at hf
          refine lv_iconst (v := 0) hx hb dL_isError_83 (by decide) ?_
          obtain ⟨he0, hr⟩ := Prod.mk.inj (Option.some.inj hf)
          have he1 := hr
          subst he1
          refine W.widen (k := 0) (n := 0) (Nat.le_of_ble_eq_true rfl) (Nat.le_of_ble_eq_true rfl) ?_
          exact x_zM E ad hw (Or.inl rfl) he0 dL_isError_84
        · rw [if_pos hc] at hf
          refine lv_iconst (v := 1) hx hb dL_isError_79 (by decide) ?_
          refine lv_goto (tgt := 84) hx hb dL_isError_80 (by decide) ?_
          obtain ⟨he0, hr⟩ := Prod.mk.inj (Option.some.inj hf)
          have he1 := hr
          subst he1
          refine W.widen (k := 0) (n := 0) (Nat.le_of_ble_eq_true rfl) (Nat.le_of_ble_eq_true rfl) ?_
          exact x_zM E ad hw (Or.inr rfl) he0 dL_isError_84
    · rw [if_neg hc] at hf
      refine lv_lload_n hx hb dL_isError_23 rfl (lv_at hl 1 rfl) ?_
      refine lv_iload hx hb dL_isError_24 (lv_at hl 4 rfl) ?_
      refine lv_lshr (v := v1 >>> (v5.toInt64 &&& 63)) hx hb dL_isError_26 rfl ?_
      refine lv_ldc2 (v := 255) hx hb E.2.2.2.1 (E.2.2.2.2.1 _ q772) dL_isError_27 ?_
      refine lv_land hx hb dL_isError_30 ?_
      refine lv_l2i (v := ((v1 >>> (v5.toInt64 &&& 63)) &&& 255).toInt32) hx hb dL_isError_31 rfl ?_
      refine lv_istore (lv' := [(6, .int (((v1 >>> (v5.toInt64 &&& 63)) &&& 255).toInt32)), (0, .ref h0), (1, .long v1), (3, .int v3), (4, .int v4), (5, .int v5)]) hx hb dL_isError_32 hl (by decide) rfl (fun ls hl => ?_)
      refine lv_iload hx hb dL_isError_34 (lv_at hl 4 rfl) ?_
      refine lv_if_eq (tgt := 57) hx hb dL_isError_36 (by decide) (fun hc => ?_) (fun hc => ?_)
      · rw [if_pos hc] at hf
        refine W.widen (k := 0) (n := 0) (Nat.le_of_ble_eq_true rfl) (Nat.le_of_ble_eq_true rfl) ?_
        exact k_L_isError_57 E hfl hXZ h0 n t b0 b1 hh ha r y0 (f_L_isError_18 fu) ih v1 v3 v5 x hf ad _ _ hw _ (lv_sub hl [1, 2, 3, 5] rfl)
      · rw [if_neg hc] at hf
        refine lv_iload hx hb dL_isError_39 (lv_at hl 0 rfl) ?_
        refine lv_if_eq (tgt := 53) hx hb dL_isError_41 (by decide) (fun hc => ?_) (fun hc => ?_)
        · rw [if_pos hc] at hf
          refine W.widen (k := 0) (n := 0) (Nat.le_of_ble_eq_true rfl) (Nat.le_of_ble_eq_true rfl) ?_
          exact k_L_isError_53 E hfl hXZ h0 n t b0 b1 hh ha r y0 (f_L_isError_18 fu) ih v1 v3 v5 x hf ad _ _ hw _ (lv_sub hl [1, 2, 3, 5] rfl)
        · rw [if_neg hc] at hf
          refine lv_aload_n hx hb dL_isError_44 rfl (lv_at hl 1 rfl) ?_
          refine lv_iload hx hb dL_isError_45 (lv_at hl 0 rfl) ?_
          obtain ⟨z4, h, hf⟩ := rt_s hf
          refine x_miFP0 hw (x_rV E (As := [.int (((v1 >>> (v5.toInt64 &&& 63)) &&& 255).toInt32)]) (rest := []) (mt_X5_append l D I J O h0 n t b0 b1 hh ha ad H.size (((v1 >>> (v5.toInt64 &&& 63)) &&& 255).toInt32) x z4.1 z4.2 h) blM (x_recv E hw.1 0 5 rfl rfl rfl) (x_pcMPF0 E hw) ok_X5_append q559 rfl hl.1 rfl (Nat.le_of_ble_eq_true rfl) ⟨Nat.le_of_ble_eq_true rfl, Nat.le_of_ble_eq_true rfl⟩ ⟨Nat.le_of_ble_eq_true rfl, Nat.le_of_ble_eq_true rfl⟩ dL_isError_47) (fun _ => rfl) (fun ad5 H locs hw => ?_)
          have hw : fy D (va_A ws0 sz) s.heap H locs (wCl I h0 n t b0 b1 hh z4.2 ++ wHi I O hh ha ad5 z4.2.2.2.1) := hw
          refine lv_if_le (tgt := 57) hx hb dL_isError_50 (by decide) (fun hc => ?_) (fun hc => ?_)
          · rw [if_pos hc] at hf
            refine W.widen (k := 0) (n := 0) (Nat.le_of_ble_eq_true rfl) (Nat.le_of_ble_eq_true rfl) ?_
            exact k_L_isError_57 E hfl hXZ h0 n t b0 b1 hh ha r y0 (f_L_isError_18 fu) ih v1 v3 v5 z4.2 hf ad5 _ _ hw _ (lv_sub hl [1, 2, 3, 5] rfl)
          · rw [if_neg hc] at hf
            refine W.widen (k := 0) (n := 0) (Nat.le_of_ble_eq_true rfl) (Nat.le_of_ble_eq_true rfl) ?_
            exact k_L_isError_53 E hfl hXZ h0 n t b0 b1 hh ha r y0 (f_L_isError_18 fu) ih v1 v3 v5 z4.2 hf ad5 _ _ hw _ (lv_sub hl [1, 2, 3, 5] rfl)
set_option maxRecDepth 100000 in
set_option maxHeartbeats 4000000 in
theorem k_L_isError_12 {p : Program} {l : Launch} {e : Env} {s : State} {m : MethodId} {args : Array Value} {below : List Frame} {meth : Method} {c : Code} {D : va_G} {I J O : ClassId} {ws0 : va_W} {sz : Nat} (E : fx p s m args meth c cL_isError RL 7 (some .boolean) D I J O) (hfl : l.stackTraces = false) (hXZ : XZ (va_A ws0 sz) s) (h0 : Nat) (n t : Nat → Nat) (b0 b1 hh ha : Nat)  (r : Int32) (y0 : ClC) : ∀ (v1 : Int64) (v3 : Int32) (t0 : Int32) (x : ClC), f_L_isError_12 v1 v3 t0 x = some (r, y0) → ∀ (ad : Nat → Nat → Nat) (H : Heap) (locs : List Loc), fy D (va_A ws0 sz) s.heap H locs (wCl I h0 n t b0 b1 hh x ++ wHi I O hh ha ad x.2.2.1) → ∀ ls : Array Slot, lv_has ls 7 [(0, .ref h0), (1, .long v1), (3, .int v3)] → W p l e (rmB 4 84 0 0) s m args below meth c H locs 0 0 (MQ below (qMi D sz ws0 r (fun ad9 : Nat → Nat → Nat => wCl I h0 n t b0 b1 hh y0 ++ wHi I O hh ha ad9 y0.2.2.1)) args s 0 0 (va_A ws0 sz)) (F0 m 12 ls [.int t0]) := by
  have hx := E.1
  have hb := E.2.1
  intro v1 v3 t0 x hf ad H locs hw ls hl
  unfold f_L_isError_12 at hf
  refine lv_istore (lv' := [(4, .int t0), (0, .ref h0), (1, .long v1), (3, .int v3)]) hx hb dL_isError_12 hl (by decide) rfl (fun ls hl => ?_)
  refine lv_bipush (v := 56) hx hb dL_isError_14 (by decide) ?_
  refine lv_istore (lv' := [(5, .int 56), (4, .int t0), (0, .ref h0), (1, .long v1), (3, .int v3)]) hx hb dL_isError_16 hl (by decide) rfl (fun ls hl => ?_)
  refine W.widen (k := 0) (n := 0) (Nat.le_of_ble_eq_true rfl) (Nat.le_of_ble_eq_true rfl) ?_
  exact k_L_isError_18 E hfl hXZ h0 n t b0 b1 hh ha r y0 FU v1 v3 t0 56 x hf ad _ _ hw _ (lv_sub hl [2, 3, 4, 1, 0] rfl)
set_option maxRecDepth 100000 in
set_option maxHeartbeats 4000000 in
theorem mt_L_isError (l : Launch) (hfl : l.stackTraces = false) (D : va_G) (I J O : ClassId) (h0 : Nat) (n t : Nat → Nat) (b0 b1 hh ha : Nat) (ad : Nat → Nat → Nat) (sz : Nat) (p1 : Int64) (p2 : Int32) (x : ClC) (r : Int32) (y0 : ClC) (hf : f_L_isError p1 p2 x = some (r, y0)) : mZ l yL_isError cL_isError 7 (some .boolean) 4 84 0 0 D I J O sz [.ref h0, .long p1, .int p2] (wCl I h0 n t b0 b1 hh x ++ wHi I O hh ha ad x.2.2.1) (qMi D sz (wCl I h0 n t b0 b1 hh x ++ wHi I O hh ha ad x.2.2.1) r (fun ad9 : Nat → Nat → Nat => wCl I h0 n t b0 b1 hh y0 ++ wHi I O hh ha ad9 y0.2.2.1)) := by
  refine mZ_open (own := RL) rfl (by decide +kernel) (Nat.le_of_ble_eq_true rfl) (fun p e s m below meth c ls E hXZ hsz hw hl => ?_)
  obtain ⟨ws0, hws⟩ : ∃ ws0 : va_W, ws0 = wCl I h0 n t b0 b1 hh x ++ wHi I O hh ha ad x.2.2.1 := ⟨_, rfl⟩
  rw [← hws] at hXZ
  have hw : fy D (va_A ws0 sz) s.heap s.heap [] (wCl I h0 n t b0 b1 hh x ++ wHi I O hh ha ad x.2.2.1) := by rw [hws]; exact hw
  rw [← hws]
  have hx := E.1
  have hb := E.2.1
  have hl : lv_has ls 7 [(0, .ref h0), (1, .long p1), (3, .int p2)] := hl
  unfold f_L_isError at hf
  refine lv_aload_n hx hb dL_isError_0 rfl (lv_at hl 0 rfl) ?_
  obtain ⟨z1, h, hf⟩ := bd_s hf
  refine x_miFP0 hw (x_rV E (As := []) (rest := []) (mt_X5_clearBuffer l D I J O h0 n t b0 b1 hh ha ad s.heap.size x z1.1 z1.2 h) blM (x_recv E hw.1 0 5 rfl rfl rfl) (x_pcMPF0 E hw) ok_X5_clearBuffer q768 rfl hl.1 rfl (Nat.le_of_ble_eq_true rfl) ⟨Nat.le_of_ble_eq_true rfl, Nat.le_of_ble_eq_true rfl⟩ ⟨Nat.le_of_ble_eq_true rfl, Nat.le_of_ble_eq_true rfl⟩ dL_isError_1) (fun _ => rfl) (fun ad2 H locs hw => ?_)
  have hw : fy D (va_A ws0 sz) s.heap H locs (wCl I h0 n t b0 b1 hh z1.2 ++ wHi I O hh ha ad2 z1.2.2.2.1) := hw
  refine lv_if_lt (tgt := 11) hx hb dL_isError_4 (by decide) (fun hc => ?_) (fun hc => ?_)
  · rw [if_pos hc] at hf
    refine lv_iconst (v := 0) hx hb dL_isError_11 (by decide) ?_
    refine W.widen (k := 0) (n := 0) (Nat.le_of_ble_eq_true rfl) (Nat.le_of_ble_eq_true rfl) ?_
    exact k_L_isError_12 E hfl hXZ h0 n t b0 b1 hh ha r y0 p1 p2 0 z1.2 hf ad2 _ _ hw _ (lv_sub hl [0, 1, 2] rfl)
  · rw [if_neg hc] at hf
    refine lv_iconst (v := 1) hx hb dL_isError_7 (by decide) ?_
    refine lv_goto (tgt := 12) hx hb dL_isError_8 (by decide) ?_
    refine W.widen (k := 0) (n := 0) (Nat.le_of_ble_eq_true rfl) (Nat.le_of_ble_eq_true rfl) ?_
    exact k_L_isError_12 E hfl hXZ h0 n t b0 b1 hh ha r y0 p1 p2 1 z1.2 hf ad2 _ _ hw _ (lv_sub hl [0, 1, 2] rfl)
