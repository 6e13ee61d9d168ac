theorem ok_L_isRefused : yS yL_isRefused cL_isRefused 2 (some .boolean) 2 := ⟨q738, q0, q737, by decide +kernel, by decide +kernel, by decide +kernel⟩
set_option maxRecDepth 100000 in
set_option maxHeartbeats 4000000 in
theorem k_L_isRefused_141 {p : Program} {l : Launch} {e : Env} {s : State} {m : MethodId} {args : Array Value} {below : List Frame} {meth : Method} {c : Code} {D : va_G} {I J O : ClassId} {ws0 : va_W} {sz : Nat} (E : fx p s m args meth c cL_isRefused RL 2 (some .boolean) D I J O) (hfl : l.stackTraces = false) (hXZ : XZ (va_A ws0 sz) s) (h0 : Nat) (n t : Nat → Nat) (b0 b1 hh ha : Nat)  (r : Int32) (y0 : ClC) : ∀ (x : ClC), f_L_isRefused_141 x = some (r, y0) → ∀ (ad : Nat → Nat → Nat) (H : Heap) (locs : List Loc), fy D (va_A ws0 sz) s.heap H locs (wCl I h0 n t b0 b1 hh x ++ wHi I O hh ha ad x.2.2.1) → ∀ ls : Array Slot, lv_has ls 2 [] → W p l e (rmB 9 204 6 36) s m args below meth c H locs 6 36 (MQ below (qMi D sz ws0 r (fun ad9 : Nat → Nat → Nat => wCl I h0 n t b0 b1 hh y0 ++ wHi I O hh ha ad9 y0.2.2.1)) args s 6 36 (va_A ws0 sz)) (F0 m 141 ls []) := by
  have hx := E.1
  have hb := E.2.1
  intro x hf ad H locs hw ls hl
  unfold f_L_isRefused_141 at hf
  refine lv_iconst (v := 1) hx hb dL_isRefused_141 (by decide) ?_
  refine lv_goto (tgt := 146) hx hb dL_isRefused_142 (by decide) ?_
  obtain ⟨he0, hr⟩ := Prod.mk.inj (Option.some.inj hf)
  have he1 := hr
  subst he1
  refine W.widen (k := 6) (n := 36) (Nat.le_of_ble_eq_true rfl) (Nat.le_of_ble_eq_true rfl) ?_
  exact x_zM E ad hw (Or.inr rfl) he0 dL_isRefused_146
set_option maxRecDepth 100000 in
set_option maxHeartbeats 4000000 in
theorem k_L_isRefused_117 {p : Program} {l : Launch} {e : Env} {s : State} {m : MethodId} {args : Array Value} {below : List Frame} {meth : Method} {c : Code} {D : va_G} {I J O : ClassId} {ws0 : va_W} {sz : Nat} (E : fx p s m args meth c cL_isRefused RL 2 (some .boolean) D I J O) (hfl : l.stackTraces = false) (hXZ : XZ (va_A ws0 sz) s) (h0 : Nat) (n t : Nat → Nat) (b0 b1 hh ha : Nat)  (r : Int32) (y0 : ClC) : ∀ (v1 : Int32) (x : ClC), f_L_isRefused_117 v1 x = some (r, y0) → ∀ (ad : Nat → Nat → Nat) (H : Heap) (locs : List Loc), fy D (va_A ws0 sz) s.heap H locs (wCl I h0 n t b0 b1 hh x ++ wHi I O hh ha ad x.2.2.1) → ∀ ls : Array Slot, lv_has ls 2 [(0, .ref h0), (1, .int v1)] → W p l e (rmB 9 204 6 36) s m args below meth c H locs 5 30 (MQ below (qMi D sz ws0 r (fun ad9 : Nat → Nat → Nat => wCl I h0 n t b0 b1 hh y0 ++ wHi I O hh ha ad9 y0.2.2.1)) args s 6 36 (va_A ws0 sz)) (F0 m 117 ls []) := by
  have hx := E.1
  have hb := E.2.1
  intro v1 x hf ad H locs hw ls hl
  unfold f_L_isRefused_117 at hf
  refine lv_aload_n hx hb dL_isRefused_117 rfl (lv_at hl 0 rfl) ?_
  refine lv_iload_n hx hb dL_isRefused_118 rfl (lv_at hl 1 rfl) ?_
  refine lv_iconst (v := 0) hx hb dL_isRefused_119 (by decide) ?_
  obtain ⟨z17, h, hf⟩ := rt_s hf
  refine x_ci (x_rV E (As := [.int v1, .int 0]) (rest := []) (mt_X5_walker l D I J O h0 n t b0 b1 hh ha ad v1 0 x z17 h) blR (x_recv E hw.1 0 5 rfl rfl rfl) (x_pcR E hw.1) ok_X5_walker q644 rfl hl.1 rfl (Nat.le_of_ble_eq_true rfl) ⟨Nat.le_of_ble_eq_true rfl, Nat.le_of_ble_eq_true rfl⟩ ⟨Nat.le_of_ble_eq_true rfl, Nat.le_of_ble_eq_true rfl⟩ dL_isRefused_120) ?_
  refine lv_iconst (v := 1) hx hb dL_isRefused_123 (by decide) ?_
  refine lv_icmp_eq (tgt := 141) hx hb dL_isRefused_124 (by decide) (fun hc => ?_) (fun hc => ?_)
  · rw [if_pos hc] at hf
    refine W.widen (k := 6) (n := 36) (Nat.le_of_ble_eq_true rfl) (Nat.le_of_ble_eq_true rfl) ?_
    exact k_L_isRefused_141 E hfl hXZ h0 n t b0 b1 hh ha r y0 x hf ad _ _ hw _ (lv_sub hl [] rfl)
  · rw [if_neg hc] at hf
    refine lv_aload_n hx hb dL_isRefused_127 rfl (lv_at hl 0 rfl) ?_
    refine lv_bipush (v := 6) hx hb dL_isRefused_128 (by decide) ?_
    refine lv_iload_n hx hb dL_isRefused_130 rfl (lv_at hl 1 rfl) ?_
    refine lv_iconst (v := 0) hx hb dL_isRefused_131 (by decide) ?_
    refine lv_iconst (v := 0) hx hb dL_isRefused_132 (by decide) ?_
    obtain ⟨z18, h, hf⟩ := bd_s hf
    refine x_miFP0 hw (x_rW E (As := [.ref h0, .int 6, .int v1, .int 0, .int 0]) (rest := []) (mt_L_call l hfl D I J O h0 n t b0 b1 hh ha ad H.size 6 v1 0 0 x z18.1 z18.2 h) blW (x_pcVF0 E hXZ hw) ok_L_call q445 rfl hl.1 rfl (Nat.le_of_ble_eq_true rfl) ⟨Nat.le_of_ble_eq_true rfl, Nat.le_of_ble_eq_true rfl⟩ ⟨Nat.le_of_ble_eq_true rfl, Nat.le_of_ble_eq_true rfl⟩ dL_isRefused_133) (fun _ => rfl) (fun ad19 H locs hw => ?_)
    have hw : fy D (va_A ws0 sz) s.heap H locs (wCl I h0 n t b0 b1 hh z18.2 ++ wHi I O hh ha ad19 z18.2.2.2.1) := hw
    refine lv_bipush (v := (-13)) hx hb dL_isRefused_136 (by decide) ?_
    refine lv_icmp_ne (tgt := 145) hx hb dL_isRefused_138 (by decide) (fun hc => ?_) (fun hc => ?_)
    · rw [if_neg hc] at hf
      refine lv_iconst (v := 0) hx hb dL_isRefused_145 (by decide) ?_
      obtain ⟨he0, hr⟩ := Prod.mk.inj (Option.some.inj hf)
      have he1 := hr
      subst he1
      refine W.widen (k := 6) (n := 36) (Nat.le_of_ble_eq_true rfl) (Nat.le_of_ble_eq_true rfl) ?_
      exact x_zM E ad19 hw (Or.inl rfl) he0 dL_isRefused_146
    · rw [if_pos hc] at hf
      refine W.widen (k := 6) (n := 36) (Nat.le_of_ble_eq_true rfl) (Nat.le_of_ble_eq_true rfl) ?_
      exact k_L_isRefused_141 E hfl hXZ h0 n t b0 b1 hh ha r y0 z18.2 hf ad19 _ _ hw _ (lv_sub hl [] rfl)
set_option maxRecDepth 100000 in
set_option maxHeartbeats 4000000 in
theorem k_L_isRefused_87 {p : Program} {l : Launch} {e : Env} {s : State} {m : MethodId} {args : Array Value} {below : List Frame} {meth : Method} {c : Code} {D : va_G} {I J O : ClassId} {ws0 : va_W} {sz : Nat} (E : fx p s m args meth c cL_isRefused RL 2 (some .boolean) D I J O) (hfl : l.stackTraces = false) (hXZ : XZ (va_A ws0 sz) s) (h0 : Nat) (n t : Nat → Nat) (b0 b1 hh ha : Nat)  (r : Int32) (y0 : ClC) : ∀ (v1 : Int32) (t1 : Int32) (t2 : Int32) (t3 : Int32) (x : ClC), f_L_isRefused_87 v1 t1 t2 t3 x = some (r, y0) → ∀ (ad : Nat → Nat → Nat) (H : Heap) (locs : List Loc), fy D (va_A ws0 sz) s.heap H locs (wCl I h0 n t b0 b1 hh x ++ wHi I O hh ha ad x.2.2.1) → ∀ ls : Array Slot, lv_has ls 2 [(0, .ref h0), (1, .int v1)] → W p l e (rmB 9 204 6 36) s m args below meth c H locs 3 18 (MQ below (qMi D sz ws0 r (fun ad9 : Nat → Nat → Nat => wCl I h0 n t b0 b1 hh y0 ++ wHi I O hh ha ad9 y0.2.2.1)) args s 6 36 (va_A ws0 sz)) (F0 m 87 ls [.int t3, .int t2, .int t1, .ref h0]) := by
  have hx := E.1
  have hb := E.2.1
  intro v1 t1 t2 t3 x hf ad H locs hw ls hl
  unfold f_L_isRefused_87 at hf
  refine lv_iconst (v := 0) hx hb dL_isRefused_87 (by decide) ?_
  obtain ⟨z12, h, hf⟩ := bd_s hf
  refine x_miFP0 hw (x_rW E (As := [.ref h0, .int t1, .int t2, .int t3, .int 0]) (rest := []) (mt_L_call l hfl D I J O h0 n t b0 b1 hh ha ad H.size t1 t2 t3 0 x z12.1 z12.2 h) blW (x_pcVF0 E hXZ hw) ok_L_call q445 rfl hl.1 rfl (Nat.le_of_ble_eq_true rfl) ⟨Nat.le_of_ble_eq_true rfl, Nat.le_of_ble_eq_true rfl⟩ ⟨Nat.le_of_ble_eq_true rfl, Nat.le_of_ble_eq_true rfl⟩ dL_isRefused_88) (fun _ => rfl) (fun ad13 H locs hw => ?_)
  have hw : fy D (va_A ws0 sz) s.heap H locs (wCl I h0 n t b0 b1 hh z12.2 ++ wHi I O hh ha ad13 z12.2.2.2.1) := hw
  refine lv_bipush (v := (-12)) hx hb dL_isRefused_91 (by decide) ?_
  refine lv_icmp_ne (tgt := 115) hx hb dL_isRefused_93 (by decide) (fun hc => ?_) (fun hc => ?_)
  · rw [if_neg hc] at hf
    refine lv_iconst (v := 0) hx hb dL_isRefused_115 (by decide) ?_
    obtain ⟨he0, hr⟩ := Prod.mk.inj (Option.some.inj hf)
    have he1 := hr
    subst he1
    refine W.widen (k := 6) (n := 36) (Nat.le_of_ble_eq_true rfl) (Nat.le_of_ble_eq_true rfl) ?_
    exact x_zM E ad13 hw (Or.inl rfl) he0 dL_isRefused_116
  · rw [if_pos hc] at hf
    refine lv_aload_n hx hb dL_isRefused_96 rfl (lv_at hl 0 rfl) ?_
    refine lv_iconst (v := 2) hx hb dL_isRefused_97 (by decide) ?_
    refine lv_aload_n hx hb dL_isRefused_98 rfl (lv_at hl 0 rfl) ?_
    refine lv_iconst (v := 0) hx hb dL_isRefused_99 (by decide) ?_
    obtain ⟨z14, h, hf⟩ := rt_s hf
    refine x_ci (x_rV E (As := [.int 0]) (rest := [.int 2, .ref h0]) (mt_X5_at l D I J O h0 n t b0 b1 hh ha ad13 0 z12.2 z14 h) blR (x_recv E hw.1 0 5 rfl rfl rfl) (x_pcR E hw.1) ok_X5_at q371 rfl hl.1 rfl (Nat.le_of_ble_eq_true rfl) ⟨Nat.le_of_ble_eq_true rfl, Nat.le_of_ble_eq_true rfl⟩ ⟨Nat.le_of_ble_eq_true rfl, Nat.le_of_ble_eq_true rfl⟩ dL_isRefused_100) ?_
    refine lv_iconst (v := 1) hx hb dL_isRefused_103 (by decide) ?_
    refine lv_iadd hx hb dL_isRefused_104 ?_
    refine lv_iconst (v := 0) hx hb dL_isRefused_105 (by decide) ?_
    refine lv_iconst (v := 0) hx hb dL_isRefused_106 (by decide) ?_
    obtain ⟨z15, h, hf⟩ := bd_s hf
    refine x_miFP0 hw (x_rW E (As := [.ref h0, .int 2, .int (z14 + 1), .int 0, .int 0]) (rest := []) (mt_L_call l hfl D I J O h0 n t b0 b1 hh ha ad13 H.size 2 (z14 + 1) 0 0 z12.2 z15.1 z15.2 h) blW (x_pcVF0 E hXZ hw) ok_L_call q445 rfl hl.1 rfl (Nat.le_of_ble_eq_true rfl) ⟨Nat.le_of_ble_eq_true rfl, Nat.le_of_ble_eq_true rfl⟩ ⟨Nat.le_of_ble_eq_true rfl, Nat.le_of_ble_eq_true rfl⟩ dL_isRefused_107) (fun _ => rfl) (fun ad16 H locs hw => ?_)
    have hw : fy D (va_A ws0 sz) s.heap H locs (wCl I h0 n t b0 b1 hh z15.2 ++ wHi I O hh ha ad16 z15.2.2.2.1) := hw
    refine lv_bipush (v := (-11)) hx hb dL_isRefused_110 (by decide) ?_
    refine lv_icmp_eq (tgt := 117) hx hb dL_isRefused_112 (by decide) (fun hc => ?_) (fun hc => ?_)
    · rw [if_pos hc] at hf
      refine W.widen (k := 5) (n := 30) (Nat.le_of_ble_eq_true rfl) (Nat.le_of_ble_eq_true rfl) ?_
      exact k_L_isRefused_117 E hfl hXZ h0 n t b0 b1 hh ha r y0 v1 z15.2 hf ad16 _ _ hw _ (lv_sub hl [0, 1] rfl)
    · rw [if_neg hc] at hf
      refine lv_iconst (v := 0) hx hb dL_isRefused_115 (by decide) ?_
      obtain ⟨he0, hr⟩ := Prod.mk.inj (Option.some.inj hf)
      have he1 := hr
      subst he1
      refine W.widen (k := 6) (n := 36) (Nat.le_of_ble_eq_true rfl) (Nat.le_of_ble_eq_true rfl) ?_
      exact x_zM E ad16 hw (Or.inl rfl) he0 dL_isRefused_116
set_option maxRecDepth 100000 in
set_option maxHeartbeats 4000000 in
theorem k_L_isRefused_69 {p : Program} {l : Launch} {e : Env} {s : State} {m : MethodId} {args : Array Value} {below : List Frame} {meth : Method} {c : Code} {D : va_G} {I J O : ClassId} {ws0 : va_W} {sz : Nat} (E : fx p s m args meth c cL_isRefused RL 2 (some .boolean) D I J O) (hfl : l.stackTraces = false) (hXZ : XZ (va_A ws0 sz) s) (h0 : Nat) (n t : Nat → Nat) (b0 b1 hh ha : Nat)  (r : Int32) (y0 : ClC) : ∀ (v1 : Int32) (x : ClC), f_L_isRefused_69 v1 x = some (r, y0) → ∀ (ad : Nat → Nat → Nat) (H : Heap) (locs : List Loc), fy D (va_A ws0 sz) s.heap H locs (wCl I h0 n t b0 b1 hh x ++ wHi I O hh ha ad x.2.2.1) → ∀ ls : Array Slot, lv_has ls 2 [(0, .ref h0), (1, .int v1)] → W p l e (rmB 9 204 6 36) s m args below meth c H locs 3 18 (MQ below (qMi D sz ws0 r (fun ad9 : Nat → Nat → Nat => wCl I h0 n t b0 b1 hh y0 ++ wHi I O hh ha ad9 y0.2.2.1)) args s 6 36 (va_A ws0 sz)) (F0 m 69 ls []) := by
  have hx := E.1
  have hb := E.2.1
  intro v1 x hf ad H locs hw ls hl
  unfold f_L_isRefused_69 at hf
  refine lv_aload_n hx hb dL_isRefused_69 rfl (lv_at hl 0 rfl) ?_
  refine lv_bipush (v := 10) hx hb dL_isRefused_70 (by decide) ?_
  refine lv_aload_n hx hb dL_isRefused_72 rfl (lv_at hl 0 rfl) ?_
  refine lv_iconst (v := 0) hx hb dL_isRefused_73 (by decide) ?_
  obtain ⟨z11, h, hf⟩ := rt_s hf
  refine x_ci (x_rV E (As := [.int 0]) (rest := [.int 10, .ref h0]) (mt_X5_at l D I J O h0 n t b0 b1 hh ha ad 0 x z11 h) blR (x_recv E hw.1 0 5 rfl rfl rfl) (x_pcR E hw.1) ok_X5_at q371 rfl hl.1 rfl (Nat.le_of_ble_eq_true rfl) ⟨Nat.le_of_ble_eq_true rfl, Nat.le_of_ble_eq_true rfl⟩ ⟨Nat.le_of_ble_eq_true rfl, Nat.le_of_ble_eq_true rfl⟩ dL_isRefused_74) ?_
  refine lv_iload_n hx hb dL_isRefused_77 rfl (lv_at hl 1 rfl) ?_
  refine lv_if_ne (tgt := 85) hx hb dL_isRefused_78 (by decide) (fun hc => ?_) (fun hc => ?_)
  · rw [if_neg hc] at hf
    refine lv_bipush (v := 6) hx hb dL_isRefused_85 (by decide) ?_
    refine W.widen (k := 3) (n := 18) (Nat.le_of_ble_eq_true rfl) (Nat.le_of_ble_eq_true rfl) ?_
    exact k_L_isRefused_87 E hfl hXZ h0 n t b0 b1 hh ha r y0 v1 10 z11 6 x hf ad _ _ hw _ (lv_sub hl [0, 1] rfl)
  · rw [if_pos hc] at hf
    refine lv_iconst (v := (-1)) hx hb dL_isRefused_81 (by decide) ?_
    refine lv_goto (tgt := 87) hx hb dL_isRefused_82 (by decide) ?_
    refine W.widen (k := 3) (n := 18) (Nat.le_of_ble_eq_true rfl) (Nat.le_of_ble_eq_true rfl) ?_
    exact k_L_isRefused_87 E hfl hXZ h0 n t b0 b1 hh ha r y0 v1 10 z11 (-1) x hf ad _ _ hw _ (lv_sub hl [0, 1] rfl)
set_option maxRecDepth 100000 in
set_option maxHeartbeats 4000000 in
theorem k_L_isRefused_60 {p : Program} {l : Launch} {e : Env} {s : State} {m : MethodId} {args : Array Value} {below : List Frame} {meth : Method} {c : Code} {D : va_G} {I J O : ClassId} {ws0 : va_W} {sz : Nat} (E : fx p s m args meth c cL_isRefused RL 2 (some .boolean) D I J O) (hfl : l.stackTraces = false) (hXZ : XZ (va_A ws0 sz) s) (h0 : Nat) (n t : Nat → Nat) (b0 b1 hh ha : Nat)  (r : Int32) (y0 : ClC) : ∀ (v1 : Int32) (t1 : Int32) (t2 : Int32) (t3 : Int32) (x : ClC), f_L_isRefused_60 v1 t1 t2 t3 x = some (r, y0) → ∀ (ad : Nat → Nat → Nat) (H : Heap) (locs : List Loc), fy D (va_A ws0 sz) s.heap H locs (wCl I h0 n t b0 b1 hh x ++ wHi I O hh ha ad x.2.2.1) → ∀ ls : Array Slot, lv_has ls 2 [(0, .ref h0), (1, .int v1)] → W p l e (rmB 9 204 6 36) s m args below meth c H locs 2 12 (MQ below (qMi D sz ws0 r (fun ad9 : Nat → Nat → Nat => wCl I h0 n t b0 b1 hh y0 ++ wHi I O hh ha ad9 y0.2.2.1)) args s 6 36 (va_A ws0 sz)) (F0 m 60 ls [.int t3, .int t2, .int t1, .ref h0]) := by
  have hx := E.1
  have hb := E.2.1
  intro v1 t1 t2 t3 x hf ad H locs hw ls hl
  unfold f_L_isRefused_60 at hf
  refine lv_iconst (v := 0) hx hb dL_isRefused_60 (by decide) ?_
  obtain ⟨z9, h, hf⟩ := bd_s hf
  refine x_miFP0 hw (x_rW E (As := [.ref h0, .int t1, .int t2, .int t3, .int 0]) (rest := []) (mt_L_call l hfl D I J O h0 n t b0 b1 hh ha ad H.size t1 t2 t3 0 x z9.1 z9.2 h) blW (x_pcVF0 E hXZ hw) ok_L_call q445 rfl hl.1 rfl (Nat.le_of_ble_eq_true rfl) ⟨Nat.le_of_ble_eq_true rfl, Nat.le_of_ble_eq_true rfl⟩ ⟨Nat.le_of_ble_eq_true rfl, Nat.le_of_ble_eq_true rfl⟩ dL_isRefused_61) (fun _ => rfl) (fun ad10 H locs hw => ?_)
  have hw : fy D (va_A ws0 sz) s.heap H locs (wCl I h0 n t b0 b1 hh z9.2 ++ wHi I O hh ha ad10 z9.2.2.2.1) := hw
  refine lv_bipush (v := (-12)) hx hb dL_isRefused_64 (by decide) ?_
  refine lv_icmp_ne (tgt := 115) hx hb dL_isRefused_66 (by decide) (fun hc => ?_) (fun hc => ?_)
  · rw [if_neg hc] at hf
    refine lv_iconst (v := 0) hx hb dL_isRefused_115 (by decide) ?_
    obtain ⟨he0, hr⟩ := Prod.mk.inj (Option.some.inj hf)
    have he1 := hr
    subst he1
    refine W.widen (k := 6) (n := 36) (Nat.le_of_ble_eq_true rfl) (Nat.le_of_ble_eq_true rfl) ?_
    exact x_zM E ad10 hw (Or.inl rfl) he0 dL_isRefused_116
  · rw [if_pos hc] at hf
    refine W.widen (k := 3) (n := 18) (Nat.le_of_ble_eq_true rfl) (Nat.le_of_ble_eq_true rfl) ?_
    exact k_L_isRefused_69 E hfl hXZ h0 n t b0 b1 hh ha r y0 v1 z9.2 hf ad10 _ _ hw _ (lv_sub hl [0, 1] rfl)
set_option maxRecDepth 100000 in
set_option maxHeartbeats 4000000 in
theorem k_L_isRefused_25 {p : Program} {l : Launch} {e : Env} {s : State} {m : MethodId} {args : Array Value} {below : List Frame} {meth : Method} {c : Code} {D : va_G} {I J O : ClassId} {ws0 : va_W} {sz : Nat} (E : fx p s m args meth c cL_isRefused RL 2 (some .boolean) D I J O) (hfl : l.stackTraces = false) (hXZ : XZ (va_A ws0 sz) s) (h0 : Nat) (n t : Nat → Nat) (b0 b1 hh ha : Nat)  (r : Int32) (y0 : ClC) : ∀ (v1 : Int32) (x : ClC), f_L_isRefused_25 v1 x = some (r, y0) → ∀ (ad : Nat → Nat → Nat) (H : Heap) (locs : List Loc), fy D (va_A ws0 sz) s.heap H locs (wCl I h0 n t b0 b1 hh x ++ wHi I O hh ha ad x.2.2.1) → ∀ ls : Array Slot, lv_has ls 2 [(0, .ref h0), (1, .int v1)] → W p l e (rmB 9 204 6 36) s m args below meth c H locs 1 6 (MQ below (qMi D sz ws0 r (fun ad9 : Nat → Nat → Nat => wCl I h0 n t b0 b1 hh y0 ++ wHi I O hh ha ad9 y0.2.2.1)) args s 6 36 (va_A ws0 sz)) (F0 m 25 ls []) := by
  have hx := E.1
  have hb := E.2.1
  intro v1 x hf ad H locs hw ls hl
  unfold f_L_isRefused_25 at hf
  refine lv_aload_n hx hb dL_isRefused_25 rfl (lv_at hl 0 rfl) ?_
  refine lv_iconst (v := 1) hx hb dL_isRefused_26 (by decide) ?_
  refine lv_aload_n hx hb dL_isRefused_27 rfl (lv_at hl 0 rfl) ?_
  refine lv_iconst (v := 0) hx hb dL_isRefused_28 (by decide) ?_
  obtain ⟨z5, h, hf⟩ := rt_s hf
  refine x_ci (x_rV E (As := [.int 0]) (rest := [.int 1, .ref h0]) (mt_X5_at l D I J O h0 n t b0 b1 hh ha ad 0 x z5 h) blR (x_recv E hw.1 0 5 rfl rfl rfl) (x_pcR E hw.1) ok_X5_at q371 rfl hl.1 rfl (Nat.le_of_ble_eq_true rfl) ⟨Nat.le_of_ble_eq_true rfl, Nat.le_of_ble_eq_true rfl⟩ ⟨Nat.le_of_ble_eq_true rfl, Nat.le_of_ble_eq_true rfl⟩ dL_isRefused_29) ?_
  refine lv_iconst (v := 1) hx hb dL_isRefused_32 (by decide) ?_
  refine lv_iconst (v := 3) hx hb dL_isRefused_33 (by decide) ?_
  obtain ⟨z6, h, hf⟩ := bd_s hf
  refine x_miFP0 hw (x_rW E (As := [.ref h0, .int 1, .int z5, .int 1, .int 3]) (rest := []) (mt_L_call l hfl D I J O h0 n t b0 b1 hh ha ad H.size 1 z5 1 3 x z6.1 z6.2 h) blW (x_pcVF0 E hXZ hw) ok_L_call q445 rfl hl.1 rfl (Nat.le_of_ble_eq_true rfl) ⟨Nat.le_of_ble_eq_true rfl, Nat.le_of_ble_eq_true rfl⟩ ⟨Nat.le_of_ble_eq_true rfl, Nat.le_of_ble_eq_true rfl⟩ dL_isRefused_34) (fun _ => rfl) (fun ad7 H locs hw => ?_)
  have hw : fy D (va_A ws0 sz) s.heap H locs (wCl I h0 n t b0 b1 hh z6.2 ++ wHi I O hh ha ad7 z6.2.2.2.1) := hw
  refine lv_bipush (v := (-12)) hx hb dL_isRefused_37 (by decide) ?_
  refine lv_icmp_ne (tgt := 115) hx hb dL_isRefused_39 (by decide) (fun hc => ?_) (fun hc => ?_)
  · rw [if_neg hc] at hf
    refine lv_iconst (v := 0) hx hb dL_isRefused_115 (by decide) ?_
    obtain ⟨he0, hr⟩ := Prod.mk.inj (Option.some.inj hf)
    have he1 := hr
    subst he1
    refine W.widen (k := 6) (n := 36) (Nat.le_of_ble_eq_true rfl) (Nat.le_of_ble_eq_true rfl) ?_
    exact x_zM E ad7 hw (Or.inl rfl) he0 dL_isRefused_116
  · rw [if_pos hc] at hf
    refine lv_aload_n hx hb dL_isRefused_42 rfl (lv_at hl 0 rfl) ?_
    refine lv_iconst (v := 3) hx hb dL_isRefused_43 (by decide) ?_
    refine lv_aload_n hx hb dL_isRefused_44 rfl (lv_at hl 0 rfl) ?_
    refine lv_iconst (v := 0) hx hb dL_isRefused_45 (by decide) ?_
    obtain ⟨z8, h, hf⟩ := rt_s hf
    refine x_ci (x_rV E (As := [.int 0]) (rest := [.int 3, .ref h0]) (mt_X5_at l D I J O h0 n t b0 b1 hh ha ad7 0 z6.2 z8 h) blR (x_recv E hw.1 0 5 rfl rfl rfl) (x_pcR E hw.1) ok_X5_at q371 rfl hl.1 rfl (Nat.le_of_ble_eq_true rfl) ⟨Nat.le_of_ble_eq_true rfl, Nat.le_of_ble_eq_true rfl⟩ ⟨Nat.le_of_ble_eq_true rfl, Nat.le_of_ble_eq_true rfl⟩ dL_isRefused_46) ?_
    refine lv_iload_n hx hb dL_isRefused_49 rfl (lv_at hl 1 rfl) ?_
    refine lv_if_ne (tgt := 57) hx hb dL_isRefused_50 (by decide) (fun hc => ?_) (fun hc => ?_)
    · rw [if_neg hc] at hf
      refine lv_sipush (v := 1000) hx hb dL_isRefused_57 (by decide) ?_
      refine W.widen (k := 2) (n := 12) (Nat.le_of_ble_eq_true rfl) (Nat.le_of_ble_eq_true rfl) ?_
      exact k_L_isRefused_60 E hfl hXZ h0 n t b0 b1 hh ha r y0 v1 3 z8 1000 z6.2 hf ad7 _ _ hw _ (lv_sub hl [0, 1] rfl)
    · rw [if_pos hc] at hf
      refine lv_iconst (v := (-1)) hx hb dL_isRefused_53 (by decide) ?_
      refine lv_goto (tgt := 60) hx hb dL_isRefused_54 (by decide) ?_
      refine W.widen (k := 2) (n := 12) (Nat.le_of_ble_eq_true rfl) (Nat.le_of_ble_eq_true rfl) ?_
      exact k_L_isRefused_60 E hfl hXZ h0 n t b0 b1 hh ha r y0 v1 3 z8 (-1) z6.2 hf ad7 _ _ hw _ (lv_sub hl [0, 1] rfl)
set_option maxRecDepth 100000 in
set_option maxHeartbeats 4000000 in
theorem mt_L_isRefused (l : Launch) (hfl : l.stackTraces = false) (D : va_G) (I J O : ClassId) (h0 : Nat) (n t : Nat → Nat) (b0 b1 hh ha : Nat) (ad : Nat → Nat → Nat) (sz : Nat) (p1 : Int32) (x : ClC) (r : Int32) (y0 : ClC) (hf : f_L_isRefused p1 x = some (r, y0)) : mZ l yL_isRefused cL_isRefused 2 (some .boolean) 9 204 6 36 D I J O sz [.ref h0, .int p1] (wCl I h0 n t b0 b1 hh x ++ wHi I O hh ha ad x.2.2.1) (qMi D sz (wCl I h0 n t b0 b1 hh x ++ wHi I O hh ha ad x.2.2.1) r (fun ad9 : Nat → Nat → Nat => wCl I h0 n t b0 b1 hh y0 ++ wHi I O hh ha ad9 y0.2.2.1)) := by
  refine mZ_open (own := RL) rfl (by decide +kernel) (Nat.le_of_ble_eq_true rfl) (fun p e s m below meth c ls E hXZ hsz hw hl => ?_)
  obtain ⟨ws0, hws⟩ : ∃ ws0 : va_W, ws0 = wCl I h0 n t b0 b1 hh x ++ wHi I O hh ha ad x.2.2.1 := ⟨_, rfl⟩
  rw [← hws] at hXZ
  have hw : fy D (va_A ws0 sz) s.heap s.heap [] (wCl I h0 n t b0 b1 hh x ++ wHi I O hh ha ad x.2.2.1) := by rw [hws]; exact hw
  rw [← hws]
  have hx := E.1
  have hb := E.2.1
  have hl : lv_has ls 2 [(0, .ref h0), (1, .int p1)] := hl
  unfold f_L_isRefused at hf
  refine lv_aload_n hx hb dL_isRefused_0 rfl (lv_at hl 0 rfl) ?_
  refine lv_iconst (v := 0) hx hb dL_isRefused_1 (by decide) ?_
  obtain ⟨z1, h, hf⟩ := rt_s hf
  refine x_ci (x_rV E (As := [.int 0]) (rest := []) (mt_X5_count l D I J O h0 n t b0 b1 hh ha ad 0 x z1 h) blR (x_recv E hw.1 0 5 rfl rfl rfl) (x_pcR E hw.1) ok_X5_count q399 rfl hl.1 rfl (Nat.le_of_ble_eq_true rfl) ⟨Nat.le_of_ble_eq_true rfl, Nat.le_of_ble_eq_true rfl⟩ ⟨Nat.le_of_ble_eq_true rfl, Nat.le_of_ble_eq_true rfl⟩ dL_isRefused_2) ?_
  refine lv_if_le (tgt := 117) hx hb dL_isRefused_5 (by decide) (fun hc => ?_) (fun hc => ?_)
  · rw [if_pos hc] at hf
    refine W.widen (k := 5) (n := 30) (Nat.le_of_ble_eq_true rfl) (Nat.le_of_ble_eq_true rfl) ?_
    exact k_L_isRefused_117 E hfl hXZ h0 n t b0 b1 hh ha r y0 p1 x hf ad _ _ hw _ (lv_sub hl [0, 1] rfl)
  · rw [if_neg hc] at hf
    refine lv_aload_n hx hb dL_isRefused_8 rfl (lv_at hl 0 rfl) ?_
    refine lv_iconst (v := 1) hx hb dL_isRefused_9 (by decide) ?_
    refine lv_aload_n hx hb dL_isRefused_10 rfl (lv_at hl 0 rfl) ?_
    refine lv_iconst (v := 0) hx hb dL_isRefused_11 (by decide) ?_
    obtain ⟨z2, h, hf⟩ := rt_s hf
    refine x_ci (x_rV E (As := [.int 0]) (rest := [.int 1, .ref h0]) (mt_X5_at l D I J O h0 n t b0 b1 hh ha ad 0 x z2 h) blR (x_recv E hw.1 0 5 rfl rfl rfl) (x_pcR E hw.1) ok_X5_at q371 rfl hl.1 rfl (Nat.le_of_ble_eq_true rfl) ⟨Nat.le_of_ble_eq_true rfl, Nat.le_of_ble_eq_true rfl⟩ ⟨Nat.le_of_ble_eq_true rfl, Nat.le_of_ble_eq_true rfl⟩ dL_isRefused_12) ?_
    refine lv_iconst (v := 0) hx hb dL_isRefused_15 (by decide) ?_
    refine lv_iconst (v := 0) hx hb dL_isRefused_16 (by decide) ?_
    obtain ⟨z3, h, hf⟩ := bd_s hf
    refine x_miFP0 hw (x_rW E (As := [.ref h0, .int 1, .int z2, .int 0, .int 0]) (rest := []) (mt_L_call l hfl D I J O h0 n t b0 b1 hh ha ad s.heap.size 1 z2 0 0 x z3.1 z3.2 h) blW (x_pcVF0 E hXZ hw) ok_L_call q445 rfl hl.1 rfl (Nat.le_of_ble_eq_true rfl) ⟨Nat.le_of_ble_eq_true rfl, Nat.le_of_ble_eq_true rfl⟩ ⟨Nat.le_of_ble_eq_true rfl, Nat.le_of_ble_eq_true rfl⟩ dL_isRefused_17) (fun _ => rfl) (fun ad4 H locs hw => ?_)
    have hw : fy D (va_A ws0 sz) s.heap H locs (wCl I h0 n t b0 b1 hh z3.2 ++ wHi I O hh ha ad4 z3.2.2.2.1) := hw
    refine lv_bipush (v := (-12)) hx hb dL_isRefused_20 (by decide) ?_
    refine lv_icmp_ne (tgt := 115) hx hb dL_isRefused_22 (by decide) (fun hc => ?_) (fun hc => ?_)
    · rw [if_neg hc] at hf
      refine lv_iconst (v := 0) hx hb dL_isRefused_115 (by decide) ?_
      obtain ⟨he0, hr⟩ := Prod.mk.inj (Option.some.inj hf)
      have he1 := hr
      subst he1
      refine W.widen (k := 6) (n := 36) (Nat.le_of_ble_eq_true rfl) (Nat.le_of_ble_eq_true rfl) ?_
      exact x_zM E ad4 hw (Or.inl rfl) he0 dL_isRefused_116
    · rw [if_pos hc] at hf
      refine W.widen (k := 1) (n := 6) (Nat.le_of_ble_eq_true rfl) (Nat.le_of_ble_eq_true rfl) ?_
      exact k_L_isRefused_25 E hfl hXZ h0 n t b0 b1 hh ha r y0 p1 z3.2 hf ad4 _ _ hw _ (lv_sub hl [0, 1] rfl)
