theorem ok_L_seen : yS yL_seen cL_seen 4 (some .long) 1 := ⟨q788, q0, q787, by decide +kernel, by decide +kernel, by decide +kernel⟩
set_option maxRecDepth 100000 in
set_option maxHeartbeats 4000000 in
theorem k_L_seen_134 {p : Program} {l : Launch} {e : Env} {s : State} {m : MethodId} {args : Array Value} {below : List Frame} {meth : Method} {c : Code} {D : va_G} {I J O : ClassId} (E : fx p s m args meth c cL_seen RL 4 (some .long) D I J O) (h0 : Nat) (n t : Nat → Nat) (b0 b1 hh ha : Nat) (ad : Nat → Nat → Nat)  (r : Int64) : ∀ fu : Nat, ∀ (v1 : Int64) (v3 : Int32) (x : ClC), f_L_seen_134 fu v1 v3 x = some r → va_P D vwCl (wCl I h0 n t b0 b1 hh x ++ wHi I O hh ha ad x.2.2.1) s.heap → ∀ ls : Array Slot, lv_has ls 4 [(0, .ref h0), (1, .long v1), (3, .int v3)] → W p l e (rmB 6 126 0 0) s m args below meth c s.heap [] 0 0 (MQ below (qRl r) args s 0 0 (fun _ => False)) (F0 m 134 ls []) := by
  have hx := E.1
  have hb := E.2.1
  intro fu
  induction fu with
  | zero =>
    intro v1 v3 x hf hP ls hl
    rw [f_L_seen_134.eq_1] at hf
    cases hf
  | succ fu ih =>
    intro v1 v3 x hf hP ls hl
    rw [f_L_seen_134.eq_2] at hf
    refine lv_iload_n hx hb dL_seen_134 rfl (lv_at hl 2 rfl) ?_
    refine lv_bipush (v := 12) hx hb dL_seen_135 (by decide) ?_
    refine lv_icmp_ge (tgt := 164) hx hb dL_seen_137 (by decide) (fun hc => ?_) (fun hc => ?_)
    · rw [if_pos hc] at hf
      refine lv_lload_n hx hb dL_seen_164 rfl (lv_at hl 1 rfl) ?_
      exact x_lR E (Option.some.inj hf) dL_seen_165
    · rw [if_neg hc] at hf
      refine lv_ldc2 (v := 31) hx hb E.2.2.2.1 (E.2.2.2.2.1 _ q790) dL_seen_140 ?_
      refine lv_lload_n hx hb dL_seen_143 rfl (lv_at hl 1 rfl) ?_
      refine lv_lmul hx hb dL_seen_144 ?_
      refine lv_aload_n hx hb dL_seen_145 rfl (lv_at hl 0 rfl) ?_
      refine lv_iload_n hx hb dL_seen_146 rfl (lv_at hl 2 rfl) ?_
      refine lv_iconst (v := 3) hx hb dL_seen_147 (by decide) ?_
      refine lv_idiv hx hb dL_seen_148 (by decide) ?_
      refine lv_iload_n hx hb dL_seen_149 rfl (lv_at hl 2 rfl) ?_
      refine lv_iconst (v := 3) hx hb dL_seen_150 (by decide) ?_
      refine lv_irem hx hb dL_seen_151 (by decide) ?_
      obtain ⟨z9, h, hf⟩ := rt_s hf
      refine x_ci (x_rV E (As := [.int (v3 / 3), .int (v3 - v3 / 3 * 3)]) (rest := [.long (31 * v1)]) (mt_X5_walker l D I J O h0 n t b0 b1 hh ha ad (v3 / 3) (v3 - v3 / 3 * 3) x z9 h) blR (x_recv E hP 0 5 rfl rfl rfl) (x_pcR E hP) ok_X5_walker q644 rfl hl.1 rfl (Nat.le_of_ble_eq_true rfl) ⟨Nat.le_of_ble_eq_true rfl, Nat.le_of_ble_eq_true rfl⟩ ⟨Nat.le_of_ble_eq_true rfl, Nat.le_of_ble_eq_true rfl⟩ dL_seen_152) ?_
      refine lv_i2l (v := z9.toInt64) hx hb dL_seen_155 rfl ?_
      refine lv_ladd hx hb dL_seen_156 ?_
      refine lv_lstore_n (lv' := [(1, .long ((31 * v1) + z9.toInt64)), (0, .ref h0), (3, .int v3)]) hx hb dL_seen_157 rfl hl (by decide) rfl (fun ls hl => ?_)
      refine lv_iinc (v := v3 + 1) (lv' := [(3, .int (v3 + 1)), (1, .long ((31 * v1) + z9.toInt64)), (0, .ref h0)]) hx hb dL_seen_158 hl (k := 2) rfl rfl (by decide) rfl (fun ls hl => ?_)
      refine lv_goto (tgt := 134) hx hb dL_seen_161 (by decide) ?_
      exact ih ((31 * v1) + z9.toInt64) (v3 + 1) x hf hP _ (lv_sub hl [2, 1, 0] rfl)
set_option maxRecDepth 100000 in
set_option maxHeartbeats 4000000 in
theorem k_L_seen_91 {p : Program} {l : Launch} {e : Env} {s : State} {m : MethodId} {args : Array Value} {below : List Frame} {meth : Method} {c : Code} {D : va_G} {I J O : ClassId} (E : fx p s m args meth c cL_seen RL 4 (some .long) D I J O) (h0 : Nat) (n t : Nat → Nat) (b0 b1 hh ha : Nat) (ad : Nat → Nat → Nat)  (r : Int64) : ∀ fu : Nat, ∀ (v1 : Int64) (v3 : Int32) (x : ClC), f_L_seen_91 fu v1 v3 x = some r → va_P D vwCl (wCl I h0 n t b0 b1 hh x ++ wHi I O hh ha ad x.2.2.1) s.heap → ∀ ls : Array Slot, lv_has ls 4 [(0, .ref h0), (1, .long v1), (3, .int v3)] → W p l e (rmB 6 126 0 0) s m args below meth c s.heap [] 0 0 (MQ below (qRl r) args s 0 0 (fun _ => False)) (F0 m 91 ls []) := by
  have hx := E.1
  have hb := E.2.1
  intro fu
  induction fu with
  | zero =>
    intro v1 v3 x hf hP ls hl
    rw [f_L_seen_91.eq_1] at hf
    cases hf
  | succ fu ih =>
    intro v1 v3 x hf hP ls hl
    rw [f_L_seen_91.eq_2] at hf
    refine lv_iload_n hx hb dL_seen_91 rfl (lv_at hl 2 rfl) ?_
    refine lv_aload_n hx hb dL_seen_92 rfl (lv_at hl 0 rfl) ?_
    refine lv_iconst (v := 2) hx hb dL_seen_93 (by decide) ?_
    obtain ⟨z6, h, hf⟩ := rt_s hf
    refine x_ci (x_rV E (As := [.int 2]) (rest := [.int v3]) (mt_X5_count l D I J O h0 n t b0 b1 hh ha ad 2 x z6 h) blR (x_recv E hP 0 5 rfl rfl rfl) (x_pcR E hP) ok_X5_count q399 rfl hl.1 rfl (Nat.le_of_ble_eq_true rfl) ⟨Nat.le_of_ble_eq_true rfl, Nat.le_of_ble_eq_true rfl⟩ ⟨Nat.le_of_ble_eq_true rfl, Nat.le_of_ble_eq_true rfl⟩ dL_seen_94) ?_
    refine lv_icmp_ge (tgt := 132) hx hb dL_seen_97 (by decide) (fun hc => ?_) (fun hc => ?_)
    · rw [if_pos hc] at hf
      refine lv_iconst (v := 0) hx hb dL_seen_132 (by decide) ?_
      refine lv_istore_n (lv' := [(3, .int 0), (0, .ref h0), (1, .long v1)]) hx hb dL_seen_133 rfl hl (by decide) rfl (fun ls hl => ?_)
      exact k_L_seen_134 E h0 n t b0 b1 hh ha ad r FU v1 0 x hf hP _ (lv_sub hl [1, 2, 0] rfl)
    · rw [if_neg hc] at hf
      refine lv_ldc2 (v := 31) hx hb E.2.2.2.1 (E.2.2.2.2.1 _ q790) dL_seen_100 ?_
      refine lv_ldc2 (v := 31) hx hb E.2.2.2.1 (E.2.2.2.2.1 _ q790) dL_seen_103 ?_
      refine lv_lload_n hx hb dL_seen_106 rfl (lv_at hl 1 rfl) ?_
      refine lv_lmul hx hb dL_seen_107 ?_
      refine lv_aload_n hx hb dL_seen_108 rfl (lv_at hl 0 rfl) ?_
      refine lv_iload_n hx hb dL_seen_109 rfl (lv_at hl 2 rfl) ?_
      refine lv_iconst (v := 0) hx hb dL_seen_110 (by decide) ?_
      obtain ⟨z7, h, hf⟩ := rt_s hf
      refine x_ci (x_rV E (As := [.int v3, .int 0]) (rest := [.long (31 * v1), .long 31]) (mt_X5_cell l D I J O h0 n t b0 b1 hh ha ad v3 0 x z7 h) blR (x_recv E hP 0 5 rfl rfl rfl) (x_pcR E hP) ok_X5_cell q635 rfl hl.1 rfl (Nat.le_of_ble_eq_true rfl) ⟨Nat.le_of_ble_eq_true rfl, Nat.le_of_ble_eq_true rfl⟩ ⟨Nat.le_of_ble_eq_true rfl, Nat.le_of_ble_eq_true rfl⟩ dL_seen_111) ?_
      refine lv_i2l (v := z7.toInt64) hx hb dL_seen_114 rfl ?_
      refine lv_ladd hx hb dL_seen_115 ?_
      refine lv_lmul hx hb dL_seen_116 ?_
      refine lv_aload_n hx hb dL_seen_117 rfl (lv_at hl 0 rfl) ?_
      refine lv_iload_n hx hb dL_seen_118 rfl (lv_at hl 2 rfl) ?_
      refine lv_iconst (v := 1) hx hb dL_seen_119 (by decide) ?_
      obtain ⟨z8, h, hf⟩ := rt_s hf
      refine x_ci (x_rV E (As := [.int v3, .int 1]) (rest := [.long (31 * ((31 * v1) + z7.toInt64))]) (mt_X5_cell l D I J O h0 n t b0 b1 hh ha ad v3 1 x z8 h) blR (x_recv E hP 0 5 rfl rfl rfl) (x_pcR E hP) ok_X5_cell q635 rfl hl.1 rfl (Nat.le_of_ble_eq_true rfl) ⟨Nat.le_of_ble_eq_true rfl, Nat.le_of_ble_eq_true rfl⟩ ⟨Nat.le_of_ble_eq_true rfl, Nat.le_of_ble_eq_true rfl⟩ dL_seen_120) ?_
      refine lv_i2l (v := z8.toInt64) hx hb dL_seen_123 rfl ?_
      refine lv_ladd hx hb dL_seen_124 ?_
      refine lv_lstore_n (lv' := [(1, .long ((31 * ((31 * v1) + z7.toInt64)) + z8.toInt64)), (0, .ref h0), (3, .int v3)]) hx hb dL_seen_125 rfl hl (by decide) rfl (fun ls hl => ?_)
      refine lv_iinc (v := v3 + 1) (lv' := [(3, .int (v3 + 1)), (1, .long ((31 * ((31 * v1) + z7.toInt64)) + z8.toInt64)), (0, .ref h0)]) hx hb dL_seen_126 hl (k := 2) rfl rfl (by decide) rfl (fun ls hl => ?_)
      refine lv_goto (tgt := 91) hx hb dL_seen_129 (by decide) ?_
      exact ih ((31 * ((31 * v1) + z7.toInt64)) + z8.toInt64) (v3 + 1) x hf hP _ (lv_sub hl [2, 1, 0] rfl)
set_option maxRecDepth 100000 in
set_option maxHeartbeats 4000000 in
theorem k_L_seen_33 {p : Program} {l : Launch} {e : Env} {s : State} {m : MethodId} {args : Array Value} {below : List Frame} {meth : Method} {c : Code} {D : va_G} {I J O : ClassId} (E : fx p s m args meth c cL_seen RL 4 (some .long) D I J O) (h0 : Nat) (n t : Nat → Nat) (b0 b1 hh ha : Nat) (ad : Nat → Nat → Nat)  (r : Int64) : ∀ fu : Nat, ∀ (v1 : Int64) (v3 : Int32) (x : ClC), f_L_seen_33 fu v1 v3 x = some r → va_P D vwCl (wCl I h0 n t b0 b1 hh x ++ wHi I O hh ha ad x.2.2.1) s.heap → ∀ ls : Array Slot, lv_has ls 4 [(0, .ref h0), (1, .long v1), (3, .int v3)] → W p l e (rmB 6 126 0 0) s m args below meth c s.heap [] 0 0 (MQ below (qRl r) args s 0 0 (fun _ => False)) (F0 m 33 ls []) := by
  have hx := E.1
  have hb := E.2.1
  intro fu
  induction fu with
  | zero =>
    intro v1 v3 x hf hP ls hl
    rw [f_L_seen_33.eq_1] at hf
    cases hf
  | succ fu ih =>
    intro v1 v3 x hf hP ls hl
    rw [f_L_seen_33.eq_2] at hf
    refine lv_iload_n hx hb dL_seen_33 rfl (lv_at hl 2 rfl) ?_
    refine lv_bipush (v := 6) hx hb dL_seen_34 (by decide) ?_
    refine lv_aload_n hx hb dL_seen_36 rfl (lv_at hl 0 rfl) ?_
    refine lv_iconst (v := 0) hx hb dL_seen_37 (by decide) ?_
    obtain ⟨z2, h, hf⟩ := rt_s hf
    refine x_ci (x_rV E (As := [.int 0]) (rest := [.int 6, .int v3]) (mt_X5_count l D I J O h0 n t b0 b1 hh ha ad 0 x z2 h) blR (x_recv E hP 0 5 rfl rfl rfl) (x_pcR E hP) ok_X5_count q399 rfl hl.1 rfl (Nat.le_of_ble_eq_true rfl) ⟨Nat.le_of_ble_eq_true rfl, Nat.le_of_ble_eq_true rfl⟩ ⟨Nat.le_of_ble_eq_true rfl, Nat.le_of_ble_eq_true rfl⟩ dL_seen_38) ?_
    refine lv_imul hx hb dL_seen_41 ?_
    refine lv_icmp_ge (tgt := 89) hx hb dL_seen_42 (by decide) (fun hc => ?_) (fun hc => ?_)
    · rw [if_pos hc] at hf
      refine lv_iconst (v := 0) hx hb dL_seen_89 (by decide) ?_
      refine lv_istore_n (lv' := [(3, .int 0), (0, .ref h0), (1, .long v1)]) hx hb dL_seen_90 rfl hl (by decide) rfl (fun ls hl => ?_)
      exact k_L_seen_91 E h0 n t b0 b1 hh ha ad r FU v1 0 x hf hP _ (lv_sub hl [1, 2, 0] rfl)
    · rw [if_neg hc] at hf
      refine lv_ldc2 (v := 31) hx hb E.2.2.2.1 (E.2.2.2.2.1 _ q790) dL_seen_45 ?_
      refine lv_ldc2 (v := 31) hx hb E.2.2.2.1 (E.2.2.2.2.1 _ q790) dL_seen_48 ?_
      refine lv_lload_n hx hb dL_seen_51 rfl (lv_at hl 1 rfl) ?_
      refine lv_lmul hx hb dL_seen_52 ?_
      refine lv_aload_n hx hb dL_seen_53 rfl (lv_at hl 0 rfl) ?_
      refine lv_iload_n hx hb dL_seen_54 rfl (lv_at hl 2 rfl) ?_
      refine lv_bipush (v := 6) hx hb dL_seen_55 (by decide) ?_
      refine lv_idiv hx hb dL_seen_57 (by decide) ?_
      obtain ⟨z3, h, hf⟩ := rt_s hf
      refine x_ci (x_rV E (As := [.int (v3 / 6)]) (rest := [.long (31 * v1), .long 31]) (mt_X5_at l D I J O h0 n t b0 b1 hh ha ad (v3 / 6) x z3 h) blR (x_recv E hP 0 5 rfl rfl rfl) (x_pcR E hP) ok_X5_at q371 rfl hl.1 rfl (Nat.le_of_ble_eq_true rfl) ⟨Nat.le_of_ble_eq_true rfl, Nat.le_of_ble_eq_true rfl⟩ ⟨Nat.le_of_ble_eq_true rfl, Nat.le_of_ble_eq_true rfl⟩ dL_seen_58) ?_
      refine lv_i2l (v := z3.toInt64) hx hb dL_seen_61 rfl ?_
      refine lv_ladd hx hb dL_seen_62 ?_
      refine lv_lmul hx hb dL_seen_63 ?_
      refine lv_aload_n hx hb dL_seen_64 rfl (lv_at hl 0 rfl) ?_
      refine lv_aload_n hx hb dL_seen_65 rfl (lv_at hl 0 rfl) ?_
      refine lv_iload_n hx hb dL_seen_66 rfl (lv_at hl 2 rfl) ?_
      refine lv_bipush (v := 6) hx hb dL_seen_67 (by decide) ?_
      refine lv_idiv hx hb dL_seen_69 (by decide) ?_
      obtain ⟨z4, h, hf⟩ := rt_s hf
      refine x_ci (x_rV E (As := [.int (v3 / 6)]) (rest := [.ref h0, .long (31 * ((31 * v1) + z3.toInt64))]) (mt_X5_at l D I J O h0 n t b0 b1 hh ha ad (v3 / 6) x z4 h) blR (x_recv E hP 0 5 rfl rfl rfl) (x_pcR E hP) ok_X5_at q371 rfl hl.1 rfl (Nat.le_of_ble_eq_true rfl) ⟨Nat.le_of_ble_eq_true rfl, Nat.le_of_ble_eq_true rfl⟩ ⟨Nat.le_of_ble_eq_true rfl, Nat.le_of_ble_eq_true rfl⟩ dL_seen_70) ?_
      refine lv_iload_n hx hb dL_seen_73 rfl (lv_at hl 2 rfl) ?_
      refine lv_bipush (v := 6) hx hb dL_seen_74 (by decide) ?_
      refine lv_irem hx hb dL_seen_76 (by decide) ?_
      obtain ⟨z5, h, hf⟩ := rt_s hf
      refine x_ci (x_rV E (As := [.int z4, .int (v3 - v3 / 6 * 6)]) (rest := [.long (31 * ((31 * v1) + z3.toInt64))]) (mt_X5_thing l D I J O h0 n t b0 b1 hh ha ad z4 (v3 - v3 / 6 * 6) x z5 h) blR (x_recv E hP 0 5 rfl rfl rfl) (x_pcR E hP) ok_X5_thing q622 rfl hl.1 rfl (Nat.le_of_ble_eq_true rfl) ⟨Nat.le_of_ble_eq_true rfl, Nat.le_of_ble_eq_true rfl⟩ ⟨Nat.le_of_ble_eq_true rfl, Nat.le_of_ble_eq_true rfl⟩ dL_seen_77) ?_
      refine lv_i2l (v := z5.toInt64) hx hb dL_seen_80 rfl ?_
      refine lv_ladd hx hb dL_seen_81 ?_
      refine lv_lstore_n (lv' := [(1, .long ((31 * ((31 * v1) + z3.toInt64)) + z5.toInt64)), (0, .ref h0), (3, .int v3)]) hx hb dL_seen_82 rfl hl (by decide) rfl (fun ls hl => ?_)
      refine lv_iinc (v := v3 + 1) (lv' := [(3, .int (v3 + 1)), (1, .long ((31 * ((31 * v1) + z3.toInt64)) + z5.toInt64)), (0, .ref h0)]) hx hb dL_seen_83 hl (k := 2) rfl rfl (by decide) rfl (fun ls hl => ?_)
      refine lv_goto (tgt := 33) hx hb dL_seen_86 (by decide) ?_
      exact ih ((31 * ((31 * v1) + z3.toInt64)) + z5.toInt64) (v3 + 1) x hf hP _ (lv_sub hl [2, 1, 0] rfl)
set_option maxRecDepth 100000 in
set_option maxHeartbeats 4000000 in
theorem k_L_seen_6 {p : Program} {l : Launch} {e : Env} {s : State} {m : MethodId} {args : Array Value} {below : List Frame} {meth : Method} {c : Code} {D : va_G} {I J O : ClassId} (E : fx p s m args meth c cL_seen RL 4 (some .long) D I J O) (h0 : Nat) (n t : Nat → Nat) (b0 b1 hh ha : Nat) (ad : Nat → Nat → Nat)  (r : Int64) : ∀ fu : Nat, ∀ (v1 : Int64) (v3 : Int32) (x : ClC), f_L_seen_6 fu v1 v3 x = some r → va_P D vwCl (wCl I h0 n t b0 b1 hh x ++ wHi I O hh ha ad x.2.2.1) s.heap → ∀ ls : Array Slot, lv_has ls 4 [(0, .ref h0), (1, .long v1), (3, .int v3)] → W p l e (rmB 6 126 0 0) s m args below meth c s.heap [] 0 0 (MQ below (qRl r) args s 0 0 (fun _ => False)) (F0 m 6 ls []) := by
  have hx := E.1
  have hb := E.2.1
  intro fu
  induction fu with
  | zero =>
    intro v1 v3 x hf hP ls hl
    rw [f_L_seen_6.eq_1] at hf
    cases hf
  | succ fu ih =>
    intro v1 v3 x hf hP ls hl
    rw [f_L_seen_6.eq_2] at hf
    refine lv_iload_n hx hb dL_seen_6 rfl (lv_at hl 2 rfl) ?_
    refine lv_bipush (v := 9) hx hb dL_seen_7 (by decide) ?_
    refine lv_icmp_ge (tgt := 31) hx hb dL_seen_9 (by decide) (fun hc => ?_) (fun hc => ?_)
    · rw [if_pos hc] at hf
      refine lv_iconst (v := 0) hx hb dL_seen_31 (by decide) ?_
      refine lv_istore_n (lv' := [(3, .int 0), (0, .ref h0), (1, .long v1)]) hx hb dL_seen_32 rfl hl (by decide) rfl (fun ls hl => ?_)
      exact k_L_seen_33 E h0 n t b0 b1 hh ha ad r FU v1 0 x hf hP _ (lv_sub hl [1, 2, 0] rfl)
    · rw [if_neg hc] at hf
      refine lv_ldc2 (v := 31) hx hb E.2.2.2.1 (E.2.2.2.2.1 _ q790) dL_seen_12 ?_
      refine lv_lload_n hx hb dL_seen_15 rfl (lv_at hl 1 rfl) ?_
      refine lv_lmul hx hb dL_seen_16 ?_
      refine lv_aload_n hx hb dL_seen_17 rfl (lv_at hl 0 rfl) ?_
      refine lv_iload_n hx hb dL_seen_18 rfl (lv_at hl 2 rfl) ?_
      obtain ⟨z1, h, hf⟩ := rt_s hf
      refine x_ci (x_rV E (As := [.int v3]) (rest := [.long (31 * v1)]) (mt_X5_count l D I J O h0 n t b0 b1 hh ha ad v3 x z1 h) blR (x_recv E hP 0 5 rfl rfl rfl) (x_pcR E hP) ok_X5_count q399 rfl hl.1 rfl (Nat.le_of_ble_eq_true rfl) ⟨Nat.le_of_ble_eq_true rfl, Nat.le_of_ble_eq_true rfl⟩ ⟨Nat.le_of_ble_eq_true rfl, Nat.le_of_ble_eq_true rfl⟩ dL_seen_19) ?_
      refine lv_i2l (v := z1.toInt64) hx hb dL_seen_22 rfl ?_
      refine lv_ladd hx hb dL_seen_23 ?_
      refine lv_lstore_n (lv' := [(1, .long ((31 * v1) + z1.toInt64)), (0, .ref h0), (3, .int v3)]) hx hb dL_seen_24 rfl hl (by decide) rfl (fun ls hl => ?_)
      refine lv_iinc (v := v3 + 1) (lv' := [(3, .int (v3 + 1)), (1, .long ((31 * v1) + z1.toInt64)), (0, .ref h0)]) hx hb dL_seen_25 hl (k := 2) rfl rfl (by decide) rfl (fun ls hl => ?_)
      refine lv_goto (tgt := 6) hx hb dL_seen_28 (by decide) ?_
      exact ih ((31 * v1) + z1.toInt64) (v3 + 1) x hf hP _ (lv_sub hl [2, 1, 0] rfl)
set_option maxRecDepth 100000 in
set_option maxHeartbeats 4000000 in
theorem mt_L_seen (l : Launch) (D : va_G) (I J O : ClassId) (h0 : Nat) (n t : Nat → Nat) (b0 b1 hh ha : Nat) (ad : Nat → Nat → Nat)  (x : ClC) (r : Int64) (hf : f_L_seen x = some r) : mR l yL_seen cL_seen 4 (some .long) 6 126 D I J O [.ref h0] (wCl I h0 n t b0 b1 hh x ++ wHi I O hh ha ad x.2.2.1) (qRl r) := by
  refine mR_open (own := RL) rfl (by decide +kernel) (Nat.le_of_ble_eq_true rfl) (fun p e s m below meth c ls E hP hl => ?_)
  have hx := E.1
  have hb := E.2.1
  have hl : lv_has ls 4 [(0, .ref h0)] := hl
  unfold f_L_seen at hf
  refine lv_ldc2 (v := 89) hx hb E.2.2.2.1 (E.2.2.2.2.1 _ q789) dL_seen_0 ?_
  refine lv_lstore_n (lv' := [(1, .long 89), (0, .ref h0)]) hx hb dL_seen_3 rfl hl (by decide) rfl (fun ls hl => ?_)
  refine lv_iconst (v := 0) hx hb dL_seen_4 (by decide) ?_
  refine lv_istore_n (lv' := [(3, .int 0), (1, .long 89), (0, .ref h0)]) hx hb dL_seen_5 rfl hl (by decide) rfl (fun ls hl => ?_)
  exact k_L_seen_6 E h0 n t b0 b1 hh ha ad r FU 89 0 x hf hP _ (lv_sub hl [2, 1, 0] rfl)
