theorem ok_X5_bitsOfShare : yS yX5_bitsOfShare cX5_bitsOfShare 7 (some .long) 1 := ⟨q725, q1, q724, by decide +kernel, by decide +kernel, by decide +kernel⟩
set_option maxRecDepth 100000 in
set_option maxHeartbeats 4000000 in
theorem k_X5_bitsOfShare_49 {p : Program} {l : Launch} {e : Env} {s : State} {m : MethodId} {args : Array Value} {below : List Frame} {meth : Method} {c : Code} {D : va_G} {I J O : ClassId} (E : fx p s m args meth c cX5_bitsOfShare RX5 7 (some .long) D I J O)  (r : Int64) : ∀ (v2 : UInt64) (v4 : Int64) , f_X5_bitsOfShare_49 v2 v4 = some r → ∀ ls : Array Slot, lv_has ls 7 [(2, .double v2), (4, .long v4)] → W p l e (rmB 0 0 0 0) s m args below meth c s.heap [] 0 0 (MQ below (qRl r) args s 0 0 (fun _ => False)) (F0 m 49 ls []) := by
  have hx := E.1
  have hb := E.2.1
  intro v2 v4 hf ls hl
  unfold f_X5_bitsOfShare_49 at hf
  refine lv_lload hx hb dX5_bitsOfShare_49 (lv_at hl 1 rfl) ?_
  refine lv_bipush (v := 52) hx hb dX5_bitsOfShare_51 (by decide) ?_
  refine lv_lshl (v := v4 <<< ((52 : Int32).toInt64 &&& 63)) hx hb dX5_bitsOfShare_53 rfl ?_
  refine lv_dload_n hx hb dX5_bitsOfShare_54 rfl (lv_at hl 0 rfl) ?_
  refine lv_dconst1 hx hb dX5_bitsOfShare_55 ?_
  obtain ⟨g, hf⟩ := gf_s hf
  refine lv_dsub hx hb dX5_bitsOfShare_56 g ?_
  refine lv_ldc2d (v := 4841369599423283200) hx hb E.2.2.2.1 (E.2.2.2.2.1 _ q728) dX5_bitsOfShare_57 ?_
  obtain ⟨g, hf⟩ := gf_s hf
  refine lv_dmul hx hb dX5_bitsOfShare_60 g ?_
  refine lv_d2l hx hb dX5_bitsOfShare_61 ?_
  refine lv_ladd hx hb dX5_bitsOfShare_62 ?_
  exact x_lR E (Option.some.inj hf) dX5_bitsOfShare_63
set_option maxRecDepth 100000 in
set_option maxHeartbeats 4000000 in
theorem k_X5_bitsOfShare_18 {p : Program} {l : Launch} {e : Env} {s : State} {m : MethodId} {args : Array Value} {below : List Frame} {meth : Method} {c : Code} {D : va_G} {I J O : ClassId} (E : fx p s m args meth c cX5_bitsOfShare RX5 7 (some .long) D I J O)  (r : Int64) : ∀ fu : Nat, ∀ (v2 : UInt64) (v4 : Int64) (v6 : Int32) , f_X5_bitsOfShare_18 fu v2 v4 v6 = some r → ∀ ls : Array Slot, lv_has ls 7 [(2, .double v2), (4, .long v4), (6, .int v6)] → W p l e (rmB 0 0 0 0) s m args below meth c s.heap [] 0 0 (MQ below (qRl r) args s 0 0 (fun _ => False)) (F0 m 18 ls []) := by
  have hx := E.1
  have hb := E.2.1
  intro fu
  induction fu with
  | zero =>
    intro v2 v4 v6 hf ls hl
    rw [f_X5_bitsOfShare_18.eq_1] at hf
    cases hf
  | succ fu ih =>
    intro v2 v4 v6 hf ls hl
    rw [f_X5_bitsOfShare_18.eq_2] at hf
    refine lv_iload hx hb dX5_bitsOfShare_18 (lv_at hl 2 rfl) ?_
    refine lv_bipush (v := 6) hx hb dX5_bitsOfShare_20 (by decide) ?_
    refine lv_icmp_ge (tgt := 49) hx hb dX5_bitsOfShare_22 (by decide) (fun hc => ?_) (fun hc => ?_)
    · rw [if_pos hc] at hf
      exact k_X5_bitsOfShare_49 E r v2 v4 hf _ (lv_sub hl [0, 1] rfl)
    · rw [if_neg hc] at hf
      refine lv_dload_n hx hb dX5_bitsOfShare_25 rfl (lv_at hl 0 rfl) ?_
      refine lv_dconst1 hx hb dX5_bitsOfShare_26 ?_
      refine lv_dcmp hx hb dX5_bitsOfShare_27 ?_
      refine lv_if_ge (tgt := 49) hx hb dX5_bitsOfShare_28 (by decide) (fun hc => ?_) (fun hc => ?_)
      · rw [if_pos hc] at hf
        exact k_X5_bitsOfShare_49 E r v2 v4 hf _ (lv_sub hl [0, 1] rfl)
      · rw [if_neg hc] at hf
        refine lv_dload_n hx hb dX5_bitsOfShare_31 rfl (lv_at hl 0 rfl) ?_
        refine lv_ldc2d (v := 4611686018427387904) hx hb E.2.2.2.1 (E.2.2.2.2.1 _ q727) dX5_bitsOfShare_32 ?_
        obtain ⟨g, hf⟩ := gf_s hf
        refine lv_dmul hx hb dX5_bitsOfShare_35 g ?_
        refine lv_dstore_n (lv' := [(2, .double (FP.dmul v2 4611686018427387904)), (4, .long v4), (6, .int v6)]) hx hb dX5_bitsOfShare_36 rfl hl (by decide) rfl (fun ls hl => ?_)
        refine lv_lload hx hb dX5_bitsOfShare_37 (lv_at hl 1 rfl) ?_
        refine lv_lconst (v := 1) hx hb dX5_bitsOfShare_39 (by decide) ?_
        refine lv_lsub hx hb dX5_bitsOfShare_40 ?_
        refine lv_lstore (lv' := [(4, .long (v4 - 1)), (2, .double (FP.dmul v2 4611686018427387904)), (6, .int v6)]) hx hb dX5_bitsOfShare_41 hl (by decide) rfl (fun ls hl => ?_)
        refine lv_iinc (v := v6 + 1) (lv' := [(6, .int (v6 + 1)), (4, .long (v4 - 1)), (2, .double (FP.dmul v2 4611686018427387904))]) hx hb dX5_bitsOfShare_43 hl (k := 2) rfl rfl (by decide) rfl (fun ls hl => ?_)
        refine lv_goto (tgt := 18) hx hb dX5_bitsOfShare_46 (by decide) ?_
        exact ih (FP.dmul v2 4611686018427387904) (v4 - 1) (v6 + 1) hf _ (lv_sub hl [2, 1, 0] rfl)
set_option maxRecDepth 100000 in
set_option maxHeartbeats 4000000 in
theorem mt_X5_bitsOfShare (l : Launch) (D : va_G) (I J O : ClassId) (p0 : UInt64)  (r : Int64) (hf : f_X5_bitsOfShare p0 = some r) : mR l yX5_bitsOfShare cX5_bitsOfShare 7 (some .long) 0 0 D I J O [.double p0] ([]) (qRl r) := by
  refine mR_open (own := RX5) rfl (by decide +kernel) (Nat.le_of_ble_eq_true rfl) (fun p e s m below meth c ls E hP hl => ?_)
  have hx := E.1
  have hb := E.2.1
  have hl : lv_has ls 7 [(0, .double p0)] := hl
  unfold f_X5_bitsOfShare at hf
  refine lv_dload_n hx hb dX5_bitsOfShare_0 rfl (lv_at hl 0 rfl) ?_
  refine lv_dconst0 hx hb dX5_bitsOfShare_1 ?_
  refine lv_dcmp hx hb dX5_bitsOfShare_2 ?_
  refine lv_if_gt (tgt := 8) hx hb dX5_bitsOfShare_3 (by decide) (fun hc => ?_) (fun hc => ?_)
  · rw [if_pos hc] at hf
    refine lv_dload_n hx hb dX5_bitsOfShare_8 rfl (lv_at hl 0 rfl) ?_
    refine lv_dstore_n (lv' := [(2, .double p0), (0, .double p0)]) hx hb dX5_bitsOfShare_9 rfl hl (by decide) rfl (fun ls hl => ?_)
    refine lv_ldc2 (v := 1023) hx hb E.2.2.2.1 (E.2.2.2.2.1 _ q726) dX5_bitsOfShare_10 ?_
    refine lv_lstore (lv' := [(4, .long 1023), (2, .double p0), (0, .double p0)]) hx hb dX5_bitsOfShare_13 hl (by decide) rfl (fun ls hl => ?_)
    refine lv_iconst (v := 0) hx hb dX5_bitsOfShare_15 (by decide) ?_
    refine lv_istore (lv' := [(6, .int 0), (4, .long 1023), (2, .double p0), (0, .double p0)]) hx hb dX5_bitsOfShare_16 hl (by decide) rfl (fun ls hl => ?_)
    exact k_X5_bitsOfShare_18 E r FU p0 1023 0 hf _ (lv_sub hl [2, 1, 0] rfl)
  · rw [if_neg hc] at hf
    refine lv_lconst (v := 0) hx hb dX5_bitsOfShare_6 (by decide) ?_
    exact x_lR E (Option.some.inj hf) dX5_bitsOfShare_7
theorem ok_X5_kindOfSign : yS yX5_kindOfSign cX5_kindOfSign 1 (some .int) 1 := ⟨q617, q1, q616, by decide +kernel, by decide +kernel, by decide +kernel⟩
set_option maxRecDepth 100000 in
set_option maxHeartbeats 4000000 in
theorem mt_X5_kindOfSign (l : Launch) (D : va_G) (I J O : ClassId) (p0 : Int32)  (r : Int32) (hf : f_X5_kindOfSign p0 = some r) : mR l yX5_kindOfSign cX5_kindOfSign 1 (some .int) 0 0 D I J O [.int p0] ([]) (qRi r) := by
  refine mR_open (own := RX5) rfl (by decide +kernel) (Nat.le_of_ble_eq_true rfl) (fun p e s m below meth c ls E hP hl => ?_)
  have hx := E.1
  have hb := E.2.1
  have hl : lv_has ls 1 [(0, .int p0)] := hl
  unfold f_X5_kindOfSign at hf
  refine lv_iload_n hx hb dX5_kindOfSign_0 rfl (lv_at hl 0 rfl) ?_
  refine lv_bipush (v := 33) hx hb dX5_kindOfSign_1 (by decide) ?_
  refine lv_icmp_ne (tgt := 8) hx hb dX5_kindOfSign_3 (by decide) (fun hc => ?_) (fun hc => ?_)
  · rw [if_neg hc] at hf
    refine lv_iload_n hx hb dX5_kindOfSign_8 rfl (lv_at hl 0 rfl) ?_
    refine lv_bipush (v := 43) hx hb dX5_kindOfSign_9 (by decide) ?_
    refine lv_icmp_ne (tgt := 18) hx hb dX5_kindOfSign_11 (by decide) (fun hc => ?_) (fun hc => ?_)
    · rw [if_neg hc] at hf
      refine lv_iconst (v := 0) hx hb dX5_kindOfSign_18 (by decide) ?_
      exact x_iR E (Option.some.inj hf) dX5_kindOfSign_19
    · rw [if_pos hc] at hf
      refine lv_iconst (v := 2) hx hb dX5_kindOfSign_14 (by decide) ?_
      refine lv_goto (tgt := 19) hx hb dX5_kindOfSign_15 (by decide) ?_
      exact x_iR E (Option.some.inj hf) dX5_kindOfSign_19
  · rw [if_pos hc] at hf
    refine lv_iconst (v := 1) hx hb dX5_kindOfSign_6 (by decide) ?_
    exact x_iR E (Option.some.inj hf) dX5_kindOfSign_7
theorem ok_X5_isValue : yS yX5_isValue cX5_isValue 1 (some .boolean) 1 := ⟨q460, q1, q459, by decide +kernel, by decide +kernel, by decide +kernel⟩
set_option maxRecDepth 100000 in
set_option maxHeartbeats 4000000 in
theorem mt_X5_isValue (l : Launch) (D : va_G) (I J O : ClassId) (p0 : Int32)  (r : Int32) (hf : f_X5_isValue p0 = some r) : mR l yX5_isValue cX5_isValue 1 (some .boolean) 0 0 D I J O [.int p0] ([]) (qRi r) := by
  refine mR_open (own := RX5) rfl (by decide +kernel) (Nat.le_of_ble_eq_true rfl) (fun p e s m below meth c ls E hP hl => ?_)
  have hx := E.1
  have hb := E.2.1
  have hl : lv_has ls 1 [(0, .int p0)] := hl
  unfold f_X5_isValue at hf
  refine lv_iload_n hx hb dX5_isValue_0 rfl (lv_at hl 0 rfl) ?_
  refine lv_if_lt (tgt := 15) hx hb dX5_isValue_1 (by decide) (fun hc => ?_) (fun hc => ?_)
  · rw [if_pos hc] at hf
    refine lv_iconst (v := 0) hx hb dX5_isValue_15 (by decide) ?_
    exact x_zR E (Or.inl rfl) (Option.some.inj hf) dX5_isValue_16
  · rw [if_neg hc] at hf
    refine lv_iload_n hx hb dX5_isValue_4 rfl (lv_at hl 0 rfl) ?_
    refine lv_sipush (v := 999) hx hb dX5_isValue_5 (by decide) ?_
    refine lv_icmp_gt (tgt := 15) hx hb dX5_isValue_8 (by decide) (fun hc => ?_) (fun hc => ?_)
    · rw [if_pos hc] at hf
      refine lv_iconst (v := 0) hx hb dX5_isValue_15 (by decide) ?_
      exact x_zR E (Or.inl rfl) (Option.some.inj hf) dX5_isValue_16
    · rw [if_neg hc] at hf
      refine lv_iconst (v := 1) hx hb dX5_isValue_11 (by decide) ?_
      refine lv_goto (tgt := 16) hx hb dX5_isValue_12 (by decide) ?_
      exact x_zR E (Or.inr rfl) (Option.some.inj hf) dX5_isValue_16
theorem ok_X5_isSize : yS yX5_isSize cX5_isSize 1 (some .boolean) 1 := ⟨q463, q1, q462, by decide +kernel, by decide +kernel, by decide +kernel⟩
set_option maxRecDepth 100000 in
set_option maxHeartbeats 4000000 in
theorem mt_X5_isSize (l : Launch) (D : va_G) (I J O : ClassId) (p0 : Int32)  (r : Int32) (hf : f_X5_isSize p0 = some r) : mR l yX5_isSize cX5_isSize 1 (some .boolean) 0 0 D I J O [.int p0] ([]) (qRi r) := by
  refine mR_open (own := RX5) rfl (by decide +kernel) (Nat.le_of_ble_eq_true rfl) (fun p e s m below meth c ls E hP hl => ?_)
  have hx := E.1
  have hb := E.2.1
  have hl : lv_has ls 1 [(0, .int p0)] := hl
  unfold f_X5_isSize at hf
  refine lv_iload_n hx hb dX5_isSize_0 rfl (lv_at hl 0 rfl) ?_
  refine lv_iconst (v := 1) hx hb dX5_isSize_1 (by decide) ?_
  refine lv_icmp_lt (tgt := 14) hx hb dX5_isSize_2 (by decide) (fun hc => ?_) (fun hc => ?_)
  · rw [if_pos hc] at hf
    refine lv_iconst (v := 0) hx hb dX5_isSize_14 (by decide) ?_
    exact x_zR E (Or.inl rfl) (Option.some.inj hf) dX5_isSize_15
  · rw [if_neg hc] at hf
    refine lv_iload_n hx hb dX5_isSize_5 rfl (lv_at hl 0 rfl) ?_
    refine lv_iconst (v := 4) hx hb dX5_isSize_6 (by decide) ?_
    refine lv_icmp_gt (tgt := 14) hx hb dX5_isSize_7 (by decide) (fun hc => ?_) (fun hc => ?_)
    · rw [if_pos hc] at hf
      refine lv_iconst (v := 0) hx hb dX5_isSize_14 (by decide) ?_
      exact x_zR E (Or.inl rfl) (Option.some.inj hf) dX5_isSize_15
    · rw [if_neg hc] at hf
      refine lv_iconst (v := 1) hx hb dX5_isSize_10 (by decide) ?_
      refine lv_goto (tgt := 15) hx hb dX5_isSize_11 (by decide) ?_
      exact x_zR E (Or.inr rfl) (Option.some.inj hf) dX5_isSize_15
theorem ok_X5_isThing : yS yX5_isThing cX5_isThing 3 (some .boolean) 3 := ⟨q457, q1, q456, by decide +kernel, by decide +kernel, by decide +kernel⟩
set_option maxRecDepth 100000 in
set_option maxHeartbeats 4000000 in
theorem mt_X5_isThing (l : Launch) (D : va_G) (I J O : ClassId) (p0 : Int32) (p1 : Int32) (p2 : Int32)  (r : Int32) (hf : f_X5_isThing p0 p1 p2 = some r) : mR l yX5_isThing cX5_isThing 3 (some .boolean) 1 20 D I J O [.int p0, .int p1, .int p2] ([]) (qRi r) := by
  refine mR_open (own := RX5) rfl (by decide +kernel) (Nat.le_of_ble_eq_true rfl) (fun p e s m below meth c ls E hP hl => ?_)
  have hx := E.1
  have hb := E.2.1
  have hl : lv_has ls 3 [(0, .int p0), (1, .int p1), (2, .int p2)] := hl
  unfold f_X5_isThing at hf
  refine lv_iload_n hx hb dX5_isThing_0 rfl (lv_at hl 0 rfl) ?_
  obtain ⟨z1, h, hf⟩ := bd_s hf
  refine x_ci (x_rS E (As := [.int p0]) (rest := []) (mt_X5_isValue l D I J O p0 z1 h) blR (x_pcR E x_none) ok_X5_isValue q458 rfl hl.1 rfl (Nat.le_of_ble_eq_true rfl) ⟨Nat.le_of_ble_eq_true rfl, Nat.le_of_ble_eq_true rfl⟩ ⟨Nat.le_of_ble_eq_true rfl, Nat.le_of_ble_eq_true rfl⟩ dX5_isThing_1) ?_
  refine lv_if_eq (tgt := 27) hx hb dX5_isThing_4 (by decide) (fun hc => ?_) (fun hc => ?_)
  · rw [if_pos hc] at hf
    refine lv_iconst (v := 0) hx hb dX5_isThing_27 (by decide) ?_
    exact x_zR E (Or.inl rfl) (Option.some.inj hf) dX5_isThing_28
  · rw [if_neg hc] at hf
    refine lv_iload_n hx hb dX5_isThing_7 rfl (lv_at hl 1 rfl) ?_
    obtain ⟨z2, h, hf⟩ := bd_s hf
    refine x_ci (x_rS E (As := [.int p1]) (rest := []) (mt_X5_isSize l D I J O p1 z2 h) blR (x_pcR E x_none) ok_X5_isSize q461 rfl hl.1 rfl (Nat.le_of_ble_eq_true rfl) ⟨Nat.le_of_ble_eq_true rfl, Nat.le_of_ble_eq_true rfl⟩ ⟨Nat.le_of_ble_eq_true rfl, Nat.le_of_ble_eq_true rfl⟩ dX5_isThing_8) ?_
    refine lv_if_eq (tgt := 27) hx hb dX5_isThing_11 (by decide) (fun hc => ?_) (fun hc => ?_)
    · rw [if_pos hc] at hf
      refine lv_iconst (v := 0) hx hb dX5_isThing_27 (by decide) ?_
      exact x_zR E (Or.inl rfl) (Option.some.inj hf) dX5_isThing_28
    · rw [if_neg hc] at hf
      refine lv_iload_n hx hb dX5_isThing_14 rfl (lv_at hl 2 rfl) ?_
      refine lv_if_lt (tgt := 27) hx hb dX5_isThing_15 (by decide) (fun hc => ?_) (fun hc => ?_)
      · rw [if_pos hc] at hf
        refine lv_iconst (v := 0) hx hb dX5_isThing_27 (by decide) ?_
        exact x_zR E (Or.inl rfl) (Option.some.inj hf) dX5_isThing_28
      · rw [if_neg hc] at hf
        refine lv_iload_n hx hb dX5_isThing_18 rfl (lv_at hl 2 rfl) ?_
        refine lv_iconst (v := 2) hx hb dX5_isThing_19 (by decide) ?_
        refine lv_icmp_gt (tgt := 27) hx hb dX5_isThing_20 (by decide) (fun hc => ?_) (fun hc => ?_)
        · rw [if_pos hc] at hf
          refine lv_iconst (v := 0) hx hb dX5_isThing_27 (by decide) ?_
          exact x_zR E (Or.inl rfl) (Option.some.inj hf) dX5_isThing_28
        · rw [if_neg hc] at hf
          refine lv_iconst (v := 1) hx hb dX5_isThing_23 (by decide) ?_
          refine lv_goto (tgt := 28) hx hb dX5_isThing_24 (by decide) ?_
          exact x_zR E (Or.inr rfl) (Option.some.inj hf) dX5_isThing_28
theorem ok_X5_isWalker : yS yX5_isWalker cX5_isWalker 1 (some .boolean) 1 := ⟨q519, q1, q518, by decide +kernel, by decide +kernel, by decide +kernel⟩
set_option maxRecDepth 100000 in
set_option maxHeartbeats 4000000 in
theorem mt_X5_isWalker (l : Launch) (D : va_G) (I J O : ClassId) (p0 : Int32)  (r : Int32) (hf : f_X5_isWalker p0 = some r) : mR l yX5_isWalker cX5_isWalker 1 (some .boolean) 0 0 D I J O [.int p0] ([]) (qRi r) := by
  refine mR_open (own := RX5) rfl (by decide +kernel) (Nat.le_of_ble_eq_true rfl) (fun p e s m below meth c ls E hP hl => ?_)
  have hx := E.1
  have hb := E.2.1
  have hl : lv_has ls 1 [(0, .int p0)] := hl
  unfold f_X5_isWalker at hf
  refine lv_iload_n hx hb dX5_isWalker_0 rfl (lv_at hl 0 rfl) ?_
  refine lv_if_lt (tgt := 13) hx hb dX5_isWalker_1 (by decide) (fun hc => ?_) (fun hc => ?_)
  · rw [if_pos hc] at hf
    refine lv_iconst (v := 0) hx hb dX5_isWalker_13 (by decide) ?_
    exact x_zR E (Or.inl rfl) (Option.some.inj hf) dX5_isWalker_14
  · rw [if_neg hc] at hf
    refine lv_iload_n hx hb dX5_isWalker_4 rfl (lv_at hl 0 rfl) ?_
    refine lv_iconst (v := 4) hx hb dX5_isWalker_5 (by decide) ?_
    refine lv_icmp_ge (tgt := 13) hx hb dX5_isWalker_6 (by decide) (fun hc => ?_) (fun hc => ?_)
    · rw [if_pos hc] at hf
      refine lv_iconst (v := 0) hx hb dX5_isWalker_13 (by decide) ?_
      exact x_zR E (Or.inl rfl) (Option.some.inj hf) dX5_isWalker_14
    · rw [if_neg hc] at hf
      refine lv_iconst (v := 1) hx hb dX5_isWalker_9 (by decide) ?_
      refine lv_goto (tgt := 14) hx hb dX5_isWalker_10 (by decide) ?_
      exact x_zR E (Or.inr rfl) (Option.some.inj hf) dX5_isWalker_14
