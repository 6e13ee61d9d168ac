theorem ok_X4_size : yV yX4_size cX4_size 1 (some .int) 0 := ⟨q576, q6, q574, q575, by decide +kernel, by decide +kernel, by decide +kernel⟩
set_option maxRecDepth 100000 in
set_option maxHeartbeats 4000000 in
theorem mt_X4_size (l : Launch) (D : va_G) (I J O : ClassId) (a0 a1 : Nat)  (x : TxC) (r : Int32) (hf : f_X4_size x = some r) : mR l yX4_size cX4_size 1 (some .int) 0 0 D I J O [.ref a0] (wTx I a0 a1 x) (qRi r) := by
  refine mR_open (own := RX4) rfl (by decide +kernel) (Nat.le_of_ble_eq_true rfl) (fun p e s m below meth c ls E hP hl => ?_)
  have hx := E.1
  have hb := E.2.1
  have hl : lv_has ls 1 [(0, .ref a0)] := hl
  unfold f_X4_size at hf
  refine lv_aload_n hx hb dX4_size_0 rfl (lv_at hl 0 rfl) ?_
  refine x_get E hP 0 rfl rfl in4 1 (by decide) q125 rfl rfl dX4_size_1 ?_
  exact x_iR E (Option.some.inj hf) dX4_size_4
theorem ok_X4_isFull : yV yX4_isFull cX4_isFull 1 (some .boolean) 0 := ⟨q567, q6, q565, q566, by decide +kernel, by decide +kernel, by decide +kernel⟩
set_option maxRecDepth 100000 in
set_option maxHeartbeats 4000000 in
theorem mt_X4_isFull (l : Launch) (D : va_G) (I J O : ClassId) (a0 a1 : Nat)  (x : TxC) (r : Int32) (hf : f_X4_isFull x = some r) : mR l yX4_isFull cX4_isFull 1 (some .boolean) 0 0 D I J O [.ref a0] (wTx I a0 a1 x) (qRi r) := by
  refine mR_open (own := RX4) rfl (by decide +kernel) (Nat.le_of_ble_eq_true rfl) (fun p e s m below meth c ls E hP hl => ?_)
  have hx := E.1
  have hb := E.2.1
  have hl : lv_has ls 1 [(0, .ref a0)] := hl
  unfold f_X4_isFull at hf
  refine lv_aload_n hx hb dX4_isFull_0 rfl (lv_at hl 0 rfl) ?_
  refine x_get E hP 0 rfl rfl in4 1 (by decide) q125 rfl rfl dX4_isFull_1 ?_
  refine lv_bipush (v := 60) hx hb dX4_isFull_4 (by decide) ?_
  refine lv_icmp_lt (tgt := 13) hx hb dX4_isFull_6 (by decide) (fun hc => ?_) (fun hc => ?_)
  · rw [if_pos hc] at hf
    refine lv_iconst (v := 0) hx hb dX4_isFull_13 (by decide) ?_
    exact x_zR E (Or.inl rfl) (Option.some.inj hf) dX4_isFull_14
  · rw [if_neg hc] at hf
    refine lv_iconst (v := 1) hx hb dX4_isFull_9 (by decide) ?_
    refine lv_goto (tgt := 14) hx hb dX4_isFull_10 (by decide) ?_
    exact x_zR E (Or.inr rfl) (Option.some.inj hf) dX4_isFull_14
theorem ok_X4_add : yV yX4_add cX4_add 2 none 1 := ⟨q572, q6, q570, q571, by decide +kernel, by decide +kernel, by decide +kernel⟩
set_option maxRecDepth 100000 in
set_option maxHeartbeats 4000000 in
theorem mt_X4_add (l : Launch) (D : va_G) (I J O : ClassId) (a0 a1 : Nat) (sz : Nat) (p0 : Int32) (x : TxC) (y0 : TxC) (hf : f_X4_add p0 x = some y0) : mM l yX4_add cX4_add 2 none 0 0 0 0 D I J O sz [.ref a0, .int p0] (wTx I a0 a1 x) (qMv D sz (wTx I a0 a1 x) (fun _ : Unit => wTx I a0 a1 y0)) := by
  refine mM_open (own := RX4) rfl (by decide +kernel) (Nat.le_of_ble_eq_true rfl) (fun p e s m below meth c ls E hnm hsz hw hl => ?_)
  obtain ⟨ws0, hws⟩ : ∃ ws0 : va_W, ws0 = wTx I a0 a1 x := ⟨_, rfl⟩
  have hw : fy D (va_A ws0 sz) s.heap s.heap [] (wTx I a0 a1 x) := by rw [hws]; exact hw
  rw [← hws]
  have hx := E.1
  have hb := E.2.1
  have hl : lv_has ls 2 [(0, .ref a0), (1, .int p0)] := hl
  unfold f_X4_add at hf
  refine lv_aload_n hx hb dX4_add_0 rfl (lv_at hl 0 rfl) ?_
  refine x_get E hw.1 0 rfl rfl in4 1 (by decide) q125 rfl rfl dX4_add_1 ?_
  refine lv_if_lt (tgt := 36) hx hb dX4_add_4 (by decide) (fun hc => ?_) (fun hc => ?_)
  · rw [if_pos hc] at hf
    have he0 := (Option.some.inj hf)
    subst he0
    exact x_vM E () hw dX4_add_36
  · rw [if_neg hc] at hf
    refine lv_aload_n hx hb dX4_add_7 rfl (lv_at hl 0 rfl) ?_
    refine x_get E hw.1 0 rfl rfl in4 1 (by decide) q125 rfl rfl dX4_add_8 ?_
    refine lv_bipush (v := 60) hx hb dX4_add_11 (by decide) ?_
    refine lv_icmp_ge (tgt := 36) hx hb dX4_add_13 (by decide) (fun hc => ?_) (fun hc => ?_)
    · rw [if_pos hc] at hf
      have he0 := (Option.some.inj hf)
      subst he0
      exact x_vM E () hw dX4_add_36
    · rw [if_neg hc] at hf
      refine lv_aload_n hx hb dX4_add_16 rfl (lv_at hl 0 rfl) ?_
      refine x_get E hw.1 0 rfl rfl in4 0 (by decide) q124 rfl rfl dX4_add_17 ?_
      refine lv_aload_n hx hb dX4_add_20 rfl (lv_at hl 0 rfl) ?_
      refine x_get E hw.1 0 rfl rfl in4 1 (by decide) q125 rfl rfl dX4_add_21 ?_
      refine lv_iload_n hx hb dX4_add_24 rfl (lv_at hl 1 rfl) ?_
      obtain ⟨g, hf⟩ := gi_s hf
      refine x_ast E hw 1 rfl g dX4_add_25 (fun H locs hw => ?_)
      have hw : fy D (va_A ws0 sz) s.heap H locs (wTx I a0 a1 ((upd x.1 x.2.toNatClampNeg p0), x.2)) := hw
      refine lv_aload_n hx hb dX4_add_26 rfl (lv_at hl 0 rfl) ?_
      refine lv_dup hx hb dX4_add_27 rfl ?_
      refine x_get E hw.1 0 rfl rfl in4 1 (by decide) q125 rfl rfl dX4_add_28 ?_
      refine lv_iconst (v := 1) hx hb dX4_add_31 (by decide) ?_
      refine lv_iadd hx hb dX4_add_32 ?_
      refine x_put E hw 0 rfl rfl in4 tyX4_ok nmX4 1 (by decide) q125 rfl rfl rfl rfl (Nat.le_of_ble_eq_true rfl) dX4_add_33 (fun H locs hw => ?_)
      have hw : fy D (va_A ws0 sz) s.heap H locs (wTx I a0 a1 ((upd x.1 x.2.toNatClampNeg p0), x.2 + 1)) := hw
      have he0 := (Option.some.inj hf)
      subst he0
      exact x_vM E () hw dX4_add_36
theorem ok_X4_empty : yV yX4_empty cX4_empty 1 none 0 := ⟨q621, q6, q619, q620, by decide +kernel, by decide +kernel, by decide +kernel⟩
set_option maxRecDepth 100000 in
set_option maxHeartbeats 4000000 in
theorem mt_X4_empty (l : Launch) (D : va_G) (I J O : ClassId) (a0 a1 : Nat) (sz : Nat)  (x : TxC) (y0 : TxC) (hf : f_X4_empty x = some y0) : mM l yX4_empty cX4_empty 1 none 0 0 0 0 D I J O sz [.ref a0] (wTx I a0 a1 x) (qMv D sz (wTx I a0 a1 x) (fun _ : Unit => wTx I a0 a1 y0)) := by
  refine mM_open (own := RX4) rfl (by decide +kernel) (Nat.le_of_ble_eq_true rfl) (fun p e s m below meth c ls E hnm hsz hw hl => ?_)
  obtain ⟨ws0, hws⟩ : ∃ ws0 : va_W, ws0 = wTx I a0 a1 x := ⟨_, rfl⟩
  have hw : fy D (va_A ws0 sz) s.heap s.heap [] (wTx I a0 a1 x) := by rw [hws]; exact hw
  rw [← hws]
  have hx := E.1
  have hb := E.2.1
  have hl : lv_has ls 1 [(0, .ref a0)] := hl
  unfold f_X4_empty at hf
  refine lv_aload_n hx hb dX4_empty_0 rfl (lv_at hl 0 rfl) ?_
  refine lv_iconst (v := 0) hx hb dX4_empty_1 (by decide) ?_
  refine x_put E hw 0 rfl rfl in4 tyX4_ok nmX4 1 (by decide) q125 rfl rfl rfl rfl (Nat.le_of_ble_eq_true rfl) dX4_empty_2 (fun H locs hw => ?_)
  have hw : fy D (va_A ws0 sz) s.heap H locs (wTx I a0 a1 (x.1, 0)) := hw
  have he0 := (Option.some.inj hf)
  subst he0
  exact x_vM E () hw dX4_empty_5
theorem ok_X4_codeAt : yV yX4_codeAt cX4_codeAt 2 (some .int) 1 := ⟨q588, q6, q586, q587, by decide +kernel, by decide +kernel, by decide +kernel⟩
set_option maxRecDepth 100000 in
set_option maxHeartbeats 4000000 in
theorem mt_X4_codeAt (l : Launch) (D : va_G) (I J O : ClassId) (a0 a1 : Nat) (p0 : Int32) (x : TxC) (r : Int32) (hf : f_X4_codeAt p0 x = some r) : mR l yX4_codeAt cX4_codeAt 2 (some .int) 0 0 D I J O [.ref a0, .int p0] (wTx I a0 a1 x) (qRi r) := by
  refine mR_open (own := RX4) rfl (by decide +kernel) (Nat.le_of_ble_eq_true rfl) (fun p e s m below meth c ls E hP hl => ?_)
  have hx := E.1
  have hb := E.2.1
  have hl : lv_has ls 2 [(0, .ref a0), (1, .int p0)] := hl
  unfold f_X4_codeAt at hf
  refine lv_iload_n hx hb dX4_codeAt_0 rfl (lv_at hl 1 rfl) ?_
  refine lv_if_lt (tgt := 27) hx hb dX4_codeAt_1 (by decide) (fun hc => ?_) (fun hc => ?_)
  · rw [if_pos hc] at hf
    refine lv_iconst (v := 0) hx hb dX4_codeAt_27 (by decide) ?_
    exact x_iR E (Option.some.inj hf) dX4_codeAt_28
  · rw [if_neg hc] at hf
    refine lv_iload_n hx hb dX4_codeAt_4 rfl (lv_at hl 1 rfl) ?_
    refine lv_aload_n hx hb dX4_codeAt_5 rfl (lv_at hl 0 rfl) ?_
    refine x_get E hP 0 rfl rfl in4 1 (by decide) q125 rfl rfl dX4_codeAt_6 ?_
    refine lv_icmp_ge (tgt := 27) hx hb dX4_codeAt_9 (by decide) (fun hc => ?_) (fun hc => ?_)
    · rw [if_pos hc] at hf
      refine lv_iconst (v := 0) hx hb dX4_codeAt_27 (by decide) ?_
      exact x_iR E (Option.some.inj hf) dX4_codeAt_28
    · rw [if_neg hc] at hf
      refine lv_iload_n hx hb dX4_codeAt_12 rfl (lv_at hl 1 rfl) ?_
      refine lv_bipush (v := 60) hx hb dX4_codeAt_13 (by decide) ?_
      refine lv_icmp_ge (tgt := 27) hx hb dX4_codeAt_15 (by decide) (fun hc => ?_) (fun hc => ?_)
      · rw [if_pos hc] at hf
        refine lv_iconst (v := 0) hx hb dX4_codeAt_27 (by decide) ?_
        exact x_iR E (Option.some.inj hf) dX4_codeAt_28
      · rw [if_neg hc] at hf
        refine lv_aload_n hx hb dX4_codeAt_18 rfl (lv_at hl 0 rfl) ?_
        refine x_get E hP 0 rfl rfl in4 0 (by decide) q124 rfl rfl dX4_codeAt_19 ?_
        refine lv_iload_n hx hb dX4_codeAt_22 rfl (lv_at hl 1 rfl) ?_
        obtain ⟨g, hf⟩ := gi_s hf
        refine x_ald E hP 1 rfl g dX4_codeAt_23 ?_
        refine lv_goto (tgt := 28) hx hb dX4_codeAt_24 (by decide) ?_
        exact x_iR E (Option.some.inj hf) dX4_codeAt_28
theorem ok_X4_indexOf : yV yX4_indexOf cX4_indexOf 4 (some .int) 2 := ⟨q609, q6, q607, q608, by decide +kernel, by decide +kernel, by decide +kernel⟩
set_option maxRecDepth 100000 in
set_option maxHeartbeats 4000000 in
theorem k_X4_indexOf_2 {p : Program} {l : Launch} {e : Env} {s : State} {m : MethodId} {args : Array Value} {below : List Frame} {meth : Method} {c : Code} {D : va_G} {I J O : ClassId} (E : fx p s m args meth c cX4_indexOf RX4 4 (some .int) D I J O) (a0 a1 : Nat)  (r : Int32) : ∀ fu : Nat, ∀ (v1 : Int32) (v3 : Int32) (x : TxC), f_X4_indexOf_2 fu v1 v3 x = some r → va_P D vwCl (wTx I a0 a1 x) s.heap → ∀ ls : Array Slot, lv_has ls 4 [(0, .ref a0), (1, .int v1), (3, .int v3)] → W p l e (rmB 1 21 0 0) s m args below meth c s.heap [] 0 0 (MQ below (qRi r) args s 0 0 (fun _ => False)) (F0 m 2 ls []) := by
  have hx := E.1
  have hb := E.2.1
  intro fu
  induction fu with
  | zero =>
    intro v1 v3 x hf hP ls hl
    rw [f_X4_indexOf_2.eq_1] at hf
    cases hf
  | succ fu ih =>
    intro v1 v3 x hf hP ls hl
    rw [f_X4_indexOf_2.eq_2] at hf
    refine lv_iload_n hx hb dX4_indexOf_2 rfl (lv_at hl 2 rfl) ?_
    refine lv_aload_n hx hb dX4_indexOf_3 rfl (lv_at hl 0 rfl) ?_
    refine x_get E hP 0 rfl rfl in4 1 (by decide) q125 rfl rfl dX4_indexOf_4 ?_
    refine lv_icmp_ge (tgt := 27) hx hb dX4_indexOf_7 (by decide) (fun hc => ?_) (fun hc => ?_)
    · rw [if_pos hc] at hf
      refine lv_aload_n hx hb dX4_indexOf_27 rfl (lv_at hl 0 rfl) ?_
      refine x_get E hP 0 rfl rfl in4 1 (by decide) q125 rfl rfl dX4_indexOf_28 ?_
      exact x_iR E (Option.some.inj hf) dX4_indexOf_31
    · rw [if_neg hc] at hf
      refine lv_aload_n hx hb dX4_indexOf_10 rfl (lv_at hl 0 rfl) ?_
      refine lv_iload_n hx hb dX4_indexOf_11 rfl (lv_at hl 2 rfl) ?_
      obtain ⟨z1, h, hf⟩ := bd_s hf
      refine x_ci (x_rV E (As := [.int v3]) (rest := []) (mt_X4_codeAt l D I J O a0 a1 v3 x z1 h) blR (x_recv E hP 0 4 rfl rfl rfl) (x_pcR E hP) ok_X4_codeAt q585 rfl hl.1 rfl (Nat.le_of_ble_eq_true rfl) ⟨Nat.le_of_ble_eq_true rfl, Nat.le_of_ble_eq_true rfl⟩ ⟨Nat.le_of_ble_eq_true rfl, Nat.le_of_ble_eq_true rfl⟩ dX4_indexOf_12) ?_
      refine lv_iload_n hx hb dX4_indexOf_15 rfl (lv_at hl 1 rfl) ?_
      refine lv_icmp_ne (tgt := 21) hx hb dX4_indexOf_16 (by decide) (fun hc => ?_) (fun hc => ?_)
      · rw [if_neg hc] at hf
        refine lv_iinc (v := v3 + 1) (lv' := [(3, .int (v3 + 1)), (0, .ref a0), (1, .int v1)]) hx hb dX4_indexOf_21 hl (k := 2) rfl rfl (by decide) rfl (fun ls hl => ?_)
        refine lv_goto (tgt := 2) hx hb dX4_indexOf_24 (by decide) ?_
        exact ih v1 (v3 + 1) x hf hP _ (lv_sub hl [1, 2, 0] rfl)
      · rw [if_pos hc] at hf
        refine lv_iload_n hx hb dX4_indexOf_19 rfl (lv_at hl 2 rfl) ?_
        exact x_iR E (Option.some.inj hf) dX4_indexOf_20
set_option maxRecDepth 100000 in
set_option maxHeartbeats 4000000 in
theorem mt_X4_indexOf (l : Launch) (D : va_G) (I J O : ClassId) (a0 a1 : Nat) (p0 : Int32) (p1 : Int32) (x : TxC) (r : Int32) (hf : f_X4_indexOf p0 p1 x = some r) : mR l yX4_indexOf cX4_indexOf 4 (some .int) 1 21 D I J O [.ref a0, .int p0, .int p1] (wTx I a0 a1 x) (qRi r) := by
  refine mR_open (own := RX4) rfl (by decide +kernel) (Nat.le_of_ble_eq_true rfl) (fun p e s m below meth c ls E hP hl => ?_)
  have hx := E.1
  have hb := E.2.1
  have hl : lv_has ls 4 [(0, .ref a0), (1, .int p0), (2, .int p1)] := hl
  unfold f_X4_indexOf at hf
  refine lv_iload_n hx hb dX4_indexOf_0 rfl (lv_at hl 2 rfl) ?_
  refine lv_istore_n (lv' := [(3, .int p1), (0, .ref a0), (1, .int p0), (2, .int p1)]) hx hb dX4_indexOf_1 rfl hl (by decide) rfl (fun ls hl => ?_)
  exact k_X4_indexOf_2 E a0 a1 r FU p0 p1 x hf hP _ (lv_sub hl [1, 2, 0] rfl)
theorem ok_X4_numberIn : yV yX4_numberIn cX4_numberIn 5 (some .int) 2 := ⟨q613, q6, q611, q612, by decide +kernel, by decide +kernel, by decide +kernel⟩
set_option maxRecDepth 100000 in
set_option maxHeartbeats 4000000 in
theorem k_X4_numberIn_5 {p : Program} {l : Launch} {e : Env} {s : State} {m : MethodId} {args : Array Value} {below : List Frame} {meth : Method} {c : Code} {D : va_G} {I J O : ClassId} (E : fx p s m args meth c cX4_numberIn RX4 5 (some .int) D I J O) (a0 a1 : Nat)  (r : Int32) : ∀ fu : Nat, ∀ (v2 : Int32) (v3 : Int32) (v4 : Int32) (x : TxC), f_X4_numberIn_5 fu v2 v3 v4 x = some r → va_P D vwCl (wTx I a0 a1 x) s.heap → ∀ ls : Array Slot, lv_has ls 5 [(0, .ref a0), (2, .int v2), (3, .int v3), (4, .int v4)] → W p l e (rmB 1 21 0 0) s m args below meth c s.heap [] 0 0 (MQ below (qRi r) args s 0 0 (fun _ => False)) (F0 m 5 ls []) := by
  have hx := E.1
  have hb := E.2.1
  intro fu
  induction fu with
  | zero =>
    intro v2 v3 v4 x hf hP ls hl
    rw [f_X4_numberIn_5.eq_1] at hf
    cases hf
  | succ fu ih =>
    intro v2 v3 v4 x hf hP ls hl
    rw [f_X4_numberIn_5.eq_2] at hf
    refine lv_iload hx hb dX4_numberIn_5 (lv_at hl 3 rfl) ?_
    refine lv_iload_n hx hb dX4_numberIn_7 rfl (lv_at hl 1 rfl) ?_
    refine lv_icmp_ge (tgt := 41) hx hb dX4_numberIn_8 (by decide) (fun hc => ?_) (fun hc => ?_)
    · rw [if_pos hc] at hf
      refine lv_iload_n hx hb dX4_numberIn_41 rfl (lv_at hl 2 rfl) ?_
      exact x_iR E (Option.some.inj hf) dX4_numberIn_42
    · rw [if_neg hc] at hf
      refine lv_iload hx hb dX4_numberIn_11 (lv_at hl 3 rfl) ?_
      refine lv_aload_n hx hb dX4_numberIn_13 rfl (lv_at hl 0 rfl) ?_
      refine x_get E hP 0 rfl rfl in4 1 (by decide) q125 rfl rfl dX4_numberIn_14 ?_
      refine lv_icmp_ge (tgt := 41) hx hb dX4_numberIn_17 (by decide) (fun hc => ?_) (fun hc => ?_)
      · rw [if_pos hc] at hf
        refine lv_iload_n hx hb dX4_numberIn_41 rfl (lv_at hl 2 rfl) ?_
        exact x_iR E (Option.some.inj hf) dX4_numberIn_42
      · rw [if_neg hc] at hf
        refine lv_bipush (v := 10) hx hb dX4_numberIn_20 (by decide) ?_
        refine lv_iload_n hx hb dX4_numberIn_22 rfl (lv_at hl 2 rfl) ?_
        refine lv_imul hx hb dX4_numberIn_23 ?_
        refine lv_aload_n hx hb dX4_numberIn_24 rfl (lv_at hl 0 rfl) ?_
        refine lv_iload hx hb dX4_numberIn_25 (lv_at hl 3 rfl) ?_
        obtain ⟨z1, h, hf⟩ := bd_s hf
        refine x_ci (x_rV E (As := [.int v4]) (rest := [.int (10 * v3)]) (mt_X4_codeAt l D I J O a0 a1 v4 x z1 h) blR (x_recv E hP 0 4 rfl rfl rfl) (x_pcR E hP) ok_X4_codeAt q585 rfl hl.1 rfl (Nat.le_of_ble_eq_true rfl) ⟨Nat.le_of_ble_eq_true rfl, Nat.le_of_ble_eq_true rfl⟩ ⟨Nat.le_of_ble_eq_true rfl, Nat.le_of_ble_eq_true rfl⟩ dX4_numberIn_27) ?_
        refine lv_iadd hx hb dX4_numberIn_30 ?_
        refine lv_bipush (v := 48) hx hb dX4_numberIn_31 (by decide) ?_
        refine lv_isub hx hb dX4_numberIn_33 ?_
        refine lv_istore_n (lv' := [(3, .int (((10 * v3) + z1) - 48)), (0, .ref a0), (2, .int v2), (4, .int v4)]) hx hb dX4_numberIn_34 rfl hl (by decide) rfl (fun ls hl => ?_)
        refine lv_iinc (v := v4 + 1) (lv' := [(4, .int (v4 + 1)), (3, .int (((10 * v3) + z1) - 48)), (0, .ref a0), (2, .int v2)]) hx hb dX4_numberIn_35 hl (k := 3) rfl rfl (by decide) rfl (fun ls hl => ?_)
        refine lv_goto (tgt := 5) hx hb dX4_numberIn_38 (by decide) ?_
        exact ih v2 (((10 * v3) + z1) - 48) (v4 + 1) x hf hP _ (lv_sub hl [2, 3, 1, 0] rfl)
set_option maxRecDepth 100000 in
set_option maxHeartbeats 4000000 in
theorem mt_X4_numberIn (l : Launch) (D : va_G) (I J O : ClassId) (a0 a1 : Nat) (p0 : Int32) (p1 : Int32) (x : TxC) (r : Int32) (hf : f_X4_numberIn p0 p1 x = some r) : mR l yX4_numberIn cX4_numberIn 5 (some .int) 1 21 D I J O [.ref a0, .int p0, .int p1] (wTx I a0 a1 x) (qRi r) := by
  refine mR_open (own := RX4) rfl (by decide +kernel) (Nat.le_of_ble_eq_true rfl) (fun p e s m below meth c ls E hP hl => ?_)
  have hx := E.1
  have hb := E.2.1
  have hl : lv_has ls 5 [(0, .ref a0), (1, .int p0), (2, .int p1)] := hl
  unfold f_X4_numberIn at hf
  refine lv_iconst (v := 0) hx hb dX4_numberIn_0 (by decide) ?_
  refine lv_istore_n (lv' := [(3, .int 0), (0, .ref a0), (1, .int p0), (2, .int p1)]) hx hb dX4_numberIn_1 rfl hl (by decide) rfl (fun ls hl => ?_)
  refine lv_iload_n hx hb dX4_numberIn_2 rfl (lv_at hl 2 rfl) ?_
  refine lv_istore (lv' := [(4, .int p0), (3, .int 0), (0, .ref a0), (1, .int p0), (2, .int p1)]) hx hb dX4_numberIn_3 hl (by decide) rfl (fun ls hl => ?_)
  exact k_X4_numberIn_5 E a0 a1 r FU p1 0 p0 x hf hP _ (lv_sub hl [2, 4, 1, 0] rfl)
theorem ok_X4_firstDigit : yS yX4_firstDigit cX4_firstDigit 1 (some .int) 1 := ⟨q594, q6, q593, by decide +kernel, by decide +kernel, by decide +kernel⟩
set_option maxRecDepth 100000 in
set_option maxHeartbeats 4000000 in
theorem mt_X4_firstDigit (l : Launch) (D : va_G) (I J O : ClassId) (p0 : Int32)  (r : Int32) (hf : f_X4_firstDigit p0 = some r) : mR l yX4_firstDigit cX4_firstDigit 1 (some .int) 0 0 D I J O [.int p0] ([]) (qRi r) := by
  refine mR_open (own := RX4) rfl (by decide +kernel) (Nat.le_of_ble_eq_true rfl) (fun p e s m below meth c ls E hP hl => ?_)
  have hx := E.1
  have hb := E.2.1
  have hl : lv_has ls 1 [(0, .int p0)] := hl
  unfold f_X4_firstDigit at hf
  refine lv_iload_n hx hb dX4_firstDigit_0 rfl (lv_at hl 0 rfl) ?_
  refine lv_bipush (v := 48) hx hb dX4_firstDigit_1 (by decide) ?_
  refine lv_icmp_ne (tgt := 8) hx hb dX4_firstDigit_3 (by decide) (fun hc => ?_) (fun hc => ?_)
  · rw [if_neg hc] at hf
    refine lv_iload_n hx hb dX4_firstDigit_8 rfl (lv_at hl 0 rfl) ?_
    refine lv_bipush (v := 49) hx hb dX4_firstDigit_9 (by decide) ?_
    refine lv_icmp_lt (tgt := 24) hx hb dX4_firstDigit_11 (by decide) (fun hc => ?_) (fun hc => ?_)
    · rw [if_pos hc] at hf
      refine lv_iconst (v := (-1)) hx hb dX4_firstDigit_24 (by decide) ?_
      exact x_iR E (Option.some.inj hf) dX4_firstDigit_25
    · rw [if_neg hc] at hf
      refine lv_iload_n hx hb dX4_firstDigit_14 rfl (lv_at hl 0 rfl) ?_
      refine lv_bipush (v := 57) hx hb dX4_firstDigit_15 (by decide) ?_
      refine lv_icmp_gt (tgt := 24) hx hb dX4_firstDigit_17 (by decide) (fun hc => ?_) (fun hc => ?_)
      · rw [if_pos hc] at hf
        refine lv_iconst (v := (-1)) hx hb dX4_firstDigit_24 (by decide) ?_
        exact x_iR E (Option.some.inj hf) dX4_firstDigit_25
      · rw [if_neg hc] at hf
        refine lv_iconst (v := 2) hx hb dX4_firstDigit_20 (by decide) ?_
        refine lv_goto (tgt := 25) hx hb dX4_firstDigit_21 (by decide) ?_
        exact x_iR E (Option.some.inj hf) dX4_firstDigit_25
  · rw [if_pos hc] at hf
    refine lv_iconst (v := 1) hx hb dX4_firstDigit_6 (by decide) ?_
    exact x_iR E (Option.some.inj hf) dX4_firstDigit_7
theorem ok_X4_laterDigit : yS yX4_laterDigit cX4_laterDigit 2 (some .int) 2 := ⟨q597, q6, q596, by decide +kernel, by decide +kernel, by decide +kernel⟩
set_option maxRecDepth 100000 in
set_option maxHeartbeats 4000000 in
theorem mt_X4_laterDigit (l : Launch) (D : va_G) (I J O : ClassId) (p0 : Int32) (p1 : Int32)  (r : Int32) (hf : f_X4_laterDigit p0 p1 = some r) : mR l yX4_laterDigit cX4_laterDigit 2 (some .int) 0 0 D I J O [.int p0, .int p1] ([]) (qRi r) := by
  refine mR_open (own := RX4) rfl (by decide +kernel) (Nat.le_of_ble_eq_true rfl) (fun p e s m below meth c ls E hP hl => ?_)
  have hx := E.1
  have hb := E.2.1
  have hl : lv_has ls 2 [(0, .int p0), (1, .int p1)] := hl
  unfold f_X4_laterDigit at hf
  refine lv_iload_n hx hb dX4_laterDigit_0 rfl (lv_at hl 0 rfl) ?_
  refine lv_bipush (v := 42) hx hb dX4_laterDigit_1 (by decide) ?_
  refine lv_icmp_ne (tgt := 8) hx hb dX4_laterDigit_3 (by decide) (fun hc => ?_) (fun hc => ?_)
  · rw [if_neg hc] at hf
    refine lv_iload_n hx hb dX4_laterDigit_8 rfl (lv_at hl 0 rfl) ?_
    refine lv_bipush (v := 48) hx hb dX4_laterDigit_9 (by decide) ?_
    refine lv_icmp_lt (tgt := 24) hx hb dX4_laterDigit_11 (by decide) (fun hc => ?_) (fun hc => ?_)
    · rw [if_pos hc] at hf
      refine lv_iconst (v := (-1)) hx hb dX4_laterDigit_24 (by decide) ?_
      exact x_iR E (Option.some.inj hf) dX4_laterDigit_25
    · rw [if_neg hc] at hf
      refine lv_iload_n hx hb dX4_laterDigit_14 rfl (lv_at hl 0 rfl) ?_
      refine lv_bipush (v := 57) hx hb dX4_laterDigit_15 (by decide) ?_
      refine lv_icmp_gt (tgt := 24) hx hb dX4_laterDigit_17 (by decide) (fun hc => ?_) (fun hc => ?_)
      · rw [if_pos hc] at hf
        refine lv_iconst (v := (-1)) hx hb dX4_laterDigit_24 (by decide) ?_
        exact x_iR E (Option.some.inj hf) dX4_laterDigit_25
      · rw [if_neg hc] at hf
        refine lv_iload_n hx hb dX4_laterDigit_20 rfl (lv_at hl 1 rfl) ?_
        refine lv_goto (tgt := 25) hx hb dX4_laterDigit_21 (by decide) ?_
        exact x_iR E (Option.some.inj hf) dX4_laterDigit_25
  · rw [if_pos hc] at hf
    refine lv_iconst (v := 5) hx hb dX4_laterDigit_6 (by decide) ?_
    exact x_iR E (Option.some.inj hf) dX4_laterDigit_7
theorem ok_X4_behindSize : yS yX4_behindSize cX4_behindSize 1 (some .int) 1 := ⟨q600, q6, q599, by decide +kernel, by decide +kernel, by decide +kernel⟩
set_option maxRecDepth 100000 in
set_option maxHeartbeats 4000000 in
theorem k_X4_behindSize_20 {p : Program} {l : Launch} {e : Env} {s : State} {m : MethodId} {args : Array Value} {below : List Frame} {meth : Method} {c : Code} {D : va_G} {I J O : ClassId} (E : fx p s m args meth c cX4_behindSize RX4 1 (some .int) D I J O)  (r : Int32) : f_X4_behindSize_20  = some r → ∀ ls : Array Slot, lv_has ls 1 [] → W p l e (rmB 0 0 0 0) s m args below meth c s.heap [] 0 0 (MQ below (qRi r) args s 0 0 (fun _ => False)) (F0 m 20 ls []) := by
  have hx := E.1
  have hb := E.2.1
  intro hf ls hl
  unfold f_X4_behindSize_20 at hf
  refine lv_bipush (v := 7) hx hb dX4_behindSize_20 (by decide) ?_
  refine lv_goto (tgt := 26) hx hb dX4_behindSize_22 (by decide) ?_
  exact x_iR E (Option.some.inj hf) dX4_behindSize_26
set_option maxRecDepth 100000 in
set_option maxHeartbeats 4000000 in
theorem mt_X4_behindSize (l : Launch) (D : va_G) (I J O : ClassId) (p0 : Int32)  (r : Int32) (hf : f_X4_behindSize p0 = some r) : mR l yX4_behindSize cX4_behindSize 1 (some .int) 0 0 D I J O [.int p0] ([]) (qRi r) := by
  refine mR_open (own := RX4) rfl (by decide +kernel) (Nat.le_of_ble_eq_true rfl) (fun p e s m below meth c ls E hP hl => ?_)
  have hx := E.1
  have hb := E.2.1
  have hl : lv_has ls 1 [(0, .int p0)] := hl
  unfold f_X4_behindSize at hf
  refine lv_iload_n hx hb dX4_behindSize_0 rfl (lv_at hl 0 rfl) ?_
  refine lv_bipush (v := 44) hx hb dX4_behindSize_1 (by decide) ?_
  refine lv_icmp_ne (tgt := 8) hx hb dX4_behindSize_3 (by decide) (fun hc => ?_) (fun hc => ?_)
  · rw [if_neg hc] at hf
    refine lv_iload_n hx hb dX4_behindSize_8 rfl (lv_at hl 0 rfl) ?_
    refine lv_bipush (v := 33) hx hb dX4_behindSize_9 (by decide) ?_
    refine lv_icmp_eq (tgt := 20) hx hb dX4_behindSize_11 (by decide) (fun hc => ?_) (fun hc => ?_)
    · rw [if_pos hc] at hf
      exact k_X4_behindSize_20 E r hf _ (lv_sub hl [] rfl)
    · rw [if_neg hc] at hf
      refine lv_iload_n hx hb dX4_behindSize_14 rfl (lv_at hl 0 rfl) ?_
      refine lv_bipush (v := 43) hx hb dX4_behindSize_15 (by decide) ?_
      refine lv_icmp_ne (tgt := 25) hx hb dX4_behindSize_17 (by decide) (fun hc => ?_) (fun hc => ?_)
      · rw [if_neg hc] at hf
        refine lv_iconst (v := (-1)) hx hb dX4_behindSize_25 (by decide) ?_
        exact x_iR E (Option.some.inj hf) dX4_behindSize_26
      · rw [if_pos hc] at hf
        exact k_X4_behindSize_20 E r hf _ (lv_sub hl [] rfl)
  · rw [if_pos hc] at hf
    refine lv_iconst (v := 0) hx hb dX4_behindSize_6 (by decide) ?_
    exact x_iR E (Option.some.inj hf) dX4_behindSize_7
theorem ok_X4_stateBehind : yS yX4_stateBehind cX4_stateBehind 2 (some .int) 2 := ⟨q591, q6, q590, by decide +kernel, by decide +kernel, by decide +kernel⟩
set_option maxRecDepth 100000 in
set_option maxHeartbeats 4000000 in
theorem k_X4_stateBehind_53 {p : Program} {l : Launch} {e : Env} {s : State} {m : MethodId} {args : Array Value} {below : List Frame} {meth : Method} {c : Code} {D : va_G} {I J O : ClassId} (E : fx p s m args meth c cX4_stateBehind RX4 2 (some .int) D I J O)  (r : Int32) : ∀ (v1 : Int32) , f_X4_stateBehind_53 v1 = some r → ∀ ls : Array Slot, lv_has ls 2 [(1, .int v1)] → W p l e (rmB 1 21 0 0) s m args below meth c s.heap [] 0 0 (MQ below (qRi r) args s 0 0 (fun _ => False)) (F0 m 53 ls []) := by
  have hx := E.1
  have hb := E.2.1
  intro v1 hf ls hl
  unfold f_X4_stateBehind_53 at hf
  refine lv_iload_n hx hb dX4_stateBehind_53 rfl (lv_at hl 0 rfl) ?_
  refine lv_bipush (v := 42) hx hb dX4_stateBehind_54 (by decide) ?_
  refine lv_icmp_ne (tgt := 63) hx hb dX4_stateBehind_56 (by decide) (fun hc => ?_) (fun hc => ?_)
  · rw [if_neg hc] at hf
    refine lv_iconst (v := (-1)) hx hb dX4_stateBehind_63 (by decide) ?_
    exact x_iR E (Option.some.inj hf) dX4_stateBehind_64
  · rw [if_pos hc] at hf
    refine lv_iconst (v := 5) hx hb dX4_stateBehind_59 (by decide) ?_
    refine lv_goto (tgt := 64) hx hb dX4_stateBehind_60 (by decide) ?_
    exact x_iR E (Option.some.inj hf) dX4_stateBehind_64
set_option maxRecDepth 100000 in
set_option maxHeartbeats 4000000 in
theorem mt_X4_stateBehind (l : Launch) (D : va_G) (I J O : ClassId) (p0 : Int32) (p1 : Int32)  (r : Int32) (hf : f_X4_stateBehind p0 p1 = some r) : mR l yX4_stateBehind cX4_stateBehind 2 (some .int) 1 21 D I J O [.int p0, .int p1] ([]) (qRi r) := by
  refine mR_open (own := RX4) rfl (by decide +kernel) (Nat.le_of_ble_eq_true rfl) (fun p e s m below meth c ls E hP hl => ?_)
  have hx := E.1
  have hb := E.2.1
  have hl : lv_has ls 2 [(0, .int p0), (1, .int p1)] := hl
  unfold f_X4_stateBehind at hf
  refine lv_iload_n hx hb dX4_stateBehind_0 rfl (lv_at hl 0 rfl) ?_
  by_cases hc0 : p0 = 0
  · rw [if_pos hc0] at hf
    refine lv_tableIn (tgt := 48) hx hb dX4_stateBehind_1 (by rw [hc0]; decide) (by rw [hc0]; decide) (by rw [hc0]; rfl) (by decide) ?_
    refine lv_iload_n hx hb dX4_stateBehind_48 rfl (lv_at hl 1 rfl) ?_
    obtain ⟨z1, h, hf⟩ := bd_s hf
    refine x_ci (x_rS E (As := [.int p1]) (rest := []) (mt_X4_firstDigit l D I J O p1 z1 h) blR (x_pcR E x_none) ok_X4_firstDigit q592 rfl hl.1 rfl (Nat.le_of_ble_eq_true rfl) ⟨Nat.le_of_ble_eq_true rfl, Nat.le_of_ble_eq_true rfl⟩ ⟨Nat.le_of_ble_eq_true rfl, Nat.le_of_ble_eq_true rfl⟩ dX4_stateBehind_49) ?_
    exact x_iR E (Option.some.inj hf) dX4_stateBehind_52
  · rw [if_neg hc0] at hf
    by_cases hc1 : p0 = 1
    · rw [if_pos hc1] at hf
      refine lv_tableIn (tgt := 53) hx hb dX4_stateBehind_1 (by rw [hc1]; decide) (by rw [hc1]; decide) (by rw [hc1]; rfl) (by decide) ?_
      exact k_X4_stateBehind_53 E r p1 hf _ (lv_sub hl [1] rfl)
    · rw [if_neg hc1] at hf
      by_cases hc2 : p0 = 2
      · rw [if_pos hc2] at hf
        refine lv_tableIn (tgt := 65) hx hb dX4_stateBehind_1 (by rw [hc2]; decide) (by rw [hc2]; decide) (by rw [hc2]; rfl) (by decide) ?_
        refine lv_iload_n hx hb dX4_stateBehind_65 rfl (lv_at hl 1 rfl) ?_
        refine lv_iconst (v := 3) hx hb dX4_stateBehind_66 (by decide) ?_
        obtain ⟨z2, h, hf⟩ := bd_s hf
        refine x_ci (x_rS E (As := [.int p1, .int 3]) (rest := []) (mt_X4_laterDigit l D I J O p1 3 z2 h) blR (x_pcR E x_none) ok_X4_laterDigit q595 rfl hl.1 rfl (Nat.le_of_ble_eq_true rfl) ⟨Nat.le_of_ble_eq_true rfl, Nat.le_of_ble_eq_true rfl⟩ ⟨Nat.le_of_ble_eq_true rfl, Nat.le_of_ble_eq_true rfl⟩ dX4_stateBehind_67) ?_
        exact x_iR E (Option.some.inj hf) dX4_stateBehind_70
      · rw [if_neg hc2] at hf
        by_cases hc3 : p0 = 3
        · rw [if_pos hc3] at hf
          refine lv_tableIn (tgt := 71) hx hb dX4_stateBehind_1 (by rw [hc3]; decide) (by rw [hc3]; decide) (by rw [hc3]; rfl) (by decide) ?_
          refine lv_iload_n hx hb dX4_stateBehind_71 rfl (lv_at hl 1 rfl) ?_
          refine lv_iconst (v := 4) hx hb dX4_stateBehind_72 (by decide) ?_
          obtain ⟨z3, h, hf⟩ := bd_s hf
          refine x_ci (x_rS E (As := [.int p1, .int 4]) (rest := []) (mt_X4_laterDigit l D I J O p1 4 z3 h) blR (x_pcR E x_none) ok_X4_laterDigit q595 rfl hl.1 rfl (Nat.le_of_ble_eq_true rfl) ⟨Nat.le_of_ble_eq_true rfl, Nat.le_of_ble_eq_true rfl⟩ ⟨Nat.le_of_ble_eq_true rfl, Nat.le_of_ble_eq_true rfl⟩ dX4_stateBehind_73) ?_
          exact x_iR E (Option.some.inj hf) dX4_stateBehind_76
        · rw [if_neg hc3] at hf
          by_cases hc4 : p0 = 4
          · rw [if_pos hc4] at hf
            refine lv_tableIn (tgt := 53) hx hb dX4_stateBehind_1 (by rw [hc4]; decide) (by rw [hc4]; decide) (by rw [hc4]; rfl) (by decide) ?_
            exact k_X4_stateBehind_53 E r p1 hf _ (lv_sub hl [1] rfl)
          · rw [if_neg hc4] at hf
            by_cases hc5 : p0 = 5
            · rw [if_pos hc5] at hf
              refine lv_tableIn (tgt := 77) hx hb dX4_stateBehind_1 (by rw [hc5]; decide) (by rw [hc5]; decide) (by rw [hc5]; rfl) (by decide) ?_
              refine lv_iload_n hx hb dX4_stateBehind_77 rfl (lv_at hl 1 rfl) ?_
              refine lv_bipush (v := 49) hx hb dX4_stateBehind_78 (by decide) ?_
              refine lv_icmp_lt (tgt := 94) hx hb dX4_stateBehind_80 (by decide) (fun hc => ?_) (fun hc => ?_)
              · rw [if_pos hc] at hf
                refine lv_iconst (v := (-1)) hx hb dX4_stateBehind_94 (by decide) ?_
                exact x_iR E (Option.some.inj hf) dX4_stateBehind_95
              · rw [if_neg hc] at hf
                refine lv_iload_n hx hb dX4_stateBehind_83 rfl (lv_at hl 1 rfl) ?_
                refine lv_bipush (v := 52) hx hb dX4_stateBehind_84 (by decide) ?_
                refine lv_icmp_gt (tgt := 94) hx hb dX4_stateBehind_86 (by decide) (fun hc => ?_) (fun hc => ?_)
                · rw [if_pos hc] at hf
                  refine lv_iconst (v := (-1)) hx hb dX4_stateBehind_94 (by decide) ?_
                  exact x_iR E (Option.some.inj hf) dX4_stateBehind_95
                · rw [if_neg hc] at hf
                  refine lv_bipush (v := 6) hx hb dX4_stateBehind_89 (by decide) ?_
                  refine lv_goto (tgt := 95) hx hb dX4_stateBehind_91 (by decide) ?_
                  exact x_iR E (Option.some.inj hf) dX4_stateBehind_95
            · rw [if_neg hc5] at hf
              by_cases hc6 : p0 = 6
              · rw [if_pos hc6] at hf
                refine lv_tableIn (tgt := 96) hx hb dX4_stateBehind_1 (by rw [hc6]; decide) (by rw [hc6]; decide) (by rw [hc6]; rfl) (by decide) ?_
                refine lv_iload_n hx hb dX4_stateBehind_96 rfl (lv_at hl 1 rfl) ?_
                obtain ⟨z4, h, hf⟩ := bd_s hf
                refine x_ci (x_rS E (As := [.int p1]) (rest := []) (mt_X4_behindSize l D I J O p1 z4 h) blR (x_pcR E x_none) ok_X4_behindSize q598 rfl hl.1 rfl (Nat.le_of_ble_eq_true rfl) ⟨Nat.le_of_ble_eq_true rfl, Nat.le_of_ble_eq_true rfl⟩ ⟨Nat.le_of_ble_eq_true rfl, Nat.le_of_ble_eq_true rfl⟩ dX4_stateBehind_97) ?_
                exact x_iR E (Option.some.inj hf) dX4_stateBehind_100
              · rw [if_neg hc6] at hf
                by_cases hc7 : p0 = 7
                · rw [if_pos hc7] at hf
                  refine lv_tableIn (tgt := 101) hx hb dX4_stateBehind_1 (by rw [hc7]; decide) (by rw [hc7]; decide) (by rw [hc7]; rfl) (by decide) ?_
                  refine lv_iload_n hx hb dX4_stateBehind_101 rfl (lv_at hl 1 rfl) ?_
                  refine lv_bipush (v := 44) hx hb dX4_stateBehind_102 (by decide) ?_
                  refine lv_icmp_ne (tgt := 111) hx hb dX4_stateBehind_104 (by decide) (fun hc => ?_) (fun hc => ?_)
                  · rw [if_neg hc] at hf
                    refine lv_iconst (v := (-1)) hx hb dX4_stateBehind_111 (by decide) ?_
                    exact x_iR E (Option.some.inj hf) dX4_stateBehind_112
                  · rw [if_pos hc] at hf
                    refine lv_iconst (v := 0) hx hb dX4_stateBehind_107 (by decide) ?_
                    refine lv_goto (tgt := 112) hx hb dX4_stateBehind_108 (by decide) ?_
                    exact x_iR E (Option.some.inj hf) dX4_stateBehind_112
                · rw [if_neg hc7] at hf
                  refine lv_tableOut (tgt := 113) hx hb dX4_stateBehind_1 (by have q0 := sw_ne 0 0 (by decide) hc0; have q1 := sw_ne 1 1 (by decide) hc1; have q2 := sw_ne 2 2 (by decide) hc2; have q3 := sw_ne 3 3 (by decide) hc3; have q4 := sw_ne 4 4 (by decide) hc4; have q5 := sw_ne 5 5 (by decide) hc5; have q6 := sw_ne 6 6 (by decide) hc6; have q7 := sw_ne 7 7 (by decide) hc7; omega) (by decide) ?_
                  refine lv_iconst (v := (-1)) hx hb dX4_stateBehind_113 (by decide) ?_
                  exact x_iR E (Option.some.inj hf) dX4_stateBehind_114
theorem ok_X4_firstWrong : yV yX4_firstWrong cX4_firstWrong 3 (some .int) 0 := ⟨q763, q6, q761, q762, by decide +kernel, by decide +kernel, by decide +kernel⟩
set_option maxRecDepth 100000 in
set_option maxHeartbeats 4000000 in
theorem k_X4_firstWrong_4 {p : Program} {l : Launch} {e : Env} {s : State} {m : MethodId} {args : Array Value} {below : List Frame} {meth : Method} {c : Code} {D : va_G} {I J O : ClassId} (E : fx p s m args meth c cX4_firstWrong RX4 3 (some .int) D I J O) (a0 a1 : Nat)  (r : Int32) : ∀ fu : Nat, ∀ (v1 : Int32) (v2 : Int32) (x : TxC), f_X4_firstWrong_4 fu v1 v2 x = some r → va_P D vwCl (wTx I a0 a1 x) s.heap → ∀ ls : Array Slot, lv_has ls 3 [(0, .ref a0), (1, .int v1), (2, .int v2)] → W p l e (rmB 2 42 0 0) s m args below meth c s.heap [] 0 0 (MQ below (qRi r) args s 0 0 (fun _ => False)) (F0 m 4 ls []) := by
  have hx := E.1
  have hb := E.2.1
  intro fu
  induction fu with
  | zero =>
    intro v1 v2 x hf hP ls hl
    rw [f_X4_firstWrong_4.eq_1] at hf
    cases hf
  | succ fu ih =>
    intro v1 v2 x hf hP ls hl
    rw [f_X4_firstWrong_4.eq_2] at hf
    refine lv_iload_n hx hb dX4_firstWrong_4 rfl (lv_at hl 2 rfl) ?_
    refine lv_aload_n hx hb dX4_firstWrong_5 rfl (lv_at hl 0 rfl) ?_
    refine x_get E hP 0 rfl rfl in4 1 (by decide) q125 rfl rfl dX4_firstWrong_6 ?_
    refine lv_icmp_ge (tgt := 35) hx hb dX4_firstWrong_9 (by decide) (fun hc => ?_) (fun hc => ?_)
    · rw [if_pos hc] at hf
      refine lv_aload_n hx hb dX4_firstWrong_35 rfl (lv_at hl 0 rfl) ?_
      refine x_get E hP 0 rfl rfl in4 1 (by decide) q125 rfl rfl dX4_firstWrong_36 ?_
      exact x_iR E (Option.some.inj hf) dX4_firstWrong_39
    · rw [if_neg hc] at hf
      refine lv_iload_n hx hb dX4_firstWrong_12 rfl (lv_at hl 1 rfl) ?_
      refine lv_aload_n hx hb dX4_firstWrong_13 rfl (lv_at hl 0 rfl) ?_
      refine lv_iload_n hx hb dX4_firstWrong_14 rfl (lv_at hl 2 rfl) ?_
      obtain ⟨z1, h, hf⟩ := bd_s hf
      refine x_ci (x_rV E (As := [.int v2]) (rest := [.int v1]) (mt_X4_codeAt l D I J O a0 a1 v2 x z1 h) blR (x_recv E hP 0 4 rfl rfl rfl) (x_pcR E hP) ok_X4_codeAt q585 rfl hl.1 rfl (Nat.le_of_ble_eq_true rfl) ⟨Nat.le_of_ble_eq_true rfl, Nat.le_of_ble_eq_true rfl⟩ ⟨Nat.le_of_ble_eq_true rfl, Nat.le_of_ble_eq_true rfl⟩ dX4_firstWrong_15) ?_
      obtain ⟨z2, h, hf⟩ := bd_s hf
      refine x_ci (x_rS E (As := [.int v1, .int z1]) (rest := []) (mt_X4_stateBehind l D I J O v1 z1 z2 h) blR (x_pcR E x_none) ok_X4_stateBehind q589 rfl hl.1 rfl (Nat.le_of_ble_eq_true rfl) ⟨Nat.le_of_ble_eq_true rfl, Nat.le_of_ble_eq_true rfl⟩ ⟨Nat.le_of_ble_eq_true rfl, Nat.le_of_ble_eq_true rfl⟩ dX4_firstWrong_18) ?_
      refine lv_istore_n (lv' := [(1, .int z2), (0, .ref a0), (2, .int v2)]) hx hb dX4_firstWrong_21 rfl hl (by decide) rfl (fun ls hl => ?_)
      refine lv_iload_n hx hb dX4_firstWrong_22 rfl (lv_at hl 0 rfl) ?_
      refine lv_iconst (v := (-1)) hx hb dX4_firstWrong_23 (by decide) ?_
      refine lv_icmp_ne (tgt := 29) hx hb dX4_firstWrong_24 (by decide) (fun hc => ?_) (fun hc => ?_)
      · rw [if_neg hc] at hf
        refine lv_iinc (v := v2 + 1) (lv' := [(2, .int (v2 + 1)), (1, .int z2), (0, .ref a0)]) hx hb dX4_firstWrong_29 hl (k := 2) rfl rfl (by decide) rfl (fun ls hl => ?_)
        refine lv_goto (tgt := 4) hx hb dX4_firstWrong_32 (by decide) ?_
        exact ih z2 (v2 + 1) x hf hP _ (lv_sub hl [2, 1, 0] rfl)
      · rw [if_pos hc] at hf
        refine lv_iload_n hx hb dX4_firstWrong_27 rfl (lv_at hl 2 rfl) ?_
        exact x_iR E (Option.some.inj hf) dX4_firstWrong_28
set_option maxRecDepth 100000 in
set_option maxHeartbeats 4000000 in
theorem mt_X4_firstWrong (l : Launch) (D : va_G) (I J O : ClassId) (a0 a1 : Nat)  (x : TxC) (r : Int32) (hf : f_X4_firstWrong x = some r) : mR l yX4_firstWrong cX4_firstWrong 3 (some .int) 2 42 D I J O [.ref a0] (wTx I a0 a1 x) (qRi r) := by
  refine mR_open (own := RX4) rfl (by decide +kernel) (Nat.le_of_ble_eq_true rfl) (fun p e s m below meth c ls E hP hl => ?_)
  have hx := E.1
  have hb := E.2.1
  have hl : lv_has ls 3 [(0, .ref a0)] := hl
  unfold f_X4_firstWrong at hf
  refine lv_iconst (v := 0) hx hb dX4_firstWrong_0 (by decide) ?_
  refine lv_istore_n (lv' := [(1, .int 0), (0, .ref a0)]) hx hb dX4_firstWrong_1 rfl hl (by decide) rfl (fun ls hl => ?_)
  refine lv_iconst (v := 0) hx hb dX4_firstWrong_2 (by decide) ?_
  refine lv_istore_n (lv' := [(2, .int 0), (1, .int 0), (0, .ref a0)]) hx hb dX4_firstWrong_3 rfl hl (by decide) rfl (fun ls hl => ?_)
  exact k_X4_firstWrong_4 E a0 a1 r FU 0 0 x hf hP _ (lv_sub hl [2, 1, 0] rfl)
theorem ok_X4_isComplete : yV yX4_isComplete cX4_isComplete 3 (some .boolean) 0 := ⟨q584, q6, q582, q583, by decide +kernel, by decide +kernel, by decide +kernel⟩
set_option maxRecDepth 100000 in
set_option maxHeartbeats 4000000 in
theorem k_X4_isComplete_40 {p : Program} {l : Launch} {e : Env} {s : State} {m : MethodId} {args : Array Value} {below : List Frame} {meth : Method} {c : Code} {D : va_G} {I J O : ClassId} (E : fx p s m args meth c cX4_isComplete RX4 3 (some .boolean) D I J O) (a0 a1 : Nat)  (r : Int32) : ∀ (x : TxC), f_X4_isComplete_40 x = some r → va_P D vwCl (wTx I a0 a1 x) s.heap → ∀ ls : Array Slot, lv_has ls 3 [] → W p l e (rmB 2 42 0 0) s m args below meth c s.heap [] 0 0 (MQ below (qRi r) args s 0 0 (fun _ => False)) (F0 m 40 ls []) := by
  have hx := E.1
  have hb := E.2.1
  intro x hf hP ls hl
  unfold f_X4_isComplete_40 at hf
  refine lv_iconst (v := 1) hx hb dX4_isComplete_40 (by decide) ?_
  refine lv_goto (tgt := 45) hx hb dX4_isComplete_41 (by decide) ?_
  exact x_zR E (Or.inr rfl) (Option.some.inj hf) dX4_isComplete_45
set_option maxRecDepth 100000 in
set_option maxHeartbeats 4000000 in
theorem k_X4_isComplete_4 {p : Program} {l : Launch} {e : Env} {s : State} {m : MethodId} {args : Array Value} {below : List Frame} {meth : Method} {c : Code} {D : va_G} {I J O : ClassId} (E : fx p s m args meth c cX4_isComplete RX4 3 (some .boolean) D I J O) (a0 a1 : Nat)  (r : Int32) : ∀ fu : Nat, ∀ (v1 : Int32) (v2 : Int32) (x : TxC), f_X4_isComplete_4 fu v1 v2 x = some r → va_P D vwCl (wTx I a0 a1 x) s.heap → ∀ ls : Array Slot, lv_has ls 3 [(0, .ref a0), (1, .int v1), (2, .int v2)] → W p l e (rmB 2 42 0 0) s m args below meth c s.heap [] 0 0 (MQ below (qRi r) args s 0 0 (fun _ => False)) (F0 m 4 ls []) := by
  have hx := E.1
  have hb := E.2.1
  intro fu
  induction fu with
  | zero =>
    intro v1 v2 x hf hP ls hl
    rw [f_X4_isComplete_4.eq_1] at hf
    cases hf
  | succ fu ih =>
    intro v1 v2 x hf hP ls hl
    rw [f_X4_isComplete_4.eq_2] at hf
    refine lv_iload_n hx hb dX4_isComplete_4 rfl (lv_at hl 2 rfl) ?_
    refine lv_aload_n hx hb dX4_isComplete_5 rfl (lv_at hl 0 rfl) ?_
    refine x_get E hP 0 rfl rfl in4 1 (by decide) q125 rfl rfl dX4_isComplete_6 ?_
    refine lv_icmp_ge (tgt := 28) hx hb dX4_isComplete_9 (by decide) (fun hc => ?_) (fun hc => ?_)
    · rw [if_pos hc] at hf
      refine lv_iload_n hx hb dX4_isComplete_28 rfl (lv_at hl 1 rfl) ?_
      refine lv_bipush (v := 6) hx hb dX4_isComplete_29 (by decide) ?_
      refine lv_icmp_eq (tgt := 40) hx hb dX4_isComplete_31 (by decide) (fun hc => ?_) (fun hc => ?_)
      · rw [if_pos hc] at hf
        exact k_X4_isComplete_40 E a0 a1 r x hf hP _ (lv_sub hl [] rfl)
      · rw [if_neg hc] at hf
        refine lv_iload_n hx hb dX4_isComplete_34 rfl (lv_at hl 1 rfl) ?_
        refine lv_bipush (v := 7) hx hb dX4_isComplete_35 (by decide) ?_
        refine lv_icmp_ne (tgt := 44) hx hb dX4_isComplete_37 (by decide) (fun hc => ?_) (fun hc => ?_)
        · rw [if_neg hc] at hf
          refine lv_iconst (v := 0) hx hb dX4_isComplete_44 (by decide) ?_
          exact x_zR E (Or.inl rfl) (Option.some.inj hf) dX4_isComplete_45
        · rw [if_pos hc] at hf
          exact k_X4_isComplete_40 E a0 a1 r x hf hP _ (lv_sub hl [] rfl)
    · rw [if_neg hc] at hf
      refine lv_iload_n hx hb dX4_isComplete_12 rfl (lv_at hl 1 rfl) ?_
      refine lv_aload_n hx hb dX4_isComplete_13 rfl (lv_at hl 0 rfl) ?_
      refine lv_iload_n hx hb dX4_isComplete_14 rfl (lv_at hl 2 rfl) ?_
      obtain ⟨z1, h, hf⟩ := bd_s hf
      refine x_ci (x_rV E (As := [.int v2]) (rest := [.int v1]) (mt_X4_codeAt l D I J O a0 a1 v2 x z1 h) blR (x_recv E hP 0 4 rfl rfl rfl) (x_pcR E hP) ok_X4_codeAt q585 rfl hl.1 rfl (Nat.le_of_ble_eq_true rfl) ⟨Nat.le_of_ble_eq_true rfl, Nat.le_of_ble_eq_true rfl⟩ ⟨Nat.le_of_ble_eq_true rfl, Nat.le_of_ble_eq_true rfl⟩ dX4_isComplete_15) ?_
      obtain ⟨z2, h, hf⟩ := bd_s hf
      refine x_ci (x_rS E (As := [.int v1, .int z1]) (rest := []) (mt_X4_stateBehind l D I J O v1 z1 z2 h) blR (x_pcR E x_none) ok_X4_stateBehind q589 rfl hl.1 rfl (Nat.le_of_ble_eq_true rfl) ⟨Nat.le_of_ble_eq_true rfl, Nat.le_of_ble_eq_true rfl⟩ ⟨Nat.le_of_ble_eq_true rfl, Nat.le_of_ble_eq_true rfl⟩ dX4_isComplete_18) ?_
      refine lv_istore_n (lv' := [(1, .int z2), (0, .ref a0), (2, .int v2)]) hx hb dX4_isComplete_21 rfl hl (by decide) rfl (fun ls hl => ?_)
      refine lv_iinc (v := v2 + 1) (lv' := [(2, .int (v2 + 1)), (1, .int z2), (0, .ref a0)]) hx hb dX4_isComplete_22 hl (k := 2) rfl rfl (by decide) rfl (fun ls hl => ?_)
      refine lv_goto (tgt := 4) hx hb dX4_isComplete_25 (by decide) ?_
      exact ih z2 (v2 + 1) x hf hP _ (lv_sub hl [2, 1, 0] rfl)
set_option maxRecDepth 100000 in
set_option maxHeartbeats 4000000 in
theorem mt_X4_isComplete (l : Launch) (D : va_G) (I J O : ClassId) (a0 a1 : Nat)  (x : TxC) (r : Int32) (hf : f_X4_isComplete x = some r) : mR l yX4_isComplete cX4_isComplete 3 (some .boolean) 2 42 D I J O [.ref a0] (wTx I a0 a1 x) (qRi r) := by
  refine mR_open (own := RX4) rfl (by decide +kernel) (Nat.le_of_ble_eq_true rfl) (fun p e s m below meth c ls E hP hl => ?_)
  have hx := E.1
  have hb := E.2.1
  have hl : lv_has ls 3 [(0, .ref a0)] := hl
  unfold f_X4_isComplete at hf
  refine lv_iconst (v := 0) hx hb dX4_isComplete_0 (by decide) ?_
  refine lv_istore_n (lv' := [(1, .int 0), (0, .ref a0)]) hx hb dX4_isComplete_1 rfl hl (by decide) rfl (fun ls hl => ?_)
  refine lv_iconst (v := 0) hx hb dX4_isComplete_2 (by decide) ?_
  refine lv_istore_n (lv' := [(2, .int 0), (1, .int 0), (0, .ref a0)]) hx hb dX4_isComplete_3 rfl hl (by decide) rfl (fun ls hl => ?_)
  exact k_X4_isComplete_4 E a0 a1 r FU 0 0 x hf hP _ (lv_sub hl [2, 1, 0] rfl)
