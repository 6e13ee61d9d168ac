theorem ok_X1_copyFrom : yV yX1_copyFrom cX1_copyFrom 2 none 1 := ⟨q170, q4, q168, q169, by decide +kernel, by decide +kernel, by decide +kernel⟩
set_option maxRecDepth 100000 in
set_option maxHeartbeats 4000000 in
theorem mt_X1_copyFrom (l : Launch) (D : va_G) (I J O : ClassId) (a0 a1 a2 : Nat) (b0 b1 b2 : Nat) (sz : Nat)  (x : RwC) (o : RwC) (y0 : RwC) (hf : f_X1_copyFrom x o = some y0) : mM l yX1_copyFrom cX1_copyFrom 2 none 1 18 0 0 D I J O sz [.ref a0, .ref b0] (wRw I a0 a1 a2 x ++ wRw I b0 b1 b2 o) (qMv D sz (wRw I a0 a1 a2 x ++ wRw I b0 b1 b2 o) (fun _ : Unit => wRw I a0 a1 a2 y0 ++ wRw I b0 b1 b2 o)) := by
  refine mM_open (own := RX1) rfl (by decide +kernel) (Nat.le_of_ble_eq_true rfl) (fun p e s m below meth c ls E hnm hsz hw hl => ?_)
  obtain ⟨ws0, hws⟩ : ∃ ws0 : va_W, ws0 = wRw I a0 a1 a2 x ++ wRw I b0 b1 b2 o := ⟨_, rfl⟩
  have hw : fy D (va_A ws0 sz) s.heap s.heap [] (wRw I a0 a1 a2 x ++ wRw I b0 b1 b2 o) := by rw [hws]; exact hw
  rw [← hws]
  have hx := E.1
  have hb := E.2.1
  have hl : lv_has ls 2 [(0, .ref a0), (1, .ref b0)] := hl
  unfold f_X1_copyFrom at hf
  refine lv_aload_n hx hb dX1_copyFrom_0 rfl (lv_at hl 0 rfl) ?_
  refine lv_aload_n hx hb dX1_copyFrom_1 rfl (lv_at hl 1 rfl) ?_
  refine x_get E hw.1 3 rfl rfl in1 0 (by decide) q64 rfl rfl dX1_copyFrom_2 ?_
  refine x_put E hw 0 rfl rfl in1 tyX1_ok nmX1 0 (by decide) q64 rfl rfl rfl rfl (Nat.le_of_ble_eq_true rfl) dX1_copyFrom_5 (fun H locs hw => ?_)
  have hw : fy D (va_A ws0 sz) s.heap H locs (wRw I a0 a1 a2 (o.1, x.2) ++ wRw I b0 b1 b2 o) := hw
  refine lv_aload_n hx hb dX1_copyFrom_8 rfl (lv_at hl 1 rfl) ?_
  refine x_get E hw.1 3 rfl rfl in1 1 (by decide) q65 rfl rfl dX1_copyFrom_9 ?_
  refine lv_iconst (v := 0) hx hb dX1_copyFrom_12 (by decide) ?_
  refine lv_aload_n hx hb dX1_copyFrom_13 rfl (lv_at hl 0 rfl) ?_
  refine x_get E hw.1 0 rfl rfl in1 1 (by decide) q65 rfl rfl dX1_copyFrom_14 ?_
  refine lv_iconst (v := 0) hx hb dX1_copyFrom_17 (by decide) ?_
  refine lv_bipush (v := 68) hx hb dX1_copyFrom_18 (by decide) ?_
  obtain ⟨g, hf⟩ := gcp_s hf
  refine x_copy E hl.1 q171 q166 q165 q12 hw 4 1 rfl rfl g (Nat.le_of_ble_eq_true rfl) (Nat.le_of_ble_eq_true rfl) dX1_copyFrom_20 (fun H locs hw => ?_)
  have hw : fy D (va_A ws0 sz) s.heap H locs (wRw I a0 a1 a2 (o.1, (va_cpy o.2.1 x.2.1 (0 : Int32).toNatClampNeg (0 : Int32).toNatClampNeg (68 : Int32).toNatClampNeg), x.2.2) ++ wRw I b0 b1 b2 o) := hw
  refine lv_aload_n hx hb dX1_copyFrom_23 rfl (lv_at hl 1 rfl) ?_
  refine x_get E hw.1 3 rfl rfl in1 2 (by decide) q66 rfl rfl dX1_copyFrom_24 ?_
  refine lv_iconst (v := 0) hx hb dX1_copyFrom_27 (by decide) ?_
  refine lv_aload_n hx hb dX1_copyFrom_28 rfl (lv_at hl 0 rfl) ?_
  refine x_get E hw.1 0 rfl rfl in1 2 (by decide) q66 rfl rfl dX1_copyFrom_29 ?_
  refine lv_iconst (v := 0) hx hb dX1_copyFrom_32 (by decide) ?_
  refine lv_iconst (v := 4) hx hb dX1_copyFrom_33 (by decide) ?_
  obtain ⟨g, hf⟩ := gcp_s hf
  refine x_copy E hl.1 q171 q166 q165 q12 hw 5 2 rfl rfl g (Nat.le_of_ble_eq_true rfl) (Nat.le_of_ble_eq_true rfl) dX1_copyFrom_34 (fun H locs hw => ?_)
  have hw : fy D (va_A ws0 sz) s.heap H locs (wRw I a0 a1 a2 (o.1, (va_cpy o.2.1 x.2.1 (0 : Int32).toNatClampNeg (0 : Int32).toNatClampNeg (68 : Int32).toNatClampNeg), (va_cpy o.2.2 x.2.2 (0 : Int32).toNatClampNeg (0 : Int32).toNatClampNeg (4 : Int32).toNatClampNeg)) ++ wRw I b0 b1 b2 o) := hw
  have he0 := (Option.some.inj hf)
  subst he0
  exact x_vM E () hw dX1_copyFrom_37
theorem ok_X1_size : yV yX1_size cX1_size 1 (some .int) 0 := ⟨q239, q4, q237, q238, by decide +kernel, by decide +kernel, by decide +kernel⟩
set_option maxRecDepth 100000 in
set_option maxHeartbeats 4000000 in
theorem mt_X1_size (l : Launch) (D : va_G) (I J O : ClassId) (a0 a1 a2 : Nat)  (x : RwC) (r : Int32) (hf : f_X1_size x = some r) : mR l yX1_size cX1_size 1 (some .int) 0 0 D I J O [.ref a0] (wRw I a0 a1 a2 x) (qRi r) := by
  refine mR_open (own := RX1) rfl (by decide +kernel) (Nat.le_of_ble_eq_true rfl) (fun p e s m below meth c ls E hP hl => ?_)
  have hx := E.1
  have hb := E.2.1
  have hl : lv_has ls 1 [(0, .ref a0)] := hl
  unfold f_X1_size at hf
  refine lv_aload_n hx hb dX1_size_0 rfl (lv_at hl 0 rfl) ?_
  refine x_get E hP 0 rfl rfl in1 0 (by decide) q64 rfl rfl dX1_size_1 ?_
  exact x_iR E (Option.some.inj hf) dX1_size_4
theorem ok_X1_isEntry : yV yX1_isEntry cX1_isEntry 2 (some .boolean) 1 := ⟨q187, q4, q186, qs2, by decide +kernel, by decide +kernel, by decide +kernel⟩
set_option maxRecDepth 100000 in
set_option maxHeartbeats 4000000 in
theorem mt_X1_isEntry (l : Launch) (D : va_G) (I J O : ClassId) (a0 a1 a2 : Nat) (p0 : Int32) (x : RwC) (r : Int32) (hf : f_X1_isEntry p0 x = some r) : mR l yX1_isEntry cX1_isEntry 2 (some .boolean) 0 0 D I J O [.ref a0, .int p0] (wRw I a0 a1 a2 x) (qRi r) := by
  refine mR_open (own := RX1) rfl (by decide +kernel) (Nat.le_of_ble_eq_true rfl) (fun p e s m below meth c ls E hP hl => ?_)
  have hx := E.1
  have hb := E.2.1
  have hl : lv_has ls 2 [(0, .ref a0), (1, .int p0)] := hl
  unfold f_X1_isEntry at hf
  refine lv_iload_n hx hb dX1_isEntry_0 rfl (lv_at hl 1 rfl) ?_
  refine lv_if_lt (tgt := 22) hx hb dX1_isEntry_1 (by decide) (fun hc => ?_) (fun hc => ?_)
  · rw [if_pos hc] at hf
    refine lv_iconst (v := 0) hx hb dX1_isEntry_22 (by decide) ?_
    exact x_zR E (Or.inl rfl) (Option.some.inj hf) dX1_isEntry_23
  · rw [if_neg hc] at hf
    refine lv_iload_n hx hb dX1_isEntry_4 rfl (lv_at hl 1 rfl) ?_
    refine lv_aload_n hx hb dX1_isEntry_5 rfl (lv_at hl 0 rfl) ?_
    refine x_get E hP 0 rfl rfl in1 0 (by decide) q64 rfl rfl dX1_isEntry_6 ?_
    refine lv_icmp_ge (tgt := 22) hx hb dX1_isEntry_9 (by decide) (fun hc => ?_) (fun hc => ?_)
    · rw [if_pos hc] at hf
      refine lv_iconst (v := 0) hx hb dX1_isEntry_22 (by decide) ?_
      exact x_zR E (Or.inl rfl) (Option.some.inj hf) dX1_isEntry_23
    · rw [if_neg hc] at hf
      refine lv_iload_n hx hb dX1_isEntry_12 rfl (lv_at hl 1 rfl) ?_
      refine lv_bipush (v := 68) hx hb dX1_isEntry_13 (by decide) ?_
      refine lv_icmp_ge (tgt := 22) hx hb dX1_isEntry_15 (by decide) (fun hc => ?_) (fun hc => ?_)
      · rw [if_pos hc] at hf
        refine lv_iconst (v := 0) hx hb dX1_isEntry_22 (by decide) ?_
        exact x_zR E (Or.inl rfl) (Option.some.inj hf) dX1_isEntry_23
      · rw [if_neg hc] at hf
        refine lv_iconst (v := 1) hx hb dX1_isEntry_18 (by decide) ?_
        refine lv_goto (tgt := 23) hx hb dX1_isEntry_19 (by decide) ?_
        exact x_zR E (Or.inr rfl) (Option.some.inj hf) dX1_isEntry_23
theorem ok_X1_thingIn : yV yX1_thingIn cX1_thingIn 2 (some .int) 1 := ⟨q183, q4, q182, qs1, by decide +kernel, by decide +kernel, by decide +kernel⟩
set_option maxRecDepth 100000 in
set_option maxHeartbeats 4000000 in
theorem mt_X1_thingIn (l : Launch) (D : va_G) (I J O : ClassId) (a0 a1 a2 : Nat) (p0 : Int32) (x : RwC) (r : Int32) (hf : f_X1_thingIn p0 x = some r) : mR l yX1_thingIn cX1_thingIn 2 (some .int) 1 21 D I J O [.ref a0, .int p0] (wRw I a0 a1 a2 x) (qRi r) := by
  refine mR_open (own := RX1) rfl (by decide +kernel) (Nat.le_of_ble_eq_true rfl) (fun p e s m below meth c ls E hP hl => ?_)
  have hx := E.1
  have hb := E.2.1
  have hl : lv_has ls 2 [(0, .ref a0), (1, .int p0)] := hl
  unfold f_X1_thingIn at hf
  refine lv_aload_n hx hb dX1_thingIn_0 rfl (lv_at hl 0 rfl) ?_
  refine lv_iload_n hx hb dX1_thingIn_1 rfl (lv_at hl 1 rfl) ?_
  obtain ⟨z1, h, hf⟩ := bd_s hf
  refine x_ci (x_rV E (As := [.int p0]) (rest := []) (mt_X1_isEntry l D I J O a0 a1 a2 p0 x z1 h) blR (x_recv E hP 0 1 rfl rfl rfl) (x_pcR E hP) ok_X1_isEntry q184 rfl hl.1 rfl (Nat.le_of_ble_eq_true rfl) ⟨Nat.le_of_ble_eq_true rfl, Nat.le_of_ble_eq_true rfl⟩ ⟨Nat.le_of_ble_eq_true rfl, Nat.le_of_ble_eq_true rfl⟩ dX1_thingIn_2) ?_
  refine lv_if_eq (tgt := 17) hx hb dX1_thingIn_5 (by decide) (fun hc => ?_) (fun hc => ?_)
  · rw [if_pos hc] at hf
    refine lv_iconst (v := (-1)) hx hb dX1_thingIn_17 (by decide) ?_
    exact x_iR E (Option.some.inj hf) dX1_thingIn_18
  · rw [if_neg hc] at hf
    refine lv_aload_n hx hb dX1_thingIn_8 rfl (lv_at hl 0 rfl) ?_
    refine x_get E hP 0 rfl rfl in1 1 (by decide) q65 rfl rfl dX1_thingIn_9 ?_
    refine lv_iload_n hx hb dX1_thingIn_12 rfl (lv_at hl 1 rfl) ?_
    obtain ⟨g, hf⟩ := gi_s hf
    refine x_ald E hP 1 rfl g dX1_thingIn_13 ?_
    refine lv_goto (tgt := 18) hx hb dX1_thingIn_14 (by decide) ?_
    exact x_iR E (Option.some.inj hf) dX1_thingIn_18
theorem ok_X1_thingsFrom : yV yX1_thingsFrom cX1_thingsFrom 4 (some .int) 1 := ⟨q410, q4, q409, qs7, by decide +kernel, by decide +kernel, by decide +kernel⟩
set_option maxRecDepth 100000 in
set_option maxHeartbeats 4000000 in
theorem k_X1_thingsFrom_8 {p : Program} {l : Launch} {e : Env} {s : State} {m : MethodId} {args : Array Value} {below : List Frame} {meth : Method} {c : Code} {D : va_G} {I J O : ClassId} (E : fx p s m args meth c cX1_thingsFrom RX1 4 (some .int) D I J O) (a0 a1 a2 : Nat)  (r : Int32) : ∀ fu : Nat, ∀ (v2 : Int32) (v3 : Int32) (x : RwC), f_X1_thingsFrom_8 fu v2 v3 x = some r → va_P D vwCl (wRw I a0 a1 a2 x) s.heap → ∀ ls : Array Slot, lv_has ls 4 [(0, .ref a0), (2, .int v2), (3, .int v3)] → W p l e (rmB 2 42 0 0) s m args below meth c s.heap [] 0 0 (MQ below (qRi r) args s 0 0 (fun _ => False)) (F0 m 8 ls []) := by
  have hx := E.1
  have hb := E.2.1
  intro fu
  induction fu with
  | zero =>
    intro v2 v3 x hf hP ls hl
    rw [f_X1_thingsFrom_8.eq_1] at hf
    cases hf
  | succ fu ih =>
    intro v2 v3 x hf hP ls hl
    rw [f_X1_thingsFrom_8.eq_2] at hf
    refine lv_iload_n hx hb dX1_thingsFrom_8 rfl (lv_at hl 2 rfl) ?_
    refine lv_aload_n hx hb dX1_thingsFrom_9 rfl (lv_at hl 0 rfl) ?_
    refine x_get E hP 0 rfl rfl in1 0 (by decide) q64 rfl rfl dX1_thingsFrom_10 ?_
    refine lv_icmp_ge (tgt := 34) hx hb dX1_thingsFrom_13 (by decide) (fun hc => ?_) (fun hc => ?_)
    · rw [if_pos hc] at hf
      refine lv_iload_n hx hb dX1_thingsFrom_34 rfl (lv_at hl 1 rfl) ?_
      exact x_iR E (Option.some.inj hf) dX1_thingsFrom_35
    · rw [if_neg hc] at hf
      refine lv_aload_n hx hb dX1_thingsFrom_16 rfl (lv_at hl 0 rfl) ?_
      refine lv_iload_n hx hb dX1_thingsFrom_17 rfl (lv_at hl 2 rfl) ?_
      obtain ⟨z1, h, hf⟩ := bd_s hf
      refine x_ci (x_rV E (As := [.int v3]) (rest := []) (mt_X1_thingIn l D I J O a0 a1 a2 v3 x z1 h) blR (x_recv E hP 0 1 rfl rfl rfl) (x_pcR E hP) ok_X1_thingIn q180 rfl hl.1 rfl (Nat.le_of_ble_eq_true rfl) ⟨Nat.le_of_ble_eq_true rfl, Nat.le_of_ble_eq_true rfl⟩ ⟨Nat.le_of_ble_eq_true rfl, Nat.le_of_ble_eq_true rfl⟩ dX1_thingsFrom_18) ?_
      refine lv_iconst (v := (-1)) hx hb dX1_thingsFrom_21 (by decide) ?_
      refine lv_icmp_eq (tgt := 28) hx hb dX1_thingsFrom_22 (by decide) (fun hc => ?_) (fun hc => ?_)
      · rw [if_pos hc] at hf
        refine lv_iinc (v := v3 + 1) (lv' := [(3, .int (v3 + 1)), (0, .ref a0), (2, .int v2)]) hx hb dX1_thingsFrom_28 hl (k := 2) rfl rfl (by decide) rfl (fun ls hl => ?_)
        refine lv_goto (tgt := 8) hx hb dX1_thingsFrom_31 (by decide) ?_
        exact ih v2 (v3 + 1) x hf hP _ (lv_sub hl [1, 2, 0] rfl)
      · rw [if_neg hc] at hf
        refine lv_iinc (v := v2 + 1) (lv' := [(2, .int (v2 + 1)), (0, .ref a0), (3, .int v3)]) hx hb dX1_thingsFrom_25 hl (k := 1) rfl rfl (by decide) rfl (fun ls hl => ?_)
        refine lv_iinc (v := v3 + 1) (lv' := [(3, .int (v3 + 1)), (2, .int (v2 + 1)), (0, .ref a0)]) hx hb dX1_thingsFrom_28 hl (k := 2) rfl rfl (by decide) rfl (fun ls hl => ?_)
        refine lv_goto (tgt := 8) hx hb dX1_thingsFrom_31 (by decide) ?_
        exact ih (v2 + 1) (v3 + 1) x hf hP _ (lv_sub hl [2, 1, 0] rfl)
set_option maxRecDepth 100000 in
set_option maxHeartbeats 4000000 in
theorem mt_X1_thingsFrom (l : Launch) (D : va_G) (I J O : ClassId) (a0 a1 a2 : Nat) (p0 : Int32) (x : RwC) (r : Int32) (hf : f_X1_thingsFrom p0 x = some r) : mR l yX1_thingsFrom cX1_thingsFrom 4 (some .int) 2 42 D I J O [.ref a0, .int p0] (wRw I a0 a1 a2 x) (qRi r) := by
  refine mR_open (own := RX1) rfl (by decide +kernel) (Nat.le_of_ble_eq_true rfl) (fun p e s m below meth c ls E hP hl => ?_)
  have hx := E.1
  have hb := E.2.1
  have hl : lv_has ls 4 [(0, .ref a0), (1, .int p0)] := hl
  unfold f_X1_thingsFrom at hf
  refine lv_iconst (v := 0) hx hb dX1_thingsFrom_0 (by decide) ?_
  refine lv_istore_n (lv' := [(2, .int 0), (0, .ref a0), (1, .int p0)]) hx hb dX1_thingsFrom_1 rfl hl (by decide) rfl (fun ls hl => ?_)
  refine lv_iload_n hx hb dX1_thingsFrom_2 rfl (lv_at hl 2 rfl) ?_
  refine lv_iconst (v := 0) hx hb dX1_thingsFrom_3 (by decide) ?_
  refine x_max E hl.1 q411 q412 q14 q_max (Nat.le_of_ble_eq_true rfl) (Nat.le_of_ble_eq_true rfl) (Nat.le_of_ble_eq_true rfl) (Nat.le_of_ble_eq_true rfl) dX1_thingsFrom_4 ?_
  refine lv_istore_n (lv' := [(3, .int (if p0 < 0 then 0 else p0)), (2, .int 0), (0, .ref a0), (1, .int p0)]) hx hb dX1_thingsFrom_7 rfl hl (by decide) rfl (fun ls hl => ?_)
  exact k_X1_thingsFrom_8 E a0 a1 a2 r FU 0 (if p0 < 0 then 0 else p0) x hf hP _ (lv_sub hl [2, 1, 0] rfl)
theorem ok_X1_things : yV yX1_things cX1_things 1 (some .int) 0 := ⟨q406, q4, q404, q405, by decide +kernel, by decide +kernel, by decide +kernel⟩
set_option maxRecDepth 100000 in
set_option maxHeartbeats 4000000 in
theorem mt_X1_things (l : Launch) (D : va_G) (I J O : ClassId) (a0 a1 a2 : Nat)  (x : RwC) (r : Int32) (hf : f_X1_things x = some r) : mR l yX1_things cX1_things 1 (some .int) 3 65 D I J O [.ref a0] (wRw I a0 a1 a2 x) (qRi r) := by
  refine mR_open (own := RX1) rfl (by decide +kernel) (Nat.le_of_ble_eq_true rfl) (fun p e s m below meth c ls E hP hl => ?_)
  have hx := E.1
  have hb := E.2.1
  have hl : lv_has ls 1 [(0, .ref a0)] := hl
  unfold f_X1_things at hf
  refine lv_aload_n hx hb dX1_things_0 rfl (lv_at hl 0 rfl) ?_
  refine lv_iconst (v := 0) hx hb dX1_things_1 (by decide) ?_
  obtain ⟨z1, h, hf⟩ := bd_s hf
  refine x_ci (x_rV E (As := [.int 0]) (rest := []) (mt_X1_thingsFrom l D I J O a0 a1 a2 0 x z1 h) blR (x_recv E hP 0 1 rfl rfl rfl) (x_pcR E hP) ok_X1_thingsFrom q407 rfl hl.1 rfl (Nat.le_of_ble_eq_true rfl) ⟨Nat.le_of_ble_eq_true rfl, Nat.le_of_ble_eq_true rfl⟩ ⟨Nat.le_of_ble_eq_true rfl, Nat.le_of_ble_eq_true rfl⟩ dX1_things_2) ?_
  exact x_iR E (Option.some.inj hf) dX1_things_5
theorem ok_X1_tombstones : yV yX1_tombstones cX1_tombstones 1 (some .int) 0 := ⟨q417, q4, q415, q416, by decide +kernel, by decide +kernel, by decide +kernel⟩
set_option maxRecDepth 100000 in
set_option maxHeartbeats 4000000 in
theorem mt_X1_tombstones (l : Launch) (D : va_G) (I J O : ClassId) (a0 a1 a2 : Nat)  (x : RwC) (r : Int32) (hf : f_X1_tombstones x = some r) : mR l yX1_tombstones cX1_tombstones 1 (some .int) 4 85 D I J O [.ref a0] (wRw I a0 a1 a2 x) (qRi r) := by
  refine mR_open (own := RX1) rfl (by decide +kernel) (Nat.le_of_ble_eq_true rfl) (fun p e s m below meth c ls E hP hl => ?_)
  have hx := E.1
  have hb := E.2.1
  have hl : lv_has ls 1 [(0, .ref a0)] := hl
  unfold f_X1_tombstones at hf
  refine lv_aload_n hx hb dX1_tombstones_0 rfl (lv_at hl 0 rfl) ?_
  refine x_get E hP 0 rfl rfl in1 0 (by decide) q64 rfl rfl dX1_tombstones_1 ?_
  refine lv_aload_n hx hb dX1_tombstones_4 rfl (lv_at hl 0 rfl) ?_
  obtain ⟨z1, h, hf⟩ := bd_s hf
  refine x_ci (x_rV E (As := []) (rest := [.int x.1]) (mt_X1_things l D I J O a0 a1 a2 x z1 h) blR (x_recv E hP 0 1 rfl rfl rfl) (x_pcR E hP) ok_X1_things q418 rfl hl.1 rfl (Nat.le_of_ble_eq_true rfl) ⟨Nat.le_of_ble_eq_true rfl, Nat.le_of_ble_eq_true rfl⟩ ⟨Nat.le_of_ble_eq_true rfl, Nat.le_of_ble_eq_true rfl⟩ dX1_tombstones_5) ?_
  refine lv_isub hx hb dX1_tombstones_8 ?_
  exact x_iR E (Option.some.inj hf) dX1_tombstones_9
theorem ok_X1_thingAtPlace : yV yX1_thingAtPlace cX1_thingAtPlace 5 (some .int) 1 := ⟨q394, q4, q392, q393, by decide +kernel, by decide +kernel, by decide +kernel⟩
set_option maxRecDepth 100000 in
set_option maxHeartbeats 4000000 in
theorem k_X1_thingAtPlace_4 {p : Program} {l : Launch} {e : Env} {s : State} {m : MethodId} {args : Array Value} {below : List Frame} {meth : Method} {c : Code} {D : va_G} {I J O : ClassId} (E : fx p s m args meth c cX1_thingAtPlace RX1 5 (some .int) D I J O) (a0 a1 a2 : Nat)  (r : Int32) : ∀ fu : Nat, ∀ (v1 : Int32) (v2 : Int32) (v3 : Int32) (x : RwC), f_X1_thingAtPlace_4 fu v1 v2 v3 x = some r → va_P D vwCl (wRw I a0 a1 a2 x) s.heap → ∀ ls : Array Slot, lv_has ls 5 [(0, .ref a0), (1, .int v1), (2, .int v2), (3, .int v3)] → W p l e (rmB 2 42 0 0) s m args below meth c s.heap [] 0 0 (MQ below (qRi r) args s 0 0 (fun _ => False)) (F0 m 4 ls []) := by
  have hx := E.1
  have hb := E.2.1
  intro fu
  induction fu with
  | zero =>
    intro v1 v2 v3 x hf hP ls hl
    rw [f_X1_thingAtPlace_4.eq_1] at hf
    cases hf
  | succ fu ih =>
    intro v1 v2 v3 x hf hP ls hl
    rw [f_X1_thingAtPlace_4.eq_2] at hf
    refine lv_iload_n hx hb dX1_thingAtPlace_4 rfl (lv_at hl 3 rfl) ?_
    refine lv_aload_n hx hb dX1_thingAtPlace_5 rfl (lv_at hl 0 rfl) ?_
    refine x_get E hP 0 rfl rfl in1 0 (by decide) q64 rfl rfl dX1_thingAtPlace_6 ?_
    refine lv_icmp_ge (tgt := 42) hx hb dX1_thingAtPlace_9 (by decide) (fun hc => ?_) (fun hc => ?_)
    · rw [if_pos hc] at hf
      refine lv_iconst (v := (-1)) hx hb dX1_thingAtPlace_42 (by decide) ?_
      exact x_iR E (Option.some.inj hf) dX1_thingAtPlace_43
    · rw [if_neg hc] at hf
      refine lv_aload_n hx hb dX1_thingAtPlace_12 rfl (lv_at hl 0 rfl) ?_
      refine lv_iload_n hx hb dX1_thingAtPlace_13 rfl (lv_at hl 3 rfl) ?_
      obtain ⟨z1, h, hf⟩ := bd_s hf
      refine x_ci (x_rV E (As := [.int v3]) (rest := []) (mt_X1_thingIn l D I J O a0 a1 a2 v3 x z1 h) blR (x_recv E hP 0 1 rfl rfl rfl) (x_pcR E hP) ok_X1_thingIn q180 rfl hl.1 rfl (Nat.le_of_ble_eq_true rfl) ⟨Nat.le_of_ble_eq_true rfl, Nat.le_of_ble_eq_true rfl⟩ ⟨Nat.le_of_ble_eq_true rfl, Nat.le_of_ble_eq_true rfl⟩ dX1_thingAtPlace_14) ?_
      refine lv_istore (lv' := [(4, .int z1), (0, .ref a0), (1, .int v1), (2, .int v2), (3, .int v3)]) hx hb dX1_thingAtPlace_17 hl (by decide) rfl (fun ls hl => ?_)
      refine lv_iload hx hb dX1_thingAtPlace_19 (lv_at hl 0 rfl) ?_
      refine lv_iconst (v := (-1)) hx hb dX1_thingAtPlace_21 (by decide) ?_
      refine lv_icmp_eq (tgt := 36) hx hb dX1_thingAtPlace_22 (by decide) (fun hc => ?_) (fun hc => ?_)
      · rw [if_pos hc] at hf
        refine lv_iinc (v := v3 + 1) (lv' := [(3, .int (v3 + 1)), (4, .int z1), (0, .ref a0), (1, .int v1), (2, .int v2)]) hx hb dX1_thingAtPlace_36 hl (k := 4) rfl rfl (by decide) rfl (fun ls hl => ?_)
        refine lv_goto (tgt := 4) hx hb dX1_thingAtPlace_39 (by decide) ?_
        exact ih v1 v2 (v3 + 1) x hf hP _ (lv_sub hl [2, 3, 4, 0] rfl)
      · rw [if_neg hc] at hf
        refine lv_iload_n hx hb dX1_thingAtPlace_25 rfl (lv_at hl 3 rfl) ?_
        refine lv_iload_n hx hb dX1_thingAtPlace_26 rfl (lv_at hl 2 rfl) ?_
        refine lv_icmp_ne (tgt := 33) hx hb dX1_thingAtPlace_27 (by decide) (fun hc => ?_) (fun hc => ?_)
        · rw [if_neg hc] at hf
          refine lv_iinc (v := v2 + 1) (lv' := [(2, .int (v2 + 1)), (4, .int z1), (0, .ref a0), (1, .int v1), (3, .int v3)]) hx hb dX1_thingAtPlace_33 hl (k := 3) rfl rfl (by decide) rfl (fun ls hl => ?_)
          refine lv_iinc (v := v3 + 1) (lv' := [(3, .int (v3 + 1)), (2, .int (v2 + 1)), (4, .int z1), (0, .ref a0), (1, .int v1)]) hx hb dX1_thingAtPlace_36 hl (k := 4) rfl rfl (by decide) rfl (fun ls hl => ?_)
          refine lv_goto (tgt := 4) hx hb dX1_thingAtPlace_39 (by decide) ?_
          exact ih v1 (v2 + 1) (v3 + 1) x hf hP _ (lv_sub hl [3, 4, 1, 0] rfl)
        · rw [if_pos hc] at hf
          refine lv_iload hx hb dX1_thingAtPlace_30 (lv_at hl 0 rfl) ?_
          exact x_iR E (Option.some.inj hf) dX1_thingAtPlace_32
set_option maxRecDepth 100000 in
set_option maxHeartbeats 4000000 in
theorem mt_X1_thingAtPlace (l : Launch) (D : va_G) (I J O : ClassId) (a0 a1 a2 : Nat) (p0 : Int32) (x : RwC) (r : Int32) (hf : f_X1_thingAtPlace p0 x = some r) : mR l yX1_thingAtPlace cX1_thingAtPlace 5 (some .int) 2 42 D I J O [.ref a0, .int p0] (wRw I a0 a1 a2 x) (qRi r) := by
  refine mR_open (own := RX1) rfl (by decide +kernel) (Nat.le_of_ble_eq_true rfl) (fun p e s m below meth c ls E hP hl => ?_)
  have hx := E.1
  have hb := E.2.1
  have hl : lv_has ls 5 [(0, .ref a0), (1, .int p0)] := hl
  unfold f_X1_thingAtPlace at hf
  refine lv_iconst (v := 0) hx hb dX1_thingAtPlace_0 (by decide) ?_
  refine lv_istore_n (lv' := [(2, .int 0), (0, .ref a0), (1, .int p0)]) hx hb dX1_thingAtPlace_1 rfl hl (by decide) rfl (fun ls hl => ?_)
  refine lv_iconst (v := 0) hx hb dX1_thingAtPlace_2 (by decide) ?_
  refine lv_istore_n (lv' := [(3, .int 0), (2, .int 0), (0, .ref a0), (1, .int p0)]) hx hb dX1_thingAtPlace_3 rfl hl (by decide) rfl (fun ls hl => ?_)
  exact k_X1_thingAtPlace_4 E a0 a1 a2 r FU p0 0 0 x hf hP _ (lv_sub hl [2, 3, 1, 0] rfl)
theorem ok_X1_placeOf : yV yX1_placeOf cX1_placeOf 4 (some .int) 1 := ⟨q632, q4, q630, q631, by decide +kernel, by decide +kernel, by decide +kernel⟩
set_option maxRecDepth 100000 in
set_option maxHeartbeats 4000000 in
theorem k_X1_placeOf_4 {p : Program} {l : Launch} {e : Env} {s : State} {m : MethodId} {args : Array Value} {below : List Frame} {meth : Method} {c : Code} {D : va_G} {I J O : ClassId} (E : fx p s m args meth c cX1_placeOf RX1 4 (some .int) D I J O) (a0 a1 a2 : Nat)  (r : Int32) : ∀ fu : Nat, ∀ (v1 : Int32) (v2 : Int32) (v3 : Int32) (x : RwC), f_X1_placeOf_4 fu v1 v2 v3 x = some r → va_P D vwCl (wRw I a0 a1 a2 x) s.heap → ∀ ls : Array Slot, lv_has ls 4 [(0, .ref a0), (1, .int v1), (2, .int v2), (3, .int v3)] → W p l e (rmB 2 42 0 0) s m args below meth c s.heap [] 0 0 (MQ below (qRi r) args s 0 0 (fun _ => False)) (F0 m 4 ls []) := by
  have hx := E.1
  have hb := E.2.1
  intro fu
  induction fu with
  | zero =>
    intro v1 v2 v3 x hf hP ls hl
    rw [f_X1_placeOf_4.eq_1] at hf
    cases hf
  | succ fu ih =>
    intro v1 v2 v3 x hf hP ls hl
    rw [f_X1_placeOf_4.eq_2] at hf
    refine lv_iload_n hx hb dX1_placeOf_4 rfl (lv_at hl 3 rfl) ?_
    refine lv_aload_n hx hb dX1_placeOf_5 rfl (lv_at hl 0 rfl) ?_
    refine x_get E hP 0 rfl rfl in1 0 (by decide) q64 rfl rfl dX1_placeOf_6 ?_
    refine lv_icmp_ge (tgt := 39) hx hb dX1_placeOf_9 (by decide) (fun hc => ?_) (fun hc => ?_)
    · rw [if_pos hc] at hf
      refine lv_iload_n hx hb dX1_placeOf_39 rfl (lv_at hl 2 rfl) ?_
      exact x_iR E (Option.some.inj hf) dX1_placeOf_40
    · rw [if_neg hc] at hf
      refine lv_aload_n hx hb dX1_placeOf_12 rfl (lv_at hl 0 rfl) ?_
      refine lv_iload_n hx hb dX1_placeOf_13 rfl (lv_at hl 3 rfl) ?_
      obtain ⟨z1, h, hf⟩ := bd_s hf
      refine x_ci (x_rV E (As := [.int v3]) (rest := []) (mt_X1_thingIn l D I J O a0 a1 a2 v3 x z1 h) blR (x_recv E hP 0 1 rfl rfl rfl) (x_pcR E hP) ok_X1_thingIn q180 rfl hl.1 rfl (Nat.le_of_ble_eq_true rfl) ⟨Nat.le_of_ble_eq_true rfl, Nat.le_of_ble_eq_true rfl⟩ ⟨Nat.le_of_ble_eq_true rfl, Nat.le_of_ble_eq_true rfl⟩ dX1_placeOf_14) ?_
      refine lv_iload_n hx hb dX1_placeOf_17 rfl (lv_at hl 1 rfl) ?_
      refine lv_icmp_eq (tgt := 39) hx hb dX1_placeOf_18 (by decide) (fun hc => ?_) (fun hc => ?_)
      · rw [if_pos hc] at hf
        refine lv_iload_n hx hb dX1_placeOf_39 rfl (lv_at hl 2 rfl) ?_
        exact x_iR E (Option.some.inj hf) dX1_placeOf_40
      · rw [if_neg hc] at hf
        refine lv_aload_n hx hb dX1_placeOf_21 rfl (lv_at hl 0 rfl) ?_
        refine lv_iload_n hx hb dX1_placeOf_22 rfl (lv_at hl 3 rfl) ?_
        obtain ⟨z2, h, hf⟩ := bd_s hf
        refine x_ci (x_rV E (As := [.int v3]) (rest := []) (mt_X1_thingIn l D I J O a0 a1 a2 v3 x z2 h) blR (x_recv E hP 0 1 rfl rfl rfl) (x_pcR E hP) ok_X1_thingIn q180 rfl hl.1 rfl (Nat.le_of_ble_eq_true rfl) ⟨Nat.le_of_ble_eq_true rfl, Nat.le_of_ble_eq_true rfl⟩ ⟨Nat.le_of_ble_eq_true rfl, Nat.le_of_ble_eq_true rfl⟩ dX1_placeOf_23) ?_
        refine lv_iconst (v := (-1)) hx hb dX1_placeOf_26 (by decide) ?_
        refine lv_icmp_eq (tgt := 33) hx hb dX1_placeOf_27 (by decide) (fun hc => ?_) (fun hc => ?_)
        · rw [if_pos hc] at hf
          refine lv_iinc (v := v3 + 1) (lv' := [(3, .int (v3 + 1)), (0, .ref a0), (1, .int v1), (2, .int v2)]) hx hb dX1_placeOf_33 hl (k := 3) rfl rfl (by decide) rfl (fun ls hl => ?_)
          refine lv_goto (tgt := 4) hx hb dX1_placeOf_36 (by decide) ?_
          exact ih v1 v2 (v3 + 1) x hf hP _ (lv_sub hl [1, 2, 3, 0] rfl)
        · rw [if_neg hc] at hf
          refine lv_iinc (v := v2 + 1) (lv' := [(2, .int (v2 + 1)), (0, .ref a0), (1, .int v1), (3, .int v3)]) hx hb dX1_placeOf_30 hl (k := 2) rfl rfl (by decide) rfl (fun ls hl => ?_)
          refine lv_iinc (v := v3 + 1) (lv' := [(3, .int (v3 + 1)), (2, .int (v2 + 1)), (0, .ref a0), (1, .int v1)]) hx hb dX1_placeOf_33 hl (k := 3) rfl rfl (by decide) rfl (fun ls hl => ?_)
          refine lv_goto (tgt := 4) hx hb dX1_placeOf_36 (by decide) ?_
          exact ih v1 (v2 + 1) (v3 + 1) x hf hP _ (lv_sub hl [2, 3, 1, 0] rfl)
set_option maxRecDepth 100000 in
set_option maxHeartbeats 4000000 in
theorem mt_X1_placeOf (l : Launch) (D : va_G) (I J O : ClassId) (a0 a1 a2 : Nat) (p0 : Int32) (x : RwC) (r : Int32) (hf : f_X1_placeOf p0 x = some r) : mR l yX1_placeOf cX1_placeOf 4 (some .int) 2 42 D I J O [.ref a0, .int p0] (wRw I a0 a1 a2 x) (qRi r) := by
  refine mR_open (own := RX1) rfl (by decide +kernel) (Nat.le_of_ble_eq_true rfl) (fun p e s m below meth c ls E hP hl => ?_)
  have hx := E.1
  have hb := E.2.1
  have hl : lv_has ls 4 [(0, .ref a0), (1, .int p0)] := hl
  unfold f_X1_placeOf at hf
  refine lv_iconst (v := 0) hx hb dX1_placeOf_0 (by decide) ?_
  refine lv_istore_n (lv' := [(2, .int 0), (0, .ref a0), (1, .int p0)]) hx hb dX1_placeOf_1 rfl hl (by decide) rfl (fun ls hl => ?_)
  refine lv_iconst (v := 0) hx hb dX1_placeOf_2 (by decide) ?_
  refine lv_istore_n (lv' := [(3, .int 0), (2, .int 0), (0, .ref a0), (1, .int p0)]) hx hb dX1_placeOf_3 rfl hl (by decide) rfl (fun ls hl => ?_)
  exact k_X1_placeOf_4 E a0 a1 a2 r FU p0 0 0 x hf hP _ (lv_sub hl [2, 3, 1, 0] rfl)
theorem ok_X1_indexOf : yV yX1_indexOf cX1_indexOf 3 (some .int) 1 := ⟨q227, q4, q225, q226, by decide +kernel, by decide +kernel, by decide +kernel⟩
set_option maxRecDepth 100000 in
set_option maxHeartbeats 4000000 in
theorem k_X1_indexOf_2 {p : Program} {l : Launch} {e : Env} {s : State} {m : MethodId} {args : Array Value} {below : List Frame} {meth : Method} {c : Code} {D : va_G} {I J O : ClassId} (E : fx p s m args meth c cX1_indexOf RX1 3 (some .int) D I J O) (a0 a1 a2 : Nat)  (r : Int32) : ∀ fu : Nat, ∀ (v1 : Int32) (v2 : Int32) (x : RwC), f_X1_indexOf_2 fu v1 v2 x = some r → va_P D vwCl (wRw I a0 a1 a2 x) s.heap → ∀ ls : Array Slot, lv_has ls 3 [(0, .ref a0), (1, .int v1), (2, .int v2)] → W p l e (rmB 2 42 0 0) s m args below meth c s.heap [] 0 0 (MQ below (qRi r) args s 0 0 (fun _ => False)) (F0 m 2 ls []) := by
  have hx := E.1
  have hb := E.2.1
  intro fu
  induction fu with
  | zero =>
    intro v1 v2 x hf hP ls hl
    rw [f_X1_indexOf_2.eq_1] at hf
    cases hf
  | succ fu ih =>
    intro v1 v2 x hf hP ls hl
    rw [f_X1_indexOf_2.eq_2] at hf
    refine lv_iload_n hx hb dX1_indexOf_2 rfl (lv_at hl 2 rfl) ?_
    refine lv_aload_n hx hb dX1_indexOf_3 rfl (lv_at hl 0 rfl) ?_
    refine x_get E hP 0 rfl rfl in1 0 (by decide) q64 rfl rfl dX1_indexOf_4 ?_
    refine lv_icmp_ge (tgt := 27) hx hb dX1_indexOf_7 (by decide) (fun hc => ?_) (fun hc => ?_)
    · rw [if_pos hc] at hf
      refine lv_aload_n hx hb dX1_indexOf_27 rfl (lv_at hl 0 rfl) ?_
      refine x_get E hP 0 rfl rfl in1 0 (by decide) q64 rfl rfl dX1_indexOf_28 ?_
      exact x_iR E (Option.some.inj hf) dX1_indexOf_31
    · rw [if_neg hc] at hf
      refine lv_aload_n hx hb dX1_indexOf_10 rfl (lv_at hl 0 rfl) ?_
      refine lv_iload_n hx hb dX1_indexOf_11 rfl (lv_at hl 2 rfl) ?_
      obtain ⟨z1, h, hf⟩ := bd_s hf
      refine x_ci (x_rV E (As := [.int v2]) (rest := []) (mt_X1_thingIn l D I J O a0 a1 a2 v2 x z1 h) blR (x_recv E hP 0 1 rfl rfl rfl) (x_pcR E hP) ok_X1_thingIn q180 rfl hl.1 rfl (Nat.le_of_ble_eq_true rfl) ⟨Nat.le_of_ble_eq_true rfl, Nat.le_of_ble_eq_true rfl⟩ ⟨Nat.le_of_ble_eq_true rfl, Nat.le_of_ble_eq_true rfl⟩ dX1_indexOf_12) ?_
      refine lv_iload_n hx hb dX1_indexOf_15 rfl (lv_at hl 1 rfl) ?_
      refine lv_icmp_ne (tgt := 21) hx hb dX1_indexOf_16 (by decide) (fun hc => ?_) (fun hc => ?_)
      · rw [if_neg hc] at hf
        refine lv_iinc (v := v2 + 1) (lv' := [(2, .int (v2 + 1)), (0, .ref a0), (1, .int v1)]) hx hb dX1_indexOf_21 hl (k := 2) rfl rfl (by decide) rfl (fun ls hl => ?_)
        refine lv_goto (tgt := 2) hx hb dX1_indexOf_24 (by decide) ?_
        exact ih v1 (v2 + 1) x hf hP _ (lv_sub hl [1, 2, 0] rfl)
      · rw [if_pos hc] at hf
        refine lv_iload_n hx hb dX1_indexOf_19 rfl (lv_at hl 2 rfl) ?_
        exact x_iR E (Option.some.inj hf) dX1_indexOf_20
set_option maxRecDepth 100000 in
set_option maxHeartbeats 4000000 in
theorem mt_X1_indexOf (l : Launch) (D : va_G) (I J O : ClassId) (a0 a1 a2 : Nat) (p0 : Int32) (x : RwC) (r : Int32) (hf : f_X1_indexOf p0 x = some r) : mR l yX1_indexOf cX1_indexOf 3 (some .int) 2 42 D I J O [.ref a0, .int p0] (wRw I a0 a1 a2 x) (qRi r) := by
  refine mR_open (own := RX1) rfl (by decide +kernel) (Nat.le_of_ble_eq_true rfl) (fun p e s m below meth c ls E hP hl => ?_)
  have hx := E.1
  have hb := E.2.1
  have hl : lv_has ls 3 [(0, .ref a0), (1, .int p0)] := hl
  unfold f_X1_indexOf at hf
  refine lv_iconst (v := 0) hx hb dX1_indexOf_0 (by decide) ?_
  refine lv_istore_n (lv' := [(2, .int 0), (0, .ref a0), (1, .int p0)]) hx hb dX1_indexOf_1 rfl hl (by decide) rfl (fun ls hl => ?_)
  exact k_X1_indexOf_2 E a0 a1 a2 r FU p0 0 x hf hP _ (lv_sub hl [1, 2, 0] rfl)
theorem ok_X1_list : yV yX1_list cX1_list 5 (some .int) 1 := ⟨q179, q4, q177, q178, by decide +kernel, by decide +kernel, by decide +kernel⟩
set_option maxRecDepth 100000 in
set_option maxHeartbeats 4000000 in
theorem k_X1_list_4 {p : Program} {l : Launch} {e : Env} {s : State} {m : MethodId} {args : Array Value} {below : List Frame} {meth : Method} {c : Code} {D : va_G} {I J O : ClassId} (E : fx p s m args meth c cX1_list RX1 5 (some .int) D I J O) (a0 a1 a2 : Nat) (b0 : Nat)  {ws0 : va_W} {sz : Nat} (r : Int32) (y1 : Fn) : ∀ fu : Nat, ∀ (v2 : Int32) (v3 : Int32) (x : RwC) (o : Fn), f_X1_list_4 fu v2 v3 x o = some (r, y1) → ∀ (H : Heap) (locs : List Loc), fy D (va_A ws0 sz) s.heap H locs (wRw I a0 a1 a2 x ++ wAr I b0 64 o) → ∀ ls : Array Slot, lv_has ls 5 [(0, .ref a0), (1, .ref b0), (2, .int v2), (3, .int v3)] → W p l e (rmB 2 42 0 0) s m args below meth c H locs 0 0 (MQ below (qMi D sz ws0 r (fun _ : Unit => wRw I a0 a1 a2 x ++ wAr I b0 64 y1)) args s 0 0 (va_A ws0 sz)) (F0 m 4 ls []) := by
  have hx := E.1
  have hb := E.2.1
  intro fu
  induction fu with
  | zero =>
    intro v2 v3 x o hf H locs hw ls hl
    rw [f_X1_list_4.eq_1] at hf
    cases hf
  | succ fu ih =>
    intro v2 v3 x o hf H locs hw ls hl
    rw [f_X1_list_4.eq_2] at hf
    refine lv_iload_n hx hb dX1_list_4 rfl (lv_at hl 3 rfl) ?_
    refine lv_aload_n hx hb dX1_list_5 rfl (lv_at hl 0 rfl) ?_
    refine x_get E hw.1 0 rfl rfl in1 0 (by decide) q64 rfl rfl dX1_list_6 ?_
    refine lv_icmp_ge (tgt := 45) hx hb dX1_list_9 (by decide) (fun hc => ?_) (fun hc => ?_)
    · rw [if_pos hc] at hf
      refine lv_iload_n hx hb dX1_list_45 rfl (lv_at hl 2 rfl) ?_
      obtain ⟨he0, hr⟩ := Prod.mk.inj (Option.some.inj hf)
      have he1 := hr
      subst he1
      exact x_iM E () hw he0 dX1_list_46
    · rw [if_neg hc] at hf
      refine lv_aload_n hx hb dX1_list_12 rfl (lv_at hl 0 rfl) ?_
      refine lv_iload_n hx hb dX1_list_13 rfl (lv_at hl 3 rfl) ?_
      obtain ⟨z1, h, hf⟩ := bd_s hf
      refine x_ci (x_rV E (As := [.int v3]) (rest := []) (mt_X1_thingIn l D I J O a0 a1 a2 v3 x z1 h) blR (x_recv E hw.1 0 1 rfl rfl rfl) (x_pcR E (x_pick0 hw.1 [0, 1, 2] rfl)) ok_X1_thingIn q180 rfl hl.1 rfl (Nat.le_of_ble_eq_true rfl) ⟨Nat.le_of_ble_eq_true rfl, Nat.le_of_ble_eq_true rfl⟩ ⟨Nat.le_of_ble_eq_true rfl, Nat.le_of_ble_eq_true rfl⟩ dX1_list_14) ?_
      refine lv_istore (lv' := [(4, .int z1), (0, .ref a0), (1, .ref b0), (2, .int v2), (3, .int v3)]) hx hb dX1_list_17 hl (by decide) rfl (fun ls hl => ?_)
      refine lv_iload hx hb dX1_list_19 (lv_at hl 0 rfl) ?_
      refine lv_iconst (v := (-1)) hx hb dX1_list_21 (by decide) ?_
      refine lv_icmp_eq (tgt := 39) hx hb dX1_list_22 (by decide) (fun hc => ?_) (fun hc => ?_)
      · rw [if_pos hc] at hf
        refine lv_iinc (v := v3 + 1) (lv' := [(3, .int (v3 + 1)), (4, .int z1), (0, .ref a0), (1, .ref b0), (2, .int v2)]) hx hb dX1_list_39 hl (k := 4) rfl rfl (by decide) rfl (fun ls hl => ?_)
        refine lv_goto (tgt := 4) hx hb dX1_list_42 (by decide) ?_
        exact ih v2 (v3 + 1) x o hf _ _ hw _ (lv_sub hl [2, 3, 4, 0] rfl)
      · rw [if_neg hc] at hf
        refine lv_iload_n hx hb dX1_list_25 rfl (lv_at hl 3 rfl) ?_
        refine lv_aload_n hx hb dX1_list_26 rfl (lv_at hl 2 rfl) ?_
        refine x_alen (v := 64) E hw.1 3 rfl rfl dX1_list_27 ?_
        refine lv_icmp_ge (tgt := 39) hx hb dX1_list_28 (by decide) (fun hc => ?_) (fun hc => ?_)
        · rw [if_pos hc] at hf
          refine lv_iinc (v := v3 + 1) (lv' := [(3, .int (v3 + 1)), (4, .int z1), (0, .ref a0), (1, .ref b0), (2, .int v2)]) hx hb dX1_list_39 hl (k := 4) rfl rfl (by decide) rfl (fun ls hl => ?_)
          refine lv_goto (tgt := 4) hx hb dX1_list_42 (by decide) ?_
          exact ih v2 (v3 + 1) x o hf _ _ hw _ (lv_sub hl [2, 3, 4, 0] rfl)
        · rw [if_neg hc] at hf
          refine lv_aload_n hx hb dX1_list_31 rfl (lv_at hl 2 rfl) ?_
          refine lv_iload_n hx hb dX1_list_32 rfl (lv_at hl 3 rfl) ?_
          refine lv_iload hx hb dX1_list_33 (lv_at hl 0 rfl) ?_
          obtain ⟨g, hf⟩ := gi_s hf
          refine x_ast E hw 3 rfl g dX1_list_35 (fun H locs hw => ?_)
          have hw : fy D (va_A ws0 sz) s.heap H locs (wRw I a0 a1 a2 x ++ wAr I b0 64 (upd o v2.toNatClampNeg z1)) := hw
          refine lv_iinc (v := v2 + 1) (lv' := [(2, .int (v2 + 1)), (4, .int z1), (0, .ref a0), (1, .ref b0), (3, .int v3)]) hx hb dX1_list_36 hl (k := 3) rfl rfl (by decide) rfl (fun ls hl => ?_)
          refine lv_iinc (v := v3 + 1) (lv' := [(3, .int (v3 + 1)), (2, .int (v2 + 1)), (4, .int z1), (0, .ref a0), (1, .ref b0)]) hx hb dX1_list_39 hl (k := 4) rfl rfl (by decide) rfl (fun ls hl => ?_)
          refine lv_goto (tgt := 4) hx hb dX1_list_42 (by decide) ?_
          exact ih (v2 + 1) (v3 + 1) x (upd o v2.toNatClampNeg z1) hf _ _ hw _ (lv_sub hl [3, 4, 1, 0] rfl)
set_option maxRecDepth 100000 in
set_option maxHeartbeats 4000000 in
theorem mt_X1_list (l : Launch) (D : va_G) (I J O : ClassId) (a0 a1 a2 : Nat) (b0 : Nat) (sz : Nat)  (x : RwC) (o : Fn) (r : Int32) (y1 : Fn) (hf : f_X1_list x o = some (r, y1)) : mM l yX1_list cX1_list 5 (some .int) 2 42 0 0 D I J O sz [.ref a0, .ref b0] (wRw I a0 a1 a2 x ++ wAr I b0 64 o) (qMi D sz (wRw I a0 a1 a2 x ++ wAr I b0 64 o) r (fun _ : Unit => wRw I a0 a1 a2 x ++ wAr I b0 64 y1)) := by
  refine mM_open (own := RX1) rfl (by decide +kernel) (Nat.le_of_ble_eq_true rfl) (fun p e s m below meth c ls E hnm hsz hw hl => ?_)
  obtain ⟨ws0, hws⟩ : ∃ ws0 : va_W, ws0 = wRw I a0 a1 a2 x ++ wAr I b0 64 o := ⟨_, rfl⟩
  have hw : fy D (va_A ws0 sz) s.heap s.heap [] (wRw I a0 a1 a2 x ++ wAr I b0 64 o) := by rw [hws]; exact hw
  rw [← hws]
  have hx := E.1
  have hb := E.2.1
  have hl : lv_has ls 5 [(0, .ref a0), (1, .ref b0)] := hl
  unfold f_X1_list at hf
  refine lv_iconst (v := 0) hx hb dX1_list_0 (by decide) ?_
  refine lv_istore_n (lv' := [(2, .int 0), (0, .ref a0), (1, .ref b0)]) hx hb dX1_list_1 rfl hl (by decide) rfl (fun ls hl => ?_)
  refine lv_iconst (v := 0) hx hb dX1_list_2 (by decide) ?_
  refine lv_istore_n (lv' := [(3, .int 0), (2, .int 0), (0, .ref a0), (1, .ref b0)]) hx hb dX1_list_3 rfl hl (by decide) rfl (fun ls hl => ?_)
  exact k_X1_list_4 E a0 a1 a2 b0 r y1 FU 0 0 x o hf _ _ hw _ (lv_sub hl [2, 3, 1, 0] rfl)
theorem ok_X1_insert : yV yX1_insert cX1_insert 4 none 2 := ⟨q263, q4, q261, q262, by decide +kernel, by decide +kernel, by decide +kernel⟩
set_option maxRecDepth 100000 in
set_option maxHeartbeats 4000000 in
theorem k_X1_insert_62 {p : Program} {l : Launch} {e : Env} {s : State} {m : MethodId} {args : Array Value} {below : List Frame} {meth : Method} {c : Code} {D : va_G} {I J O : ClassId} (E : fx p s m args meth c cX1_insert RX1 4 none D I J O) (a0 a1 a2 : Nat)  {ws0 : va_W} {sz : Nat} (y0 : RwC) : ∀ fu : Nat, ∀ (v1 : Int32) (v3 : Int32) (x : RwC), f_X1_insert_62 fu v1 v3 x = some y0 → ∀ (H : Heap) (locs : List Loc), fy D (va_A ws0 sz) s.heap H locs (wRw I a0 a1 a2 x) → ∀ ls : Array Slot, lv_has ls 4 [(0, .ref a0), (1, .int v1), (3, .int v3)] → W p l e (rmB 1 18 0 0) s m args below meth c H locs 0 0 (MQ below (qMv D sz ws0 (fun _ : Unit => wRw I a0 a1 a2 y0)) args s 0 0 (va_A ws0 sz)) (F0 m 62 ls []) := by
  have hx := E.1
  have hb := E.2.1
  intro fu
  induction fu with
  | zero =>
    intro v1 v3 x hf H locs hw ls hl
    rw [f_X1_insert_62.eq_1] at hf
    cases hf
  | succ fu ih =>
    intro v1 v3 x hf H locs hw ls hl
    rw [f_X1_insert_62.eq_2] at hf
    refine lv_iload_n hx hb dX1_insert_62 rfl (lv_at hl 2 rfl) ?_
    refine lv_iconst (v := 4) hx hb dX1_insert_63 (by decide) ?_
    refine lv_icmp_ge (tgt := 93) hx hb dX1_insert_64 (by decide) (fun hc => ?_) (fun hc => ?_)
    · rw [if_pos hc] at hf
      have he0 := (Option.some.inj hf)
      subst he0
      exact x_vM E () hw dX1_insert_93
    · rw [if_neg hc] at hf
      refine lv_aload_n hx hb dX1_insert_67 rfl (lv_at hl 0 rfl) ?_
      refine x_get E hw.1 0 rfl rfl in1 2 (by decide) q66 rfl rfl dX1_insert_68 ?_
      refine lv_iload_n hx hb dX1_insert_71 rfl (lv_at hl 2 rfl) ?_
      obtain ⟨g, hf⟩ := gi_s hf
      refine x_ald E hw.1 2 rfl g dX1_insert_72 ?_
      refine lv_iload_n hx hb dX1_insert_73 rfl (lv_at hl 1 rfl) ?_
      refine lv_icmp_lt (tgt := 87) hx hb dX1_insert_74 (by decide) (fun hc => ?_) (fun hc => ?_)
      · rw [if_pos hc] at hf
        refine lv_iinc (v := v3 + 1) (lv' := [(3, .int (v3 + 1)), (0, .ref a0), (1, .int v1)]) hx hb dX1_insert_87 hl (k := 2) rfl rfl (by decide) rfl (fun ls hl => ?_)
        refine lv_goto (tgt := 62) hx hb dX1_insert_90 (by decide) ?_
        exact ih v1 (v3 + 1) x hf _ _ hw _ (lv_sub hl [1, 2, 0] rfl)
      · rw [if_neg hc] at hf
        refine lv_aload_n hx hb dX1_insert_77 rfl (lv_at hl 0 rfl) ?_
        refine x_get E hw.1 0 rfl rfl in1 2 (by decide) q66 rfl rfl dX1_insert_78 ?_
        refine lv_iload_n hx hb dX1_insert_81 rfl (lv_at hl 2 rfl) ?_
        refine lv_dup2_11 hx hb dX1_insert_82 rfl rfl ?_
        obtain ⟨g, hf⟩ := gi_s hf
        refine x_ald E hw.1 2 rfl g dX1_insert_83 ?_
        refine lv_iconst (v := 1) hx hb dX1_insert_84 (by decide) ?_
        refine lv_iadd hx hb dX1_insert_85 ?_
        obtain ⟨g, hf⟩ := gi_s hf
        refine x_ast E hw 2 rfl g dX1_insert_86 (fun H locs hw => ?_)
        have hw : fy D (va_A ws0 sz) s.heap H locs (wRw I a0 a1 a2 (x.1, x.2.1, (upd x.2.2 v3.toNatClampNeg ((x.2.2 v3.toNatClampNeg) + 1)))) := hw
        refine lv_iinc (v := v3 + 1) (lv' := [(3, .int (v3 + 1)), (0, .ref a0), (1, .int v1)]) hx hb dX1_insert_87 hl (k := 2) rfl rfl (by decide) rfl (fun ls hl => ?_)
        refine lv_goto (tgt := 62) hx hb dX1_insert_90 (by decide) ?_
        exact ih v1 (v3 + 1) (x.1, x.2.1, (upd x.2.2 v3.toNatClampNeg ((x.2.2 v3.toNatClampNeg) + 1))) hf _ _ hw _ (lv_sub hl [1, 2, 0] rfl)
set_option maxRecDepth 100000 in
set_option maxHeartbeats 4000000 in
theorem mt_X1_insert (l : Launch) (D : va_G) (I J O : ClassId) (a0 a1 a2 : Nat) (sz : Nat) (p0 : Int32) (p1 : Int32) (x : RwC) (y0 : RwC) (hf : f_X1_insert p0 p1 x = some y0) : mM l yX1_insert cX1_insert 4 none 1 18 0 0 D I J O sz [.ref a0, .int p0, .int p1] (wRw I a0 a1 a2 x) (qMv D sz (wRw I a0 a1 a2 x) (fun _ : Unit => wRw I a0 a1 a2 y0)) := by
  refine mM_open (own := RX1) rfl (by decide +kernel) (Nat.le_of_ble_eq_true rfl) (fun p e s m below meth c ls E hnm hsz hw hl => ?_)
  obtain ⟨ws0, hws⟩ : ∃ ws0 : va_W, ws0 = wRw I a0 a1 a2 x := ⟨_, rfl⟩
  have hw : fy D (va_A ws0 sz) s.heap s.heap [] (wRw I a0 a1 a2 x) := by rw [hws]; exact hw
  rw [← hws]
  have hx := E.1
  have hb := E.2.1
  have hl : lv_has ls 4 [(0, .ref a0), (1, .int p0), (2, .int p1)] := hl
  unfold f_X1_insert at hf
  refine lv_iload_n hx hb dX1_insert_0 rfl (lv_at hl 1 rfl) ?_
  refine lv_if_lt (tgt := 21) hx hb dX1_insert_1 (by decide) (fun hc => ?_) (fun hc => ?_)
  · rw [if_pos hc] at hf
    have he0 := (Option.some.inj hf)
    subst he0
    exact x_vM E () hw dX1_insert_21
  · rw [if_neg hc] at hf
    refine lv_iload_n hx hb dX1_insert_4 rfl (lv_at hl 1 rfl) ?_
    refine lv_aload_n hx hb dX1_insert_5 rfl (lv_at hl 0 rfl) ?_
    refine x_get E hw.1 0 rfl rfl in1 0 (by decide) q64 rfl rfl dX1_insert_6 ?_
    refine lv_icmp_gt (tgt := 21) hx hb dX1_insert_9 (by decide) (fun hc => ?_) (fun hc => ?_)
    · rw [if_pos hc] at hf
      have he0 := (Option.some.inj hf)
      subst he0
      exact x_vM E () hw dX1_insert_21
    · rw [if_neg hc] at hf
      refine lv_aload_n hx hb dX1_insert_12 rfl (lv_at hl 0 rfl) ?_
      refine x_get E hw.1 0 rfl rfl in1 0 (by decide) q64 rfl rfl dX1_insert_13 ?_
      refine lv_bipush (v := 68) hx hb dX1_insert_16 (by decide) ?_
      refine lv_icmp_lt (tgt := 22) hx hb dX1_insert_18 (by decide) (fun hc => ?_) (fun hc => ?_)
      · rw [if_pos hc] at hf
        refine lv_aload_n hx hb dX1_insert_22 rfl (lv_at hl 0 rfl) ?_
        refine x_get E hw.1 0 rfl rfl in1 1 (by decide) q65 rfl rfl dX1_insert_23 ?_
        refine lv_iload_n hx hb dX1_insert_26 rfl (lv_at hl 1 rfl) ?_
        refine lv_aload_n hx hb dX1_insert_27 rfl (lv_at hl 0 rfl) ?_
        refine x_get E hw.1 0 rfl rfl in1 1 (by decide) q65 rfl rfl dX1_insert_28 ?_
        refine lv_iload_n hx hb dX1_insert_31 rfl (lv_at hl 1 rfl) ?_
        refine lv_iconst (v := 1) hx hb dX1_insert_32 (by decide) ?_
        refine lv_iadd hx hb dX1_insert_33 ?_
        refine lv_aload_n hx hb dX1_insert_34 rfl (lv_at hl 0 rfl) ?_
        refine x_get E hw.1 0 rfl rfl in1 0 (by decide) q64 rfl rfl dX1_insert_35 ?_
        refine lv_iload_n hx hb dX1_insert_38 rfl (lv_at hl 1 rfl) ?_
        refine lv_isub hx hb dX1_insert_39 ?_
        obtain ⟨g, hf⟩ := gcp_s hf
        refine x_copy E hl.1 q171 q166 q165 q12 hw 1 1 rfl rfl g (Nat.le_of_ble_eq_true rfl) (Nat.le_of_ble_eq_true rfl) dX1_insert_40 (fun H locs hw => ?_)
        have hw : fy D (va_A ws0 sz) s.heap H locs (wRw I a0 a1 a2 (x.1, (va_cpy x.2.1 x.2.1 p0.toNatClampNeg (p0 + 1).toNatClampNeg (x.1 - p0).toNatClampNeg), x.2.2)) := hw
        refine lv_aload_n hx hb dX1_insert_43 rfl (lv_at hl 0 rfl) ?_
        refine x_get E hw.1 0 rfl rfl in1 1 (by decide) q65 rfl rfl dX1_insert_44 ?_
        refine lv_iload_n hx hb dX1_insert_47 rfl (lv_at hl 1 rfl) ?_
        refine lv_iload_n hx hb dX1_insert_48 rfl (lv_at hl 2 rfl) ?_
        obtain ⟨g, hf⟩ := gi_s hf
        refine x_ast E hw 1 rfl g dX1_insert_49 (fun H locs hw => ?_)
        have hw : fy D (va_A ws0 sz) s.heap H locs (wRw I a0 a1 a2 (x.1, (upd (va_cpy x.2.1 x.2.1 p0.toNatClampNeg (p0 + 1).toNatClampNeg (x.1 - p0).toNatClampNeg) p0.toNatClampNeg p1), x.2.2)) := hw
        refine lv_aload_n hx hb dX1_insert_50 rfl (lv_at hl 0 rfl) ?_
        refine lv_dup hx hb dX1_insert_51 rfl ?_
        refine x_get E hw.1 0 rfl rfl in1 0 (by decide) q64 rfl rfl dX1_insert_52 ?_
        refine lv_iconst (v := 1) hx hb dX1_insert_55 (by decide) ?_
        refine lv_iadd hx hb dX1_insert_56 ?_
        refine x_put E hw 0 rfl rfl in1 tyX1_ok nmX1 0 (by decide) q64 rfl rfl rfl rfl (Nat.le_of_ble_eq_true rfl) dX1_insert_57 (fun H locs hw => ?_)
        have hw : fy D (va_A ws0 sz) s.heap H locs (wRw I a0 a1 a2 (x.1 + 1, (upd (va_cpy x.2.1 x.2.1 p0.toNatClampNeg (p0 + 1).toNatClampNeg (x.1 - p0).toNatClampNeg) p0.toNatClampNeg p1), x.2.2)) := hw
        refine lv_iconst (v := 0) hx hb dX1_insert_60 (by decide) ?_
        refine lv_istore_n (lv' := [(3, .int 0), (0, .ref a0), (1, .int p0), (2, .int p1)]) hx hb dX1_insert_61 rfl hl (by decide) rfl (fun ls hl => ?_)
        exact k_X1_insert_62 E a0 a1 a2 y0 FU p0 0 (x.1 + 1, (upd (va_cpy x.2.1 x.2.1 p0.toNatClampNeg (p0 + 1).toNatClampNeg (x.1 - p0).toNatClampNeg) p0.toNatClampNeg p1), x.2.2) hf _ _ hw _ (lv_sub hl [1, 2, 0] rfl)
      · rw [if_neg hc] at hf
        have he0 := (Option.some.inj hf)
        subst he0
        exact x_vM E () hw dX1_insert_21
theorem ok_X1_walkersOn : yV yX1_walkersOn cX1_walkersOn 4 (some .int) 1 := ⟨q235, q4, q233, q234, by decide +kernel, by decide +kernel, by decide +kernel⟩
set_option maxRecDepth 100000 in
set_option maxHeartbeats 4000000 in
theorem k_X1_walkersOn_4 {p : Program} {l : Launch} {e : Env} {s : State} {m : MethodId} {args : Array Value} {below : List Frame} {meth : Method} {c : Code} {D : va_G} {I J O : ClassId} (E : fx p s m args meth c cX1_walkersOn RX1 4 (some .int) D I J O) (a0 a1 a2 : Nat)  (r : Int32) : ∀ fu : Nat, ∀ (v1 : Int32) (v2 : Int32) (v3 : Int32) (x : RwC), f_X1_walkersOn_4 fu v1 v2 v3 x = some r → va_P D vwCl (wRw I a0 a1 a2 x) s.heap → ∀ ls : Array Slot, lv_has ls 4 [(0, .ref a0), (1, .int v1), (2, .int v2), (3, .int v3)] → W p l e (rmB 0 0 0 0) s m args below meth c s.heap [] 0 0 (MQ below (qRi r) args s 0 0 (fun _ => False)) (F0 m 4 ls []) := by
  have hx := E.1
  have hb := E.2.1
  intro fu
  induction fu with
  | zero =>
    intro v1 v2 v3 x hf hP ls hl
    rw [f_X1_walkersOn_4.eq_1] at hf
    cases hf
  | succ fu ih =>
    intro v1 v2 v3 x hf hP ls hl
    rw [f_X1_walkersOn_4.eq_2] at hf
    refine lv_iload_n hx hb dX1_walkersOn_4 rfl (lv_at hl 3 rfl) ?_
    refine lv_iconst (v := 4) hx hb dX1_walkersOn_5 (by decide) ?_
    refine lv_icmp_ge (tgt := 28) hx hb dX1_walkersOn_6 (by decide) (fun hc => ?_) (fun hc => ?_)
    · rw [if_pos hc] at hf
      refine lv_iload_n hx hb dX1_walkersOn_28 rfl (lv_at hl 2 rfl) ?_
      exact x_iR E (Option.some.inj hf) dX1_walkersOn_29
    · rw [if_neg hc] at hf
      refine lv_aload_n hx hb dX1_walkersOn_9 rfl (lv_at hl 0 rfl) ?_
      refine x_get E hP 0 rfl rfl in1 2 (by decide) q66 rfl rfl dX1_walkersOn_10 ?_
      refine lv_iload_n hx hb dX1_walkersOn_13 rfl (lv_at hl 3 rfl) ?_
      obtain ⟨g, hf⟩ := gi_s hf
      refine x_ald E hP 2 rfl g dX1_walkersOn_14 ?_
      refine lv_iload_n hx hb dX1_walkersOn_15 rfl (lv_at hl 1 rfl) ?_
      refine lv_icmp_ne (tgt := 22) hx hb dX1_walkersOn_16 (by decide) (fun hc => ?_) (fun hc => ?_)
      · rw [if_neg hc] at hf
        refine lv_iinc (v := v3 + 1) (lv' := [(3, .int (v3 + 1)), (0, .ref a0), (1, .int v1), (2, .int v2)]) hx hb dX1_walkersOn_22 hl (k := 3) rfl rfl (by decide) rfl (fun ls hl => ?_)
        refine lv_goto (tgt := 4) hx hb dX1_walkersOn_25 (by decide) ?_
        exact ih v1 v2 (v3 + 1) x hf hP _ (lv_sub hl [1, 2, 3, 0] rfl)
      · rw [if_pos hc] at hf
        refine lv_iinc (v := v2 + 1) (lv' := [(2, .int (v2 + 1)), (0, .ref a0), (1, .int v1), (3, .int v3)]) hx hb dX1_walkersOn_19 hl (k := 2) rfl rfl (by decide) rfl (fun ls hl => ?_)
        refine lv_iinc (v := v3 + 1) (lv' := [(3, .int (v3 + 1)), (2, .int (v2 + 1)), (0, .ref a0), (1, .int v1)]) hx hb dX1_walkersOn_22 hl (k := 3) rfl rfl (by decide) rfl (fun ls hl => ?_)
        refine lv_goto (tgt := 4) hx hb dX1_walkersOn_25 (by decide) ?_
        exact ih v1 (v2 + 1) (v3 + 1) x hf hP _ (lv_sub hl [2, 3, 1, 0] rfl)
set_option maxRecDepth 100000 in
set_option maxHeartbeats 4000000 in
theorem mt_X1_walkersOn (l : Launch) (D : va_G) (I J O : ClassId) (a0 a1 a2 : Nat) (p0 : Int32) (x : RwC) (r : Int32) (hf : f_X1_walkersOn p0 x = some r) : mR l yX1_walkersOn cX1_walkersOn 4 (some .int) 0 0 D I J O [.ref a0, .int p0] (wRw I a0 a1 a2 x) (qRi r) := by
  refine mR_open (own := RX1) rfl (by decide +kernel) (Nat.le_of_ble_eq_true rfl) (fun p e s m below meth c ls E hP hl => ?_)
  have hx := E.1
  have hb := E.2.1
  have hl : lv_has ls 4 [(0, .ref a0), (1, .int p0)] := hl
  unfold f_X1_walkersOn at hf
  refine lv_iconst (v := 0) hx hb dX1_walkersOn_0 (by decide) ?_
  refine lv_istore_n (lv' := [(2, .int 0), (0, .ref a0), (1, .int p0)]) hx hb dX1_walkersOn_1 rfl hl (by decide) rfl (fun ls hl => ?_)
  refine lv_iconst (v := 0) hx hb dX1_walkersOn_2 (by decide) ?_
  refine lv_istore_n (lv' := [(3, .int 0), (2, .int 0), (0, .ref a0), (1, .int p0)]) hx hb dX1_walkersOn_3 rfl hl (by decide) rfl (fun ls hl => ?_)
  exact k_X1_walkersOn_4 E a0 a1 a2 r FU p0 0 0 x hf hP _ (lv_sub hl [2, 3, 1, 0] rfl)
theorem ok_X1_sweep : yV yX1_sweep cX1_sweep 3 none 1 := ⟨q231, q4, q230, qs4, by decide +kernel, by decide +kernel, by decide +kernel⟩
set_option maxRecDepth 100000 in
set_option maxHeartbeats 4000000 in
theorem k_X1_sweep_62 {p : Program} {l : Launch} {e : Env} {s : State} {m : MethodId} {args : Array Value} {below : List Frame} {meth : Method} {c : Code} {D : va_G} {I J O : ClassId} (E : fx p s m args meth c cX1_sweep RX1 3 none D I J O) (a0 a1 a2 : Nat)  {ws0 : va_W} {sz : Nat} (y0 : RwC) : ∀ fu : Nat, ∀ (v1 : Int32) (v2 : Int32) (x : RwC), f_X1_sweep_62 fu v1 v2 x = some y0 → ∀ (H : Heap) (locs : List Loc), fy D (va_A ws0 sz) s.heap H locs (wRw I a0 a1 a2 x) → ∀ ls : Array Slot, lv_has ls 3 [(0, .ref a0), (1, .int v1), (2, .int v2)] → W p l e (rmB 1 23 0 0) s m args below meth c H locs 0 0 (MQ below (qMv D sz ws0 (fun _ : Unit => wRw I a0 a1 a2 y0)) args s 0 0 (va_A ws0 sz)) (F0 m 62 ls []) := by
  have hx := E.1
  have hb := E.2.1
  intro fu
  induction fu with
  | zero =>
    intro v1 v2 x hf H locs hw ls hl
    rw [f_X1_sweep_62.eq_1] at hf
    cases hf
  | succ fu ih =>
    intro v1 v2 x hf H locs hw ls hl
    rw [f_X1_sweep_62.eq_2] at hf
    refine lv_iload_n hx hb dX1_sweep_62 rfl (lv_at hl 2 rfl) ?_
    refine lv_iconst (v := 4) hx hb dX1_sweep_63 (by decide) ?_
    refine lv_icmp_ge (tgt := 93) hx hb dX1_sweep_64 (by decide) (fun hc => ?_) (fun hc => ?_)
    · rw [if_pos hc] at hf
      have he0 := (Option.some.inj hf)
      subst he0
      exact x_vM E () hw dX1_sweep_93
    · rw [if_neg hc] at hf
      refine lv_aload_n hx hb dX1_sweep_67 rfl (lv_at hl 0 rfl) ?_
      refine x_get E hw.1 0 rfl rfl in1 2 (by decide) q66 rfl rfl dX1_sweep_68 ?_
      refine lv_iload_n hx hb dX1_sweep_71 rfl (lv_at hl 2 rfl) ?_
      obtain ⟨g, hf⟩ := gi_s hf
      refine x_ald E hw.1 2 rfl g dX1_sweep_72 ?_
      refine lv_iload_n hx hb dX1_sweep_73 rfl (lv_at hl 1 rfl) ?_
      refine lv_icmp_le (tgt := 87) hx hb dX1_sweep_74 (by decide) (fun hc => ?_) (fun hc => ?_)
      · rw [if_pos hc] at hf
        refine lv_iinc (v := v2 + 1) (lv' := [(2, .int (v2 + 1)), (0, .ref a0), (1, .int v1)]) hx hb dX1_sweep_87 hl (k := 2) rfl rfl (by decide) rfl (fun ls hl => ?_)
        refine lv_goto (tgt := 62) hx hb dX1_sweep_90 (by decide) ?_
        exact ih v1 (v2 + 1) x hf _ _ hw _ (lv_sub hl [1, 2, 0] rfl)
      · rw [if_neg hc] at hf
        refine lv_aload_n hx hb dX1_sweep_77 rfl (lv_at hl 0 rfl) ?_
        refine x_get E hw.1 0 rfl rfl in1 2 (by decide) q66 rfl rfl dX1_sweep_78 ?_
        refine lv_iload_n hx hb dX1_sweep_81 rfl (lv_at hl 2 rfl) ?_
        refine lv_dup2_11 hx hb dX1_sweep_82 rfl rfl ?_
        obtain ⟨g, hf⟩ := gi_s hf
        refine x_ald E hw.1 2 rfl g dX1_sweep_83 ?_
        refine lv_iconst (v := 1) hx hb dX1_sweep_84 (by decide) ?_
        refine lv_isub hx hb dX1_sweep_85 ?_
        obtain ⟨g, hf⟩ := gi_s hf
        refine x_ast E hw 2 rfl g dX1_sweep_86 (fun H locs hw => ?_)
        have hw : fy D (va_A ws0 sz) s.heap H locs (wRw I a0 a1 a2 (x.1, x.2.1, (upd x.2.2 v2.toNatClampNeg ((x.2.2 v2.toNatClampNeg) - 1)))) := hw
        refine lv_iinc (v := v2 + 1) (lv' := [(2, .int (v2 + 1)), (0, .ref a0), (1, .int v1)]) hx hb dX1_sweep_87 hl (k := 2) rfl rfl (by decide) rfl (fun ls hl => ?_)
        refine lv_goto (tgt := 62) hx hb dX1_sweep_90 (by decide) ?_
        exact ih v1 (v2 + 1) (x.1, x.2.1, (upd x.2.2 v2.toNatClampNeg ((x.2.2 v2.toNatClampNeg) - 1))) hf _ _ hw _ (lv_sub hl [1, 2, 0] rfl)
set_option maxRecDepth 100000 in
set_option maxHeartbeats 4000000 in
theorem mt_X1_sweep (l : Launch) (D : va_G) (I J O : ClassId) (a0 a1 a2 : Nat) (sz : Nat) (p0 : Int32) (x : RwC) (y0 : RwC) (hf : f_X1_sweep p0 x = some y0) : mM l yX1_sweep cX1_sweep 3 none 1 23 0 0 D I J O sz [.ref a0, .int p0] (wRw I a0 a1 a2 x) (qMv D sz (wRw I a0 a1 a2 x) (fun _ : Unit => wRw I a0 a1 a2 y0)) := by
  refine mM_open (own := RX1) rfl (by decide +kernel) (Nat.le_of_ble_eq_true rfl) (fun p e s m below meth c ls E hnm hsz hw hl => ?_)
  obtain ⟨ws0, hws⟩ : ∃ ws0 : va_W, ws0 = wRw I a0 a1 a2 x := ⟨_, rfl⟩
  have hw : fy D (va_A ws0 sz) s.heap s.heap [] (wRw I a0 a1 a2 x) := by rw [hws]; exact hw
  rw [← hws]
  have hx := E.1
  have hb := E.2.1
  have hl : lv_has ls 3 [(0, .ref a0), (1, .int p0)] := hl
  unfold f_X1_sweep at hf
  refine lv_aload_n hx hb dX1_sweep_0 rfl (lv_at hl 0 rfl) ?_
  refine lv_iload_n hx hb dX1_sweep_1 rfl (lv_at hl 1 rfl) ?_
  obtain ⟨z1, h, hf⟩ := bd_s hf
  refine x_ci (x_rV E (As := [.int p0]) (rest := []) (mt_X1_isEntry l D I J O a0 a1 a2 p0 x z1 h) blR (x_recv E hw.1 0 1 rfl rfl rfl) (x_pcR E hw.1) ok_X1_isEntry q184 rfl hl.1 rfl (Nat.le_of_ble_eq_true rfl) ⟨Nat.le_of_ble_eq_true rfl, Nat.le_of_ble_eq_true rfl⟩ ⟨Nat.le_of_ble_eq_true rfl, Nat.le_of_ble_eq_true rfl⟩ dX1_sweep_2) ?_
  refine lv_if_eq (tgt := 26) hx hb dX1_sweep_5 (by decide) (fun hc => ?_) (fun hc => ?_)
  · rw [if_pos hc] at hf
    have he0 := (Option.some.inj hf)
    subst he0
    exact x_vM E () hw dX1_sweep_26
  · rw [if_neg hc] at hf
    refine lv_aload_n hx hb dX1_sweep_8 rfl (lv_at hl 0 rfl) ?_
    refine x_get E hw.1 0 rfl rfl in1 1 (by decide) q65 rfl rfl dX1_sweep_9 ?_
    refine lv_iload_n hx hb dX1_sweep_12 rfl (lv_at hl 1 rfl) ?_
    obtain ⟨g, hf⟩ := gi_s hf
    refine x_ald E hw.1 1 rfl g dX1_sweep_13 ?_
    refine lv_iconst (v := (-1)) hx hb dX1_sweep_14 (by decide) ?_
    refine lv_icmp_ne (tgt := 26) hx hb dX1_sweep_15 (by decide) (fun hc => ?_) (fun hc => ?_)
    · rw [if_neg hc] at hf
      have he0 := (Option.some.inj hf)
      subst he0
      exact x_vM E () hw dX1_sweep_26
    · rw [if_pos hc] at hf
      refine lv_aload_n hx hb dX1_sweep_18 rfl (lv_at hl 0 rfl) ?_
      refine lv_iload_n hx hb dX1_sweep_19 rfl (lv_at hl 1 rfl) ?_
      obtain ⟨z2, h, hf⟩ := bd_s hf
      refine x_ci (x_rV E (As := [.int p0]) (rest := []) (mt_X1_walkersOn l D I J O a0 a1 a2 p0 x z2 h) blR (x_recv E hw.1 0 1 rfl rfl rfl) (x_pcR E hw.1) ok_X1_walkersOn q232 rfl hl.1 rfl (Nat.le_of_ble_eq_true rfl) ⟨Nat.le_of_ble_eq_true rfl, Nat.le_of_ble_eq_true rfl⟩ ⟨Nat.le_of_ble_eq_true rfl, Nat.le_of_ble_eq_true rfl⟩ dX1_sweep_20) ?_
      refine lv_if_le (tgt := 27) hx hb dX1_sweep_23 (by decide) (fun hc => ?_) (fun hc => ?_)
      · rw [if_pos hc] at hf
        refine lv_aload_n hx hb dX1_sweep_27 rfl (lv_at hl 0 rfl) ?_
        refine x_get E hw.1 0 rfl rfl in1 1 (by decide) q65 rfl rfl dX1_sweep_28 ?_
        refine lv_iload_n hx hb dX1_sweep_31 rfl (lv_at hl 1 rfl) ?_
        refine lv_iconst (v := 1) hx hb dX1_sweep_32 (by decide) ?_
        refine lv_iadd hx hb dX1_sweep_33 ?_
        refine lv_aload_n hx hb dX1_sweep_34 rfl (lv_at hl 0 rfl) ?_
        refine x_get E hw.1 0 rfl rfl in1 1 (by decide) q65 rfl rfl dX1_sweep_35 ?_
        refine lv_iload_n hx hb dX1_sweep_38 rfl (lv_at hl 1 rfl) ?_
        refine lv_aload_n hx hb dX1_sweep_39 rfl (lv_at hl 0 rfl) ?_
        refine x_get E hw.1 0 rfl rfl in1 0 (by decide) q64 rfl rfl dX1_sweep_40 ?_
        refine lv_iload_n hx hb dX1_sweep_43 rfl (lv_at hl 1 rfl) ?_
        refine lv_isub hx hb dX1_sweep_44 ?_
        refine lv_iconst (v := 1) hx hb dX1_sweep_45 (by decide) ?_
        refine lv_isub hx hb dX1_sweep_46 ?_
        obtain ⟨g, hf⟩ := gcp_s hf
        refine x_copy E hl.1 q171 q166 q165 q12 hw 1 1 rfl rfl g (Nat.le_of_ble_eq_true rfl) (Nat.le_of_ble_eq_true rfl) dX1_sweep_47 (fun H locs hw => ?_)
        have hw : fy D (va_A ws0 sz) s.heap H locs (wRw I a0 a1 a2 (x.1, (va_cpy x.2.1 x.2.1 (p0 + 1).toNatClampNeg p0.toNatClampNeg ((x.1 - p0) - 1).toNatClampNeg), x.2.2)) := hw
        refine lv_aload_n hx hb dX1_sweep_50 rfl (lv_at hl 0 rfl) ?_
        refine lv_dup hx hb dX1_sweep_51 rfl ?_
        refine x_get E hw.1 0 rfl rfl in1 0 (by decide) q64 rfl rfl dX1_sweep_52 ?_
        refine lv_iconst (v := 1) hx hb dX1_sweep_55 (by decide) ?_
        refine lv_isub hx hb dX1_sweep_56 ?_
        refine x_put E hw 0 rfl rfl in1 tyX1_ok nmX1 0 (by decide) q64 rfl rfl rfl rfl (Nat.le_of_ble_eq_true rfl) dX1_sweep_57 (fun H locs hw => ?_)
        have hw : fy D (va_A ws0 sz) s.heap H locs (wRw I a0 a1 a2 (x.1 - 1, (va_cpy x.2.1 x.2.1 (p0 + 1).toNatClampNeg p0.toNatClampNeg ((x.1 - p0) - 1).toNatClampNeg), x.2.2)) := hw
        refine lv_iconst (v := 0) hx hb dX1_sweep_60 (by decide) ?_
        refine lv_istore_n (lv' := [(2, .int 0), (0, .ref a0), (1, .int p0)]) hx hb dX1_sweep_61 rfl hl (by decide) rfl (fun ls hl => ?_)
        exact k_X1_sweep_62 E a0 a1 a2 y0 FU p0 0 (x.1 - 1, (va_cpy x.2.1 x.2.1 (p0 + 1).toNatClampNeg p0.toNatClampNeg ((x.1 - p0) - 1).toNatClampNeg), x.2.2) hf _ _ hw _ (lv_sub hl [1, 2, 0] rfl)
      · rw [if_neg hc] at hf
        have he0 := (Option.some.inj hf)
        subst he0
        exact x_vM E () hw dX1_sweep_26
theorem ok_X1_bury : yV yX1_bury cX1_bury 3 none 1 := ⟨q223, q4, q221, q222, by decide +kernel, by decide +kernel, by decide +kernel⟩
set_option maxRecDepth 100000 in
set_option maxHeartbeats 4000000 in
theorem mt_X1_bury (l : Launch) (D : va_G) (I J O : ClassId) (a0 a1 a2 : Nat) (sz : Nat) (p0 : Int32) (x : RwC) (y0 : RwC) (hf : f_X1_bury p0 x = some y0) : mM l yX1_bury cX1_bury 3 none 3 64 0 0 D I J O sz [.ref a0, .int p0] (wRw I a0 a1 a2 x) (qMv D sz (wRw I a0 a1 a2 x) (fun _ : Unit => wRw I a0 a1 a2 y0)) := by
  refine mM_open (own := RX1) rfl (by decide +kernel) (Nat.le_of_ble_eq_true rfl) (fun p e s m below meth c ls E hnm hsz hw hl => ?_)
  obtain ⟨ws0, hws⟩ : ∃ ws0 : va_W, ws0 = wRw I a0 a1 a2 x := ⟨_, rfl⟩
  have hw : fy D (va_A ws0 sz) s.heap s.heap [] (wRw I a0 a1 a2 x) := by rw [hws]; exact hw
  rw [← hws]
  have hx := E.1
  have hb := E.2.1
  have hl : lv_has ls 3 [(0, .ref a0), (1, .int p0)] := hl
  unfold f_X1_bury at hf
  refine lv_aload_n hx hb dX1_bury_0 rfl (lv_at hl 0 rfl) ?_
  refine lv_iload_n hx hb dX1_bury_1 rfl (lv_at hl 1 rfl) ?_
  obtain ⟨z1, h, hf⟩ := bd_s hf
  refine x_ci (x_rV E (As := [.int p0]) (rest := []) (mt_X1_indexOf l D I J O a0 a1 a2 p0 x z1 h) blR (x_recv E hw.1 0 1 rfl rfl rfl) (x_pcR E hw.1) ok_X1_indexOf q224 rfl hl.1 rfl (Nat.le_of_ble_eq_true rfl) ⟨Nat.le_of_ble_eq_true rfl, Nat.le_of_ble_eq_true rfl⟩ ⟨Nat.le_of_ble_eq_true rfl, Nat.le_of_ble_eq_true rfl⟩ dX1_bury_2) ?_
  refine lv_istore_n (lv' := [(2, .int z1), (0, .ref a0), (1, .int p0)]) hx hb dX1_bury_5 rfl hl (by decide) rfl (fun ls hl => ?_)
  refine lv_aload_n hx hb dX1_bury_6 rfl (lv_at hl 1 rfl) ?_
  refine lv_iload_n hx hb dX1_bury_7 rfl (lv_at hl 0 rfl) ?_
  obtain ⟨z2, h, hf⟩ := bd_s hf
  refine x_ci (x_rV E (As := [.int z1]) (rest := []) (mt_X1_isEntry l D I J O a0 a1 a2 z1 x z2 h) blR (x_recv E hw.1 0 1 rfl rfl rfl) (x_pcR E hw.1) ok_X1_isEntry q184 rfl hl.1 rfl (Nat.le_of_ble_eq_true rfl) ⟨Nat.le_of_ble_eq_true rfl, Nat.le_of_ble_eq_true rfl⟩ ⟨Nat.le_of_ble_eq_true rfl, Nat.le_of_ble_eq_true rfl⟩ dX1_bury_8) ?_
  refine lv_if_eq (tgt := 26) hx hb dX1_bury_11 (by decide) (fun hc => ?_) (fun hc => ?_)
  · rw [if_pos hc] at hf
    have he0 := (Option.some.inj hf)
    subst he0
    exact x_vM E () hw dX1_bury_26
  · rw [if_neg hc] at hf
    refine lv_aload_n hx hb dX1_bury_14 rfl (lv_at hl 1 rfl) ?_
    refine x_get E hw.1 0 rfl rfl in1 1 (by decide) q65 rfl rfl dX1_bury_15 ?_
    refine lv_iload_n hx hb dX1_bury_18 rfl (lv_at hl 0 rfl) ?_
    refine lv_iconst (v := (-1)) hx hb dX1_bury_19 (by decide) ?_
    obtain ⟨g, hf⟩ := gi_s hf
    refine x_ast E hw 1 rfl g dX1_bury_20 (fun H locs hw => ?_)
    have hw : fy D (va_A ws0 sz) s.heap H locs (wRw I a0 a1 a2 (x.1, (upd x.2.1 z1.toNatClampNeg (-1)), x.2.2)) := hw
    refine lv_aload_n hx hb dX1_bury_21 rfl (lv_at hl 1 rfl) ?_
    refine lv_iload_n hx hb dX1_bury_22 rfl (lv_at hl 0 rfl) ?_
    obtain ⟨z3, h, hf⟩ := bd_s hf
    refine x_mv0 hw [0, 1, 2] rfl rfl (x_rV E (As := [.int z1]) (rest := []) (mt_X1_sweep l D I J O a0 a1 a2 H.size z1 (x.1, (upd x.2.1 z1.toNatClampNeg (-1)), x.2.2) z3 h) blM (x_recv E hw.1 0 1 rfl rfl rfl) (x_pcMQ0 E hw [0, 1, 2] rfl rfl) ok_X1_sweep q228 rfl hl.1 rfl (Nat.le_of_ble_eq_true rfl) ⟨Nat.le_of_ble_eq_true rfl, Nat.le_of_ble_eq_true rfl⟩ ⟨Nat.le_of_ble_eq_true rfl, Nat.le_of_ble_eq_true rfl⟩ dX1_bury_23) (fun _ => rfl) (fun _ H locs hw => ?_)
    have hw : fy D (va_A ws0 sz) s.heap H locs (wRw I a0 a1 a2 z3) := hw
    have he0 := (Option.some.inj hf)
    subst he0
    exact x_vM E () hw dX1_bury_26
theorem ok_X1_rename : yV yX1_rename cX1_rename 4 none 2 := ⟨q290, q4, q288, q289, by decide +kernel, by decide +kernel, by decide +kernel⟩
set_option maxRecDepth 100000 in
set_option maxHeartbeats 4000000 in
theorem mt_X1_rename (l : Launch) (D : va_G) (I J O : ClassId) (a0 a1 a2 : Nat) (sz : Nat) (p0 : Int32) (p1 : Int32) (x : RwC) (y0 : RwC) (hf : f_X1_rename p0 p1 x = some y0) : mM l yX1_rename cX1_rename 4 none 3 64 0 0 D I J O sz [.ref a0, .int p0, .int p1] (wRw I a0 a1 a2 x) (qMv D sz (wRw I a0 a1 a2 x) (fun _ : Unit => wRw I a0 a1 a2 y0)) := by
  refine mM_open (own := RX1) rfl (by decide +kernel) (Nat.le_of_ble_eq_true rfl) (fun p e s m below meth c ls E hnm hsz hw hl => ?_)
  obtain ⟨ws0, hws⟩ : ∃ ws0 : va_W, ws0 = wRw I a0 a1 a2 x := ⟨_, rfl⟩
  have hw : fy D (va_A ws0 sz) s.heap s.heap [] (wRw I a0 a1 a2 x) := by rw [hws]; exact hw
  rw [← hws]
  have hx := E.1
  have hb := E.2.1
  have hl : lv_has ls 4 [(0, .ref a0), (1, .int p0), (2, .int p1)] := hl
  unfold f_X1_rename at hf
  refine lv_aload_n hx hb dX1_rename_0 rfl (lv_at hl 0 rfl) ?_
  refine lv_iload_n hx hb dX1_rename_1 rfl (lv_at hl 1 rfl) ?_
  obtain ⟨z1, h, hf⟩ := bd_s hf
  refine x_ci (x_rV E (As := [.int p0]) (rest := []) (mt_X1_indexOf l D I J O a0 a1 a2 p0 x z1 h) blR (x_recv E hw.1 0 1 rfl rfl rfl) (x_pcR E hw.1) ok_X1_indexOf q224 rfl hl.1 rfl (Nat.le_of_ble_eq_true rfl) ⟨Nat.le_of_ble_eq_true rfl, Nat.le_of_ble_eq_true rfl⟩ ⟨Nat.le_of_ble_eq_true rfl, Nat.le_of_ble_eq_true rfl⟩ dX1_rename_2) ?_
  refine lv_istore_n (lv' := [(3, .int z1), (0, .ref a0), (1, .int p0), (2, .int p1)]) hx hb dX1_rename_5 rfl hl (by decide) rfl (fun ls hl => ?_)
  refine lv_aload_n hx hb dX1_rename_6 rfl (lv_at hl 1 rfl) ?_
  refine lv_iload_n hx hb dX1_rename_7 rfl (lv_at hl 0 rfl) ?_
  obtain ⟨z2, h, hf⟩ := bd_s hf
  refine x_ci (x_rV E (As := [.int z1]) (rest := []) (mt_X1_isEntry l D I J O a0 a1 a2 z1 x z2 h) blR (x_recv E hw.1 0 1 rfl rfl rfl) (x_pcR E hw.1) ok_X1_isEntry q184 rfl hl.1 rfl (Nat.le_of_ble_eq_true rfl) ⟨Nat.le_of_ble_eq_true rfl, Nat.le_of_ble_eq_true rfl⟩ ⟨Nat.le_of_ble_eq_true rfl, Nat.le_of_ble_eq_true rfl⟩ dX1_rename_8) ?_
  refine lv_if_eq (tgt := 21) hx hb dX1_rename_11 (by decide) (fun hc => ?_) (fun hc => ?_)
  · rw [if_pos hc] at hf
    have he0 := (Option.some.inj hf)
    subst he0
    exact x_vM E () hw dX1_rename_21
  · rw [if_neg hc] at hf
    refine lv_aload_n hx hb dX1_rename_14 rfl (lv_at hl 1 rfl) ?_
    refine x_get E hw.1 0 rfl rfl in1 1 (by decide) q65 rfl rfl dX1_rename_15 ?_
    refine lv_iload_n hx hb dX1_rename_18 rfl (lv_at hl 0 rfl) ?_
    refine lv_iload_n hx hb dX1_rename_19 rfl (lv_at hl 3 rfl) ?_
    obtain ⟨g, hf⟩ := gi_s hf
    refine x_ast E hw 1 rfl g dX1_rename_20 (fun H locs hw => ?_)
    have hw : fy D (va_A ws0 sz) s.heap H locs (wRw I a0 a1 a2 (x.1, (upd x.2.1 z1.toNatClampNeg p1), x.2.2)) := hw
    have he0 := (Option.some.inj hf)
    subst he0
    exact x_vM E () hw dX1_rename_21
theorem ok_X1_indexUnder : yV yX1_indexUnder cX1_indexUnder 2 (some .int) 1 := ⟨q528, q4, q527, qs8, by decide +kernel, by decide +kernel, by decide +kernel⟩
set_option maxRecDepth 100000 in
set_option maxHeartbeats 4000000 in
theorem mt_X1_indexUnder (l : Launch) (D : va_G) (I J O : ClassId) (a0 a1 a2 : Nat) (p0 : Int32) (x : RwC) (r : Int32) (hf : f_X1_indexUnder p0 x = some r) : mR l yX1_indexUnder cX1_indexUnder 2 (some .int) 1 20 D I J O [.ref a0, .int p0] (wRw I a0 a1 a2 x) (qRi r) := by
  refine mR_open (own := RX1) rfl (by decide +kernel) (Nat.le_of_ble_eq_true rfl) (fun p e s m below meth c ls E hP hl => ?_)
  have hx := E.1
  have hb := E.2.1
  have hl : lv_has ls 2 [(0, .ref a0), (1, .int p0)] := hl
  unfold f_X1_indexUnder at hf
  refine lv_iload_n hx hb dX1_indexUnder_0 rfl (lv_at hl 1 rfl) ?_
  obtain ⟨z1, h, hf⟩ := bd_s hf
  refine x_ci (x_rSN E (As := [.int p0]) (rest := []) (mt_X5_isWalker l D I J O p0 z1 h) blR (x_pcR E x_none) ok_X5_isWalker E.2.2.2.2.2.1.2.2.2.2.2.2.2.2 rfl hl.1 rfl (Nat.le_of_ble_eq_true rfl) ⟨Nat.le_of_ble_eq_true rfl, Nat.le_of_ble_eq_true rfl⟩ ⟨Nat.le_of_ble_eq_true rfl, Nat.le_of_ble_eq_true rfl⟩ dX1_indexUnder_1) ?_
  refine lv_if_eq (tgt := 16) hx hb dX1_indexUnder_4 (by decide) (fun hc => ?_) (fun hc => ?_)
  · rw [if_pos hc] at hf
    refine lv_iconst (v := (-1)) hx hb dX1_indexUnder_16 (by decide) ?_
    exact x_iR E (Option.some.inj hf) dX1_indexUnder_17
  · rw [if_neg hc] at hf
    refine lv_aload_n hx hb dX1_indexUnder_7 rfl (lv_at hl 0 rfl) ?_
    refine x_get E hP 0 rfl rfl in1 2 (by decide) q66 rfl rfl dX1_indexUnder_8 ?_
    refine lv_iload_n hx hb dX1_indexUnder_11 rfl (lv_at hl 1 rfl) ?_
    obtain ⟨g, hf⟩ := gi_s hf
    refine x_ald E hP 2 rfl g dX1_indexUnder_12 ?_
    refine lv_goto (tgt := 17) hx hb dX1_indexUnder_13 (by decide) ?_
    exact x_iR E (Option.some.inj hf) dX1_indexUnder_17
theorem ok_X1_standOf : yV yX1_standOf cX1_standOf 3 (some .int) 1 := ⟨q524, q4, q522, q523, by decide +kernel, by decide +kernel, by decide +kernel⟩
set_option maxRecDepth 100000 in
set_option maxHeartbeats 4000000 in
theorem mt_X1_standOf (l : Launch) (D : va_G) (I J O : ClassId) (a0 a1 a2 : Nat) (p0 : Int32) (x : RwC) (r : Int32) (hf : f_X1_standOf p0 x = some r) : mR l yX1_standOf cX1_standOf 3 (some .int) 2 42 D I J O [.ref a0, .int p0] (wRw I a0 a1 a2 x) (qRi r) := by
  refine mR_open (own := RX1) rfl (by decide +kernel) (Nat.le_of_ble_eq_true rfl) (fun p e s m below meth c ls E hP hl => ?_)
  have hx := E.1
  have hb := E.2.1
  have hl : lv_has ls 3 [(0, .ref a0), (1, .int p0)] := hl
  unfold f_X1_standOf at hf
  refine lv_aload_n hx hb dX1_standOf_0 rfl (lv_at hl 0 rfl) ?_
  refine lv_iload_n hx hb dX1_standOf_1 rfl (lv_at hl 1 rfl) ?_
  obtain ⟨z1, h, hf⟩ := bd_s hf
  refine x_ci (x_rV E (As := [.int p0]) (rest := []) (mt_X1_indexUnder l D I J O a0 a1 a2 p0 x z1 h) blR (x_recv E hP 0 1 rfl rfl rfl) (x_pcR E hP) ok_X1_indexUnder q525 rfl hl.1 rfl (Nat.le_of_ble_eq_true rfl) ⟨Nat.le_of_ble_eq_true rfl, Nat.le_of_ble_eq_true rfl⟩ ⟨Nat.le_of_ble_eq_true rfl, Nat.le_of_ble_eq_true rfl⟩ dX1_standOf_2) ?_
  refine lv_istore_n (lv' := [(2, .int z1), (0, .ref a0), (1, .int p0)]) hx hb dX1_standOf_5 rfl hl (by decide) rfl (fun ls hl => ?_)
  refine lv_iload_n hx hb dX1_standOf_6 rfl (lv_at hl 0 rfl) ?_
  refine lv_bipush (v := (-2)) hx hb dX1_standOf_7 (by decide) ?_
  refine lv_icmp_ne (tgt := 14) hx hb dX1_standOf_9 (by decide) (fun hc => ?_) (fun hc => ?_)
  · rw [if_neg hc] at hf
    refine lv_iload_n hx hb dX1_standOf_14 rfl (lv_at hl 0 rfl) ?_
    refine lv_iconst (v := (-1)) hx hb dX1_standOf_15 (by decide) ?_
    refine lv_icmp_ne (tgt := 21) hx hb dX1_standOf_16 (by decide) (fun hc => ?_) (fun hc => ?_)
    · rw [if_neg hc] at hf
      refine lv_aload_n hx hb dX1_standOf_21 rfl (lv_at hl 1 rfl) ?_
      refine lv_iload_n hx hb dX1_standOf_22 rfl (lv_at hl 0 rfl) ?_
      obtain ⟨z2, h, hf⟩ := bd_s hf
      refine x_ci (x_rV E (As := [.int z1]) (rest := []) (mt_X1_thingIn l D I J O a0 a1 a2 z1 x z2 h) blR (x_recv E hP 0 1 rfl rfl rfl) (x_pcR E hP) ok_X1_thingIn q180 rfl hl.1 rfl (Nat.le_of_ble_eq_true rfl) ⟨Nat.le_of_ble_eq_true rfl, Nat.le_of_ble_eq_true rfl⟩ ⟨Nat.le_of_ble_eq_true rfl, Nat.le_of_ble_eq_true rfl⟩ dX1_standOf_23) ?_
      refine lv_iconst (v := (-1)) hx hb dX1_standOf_26 (by decide) ?_
      refine lv_icmp_eq (tgt := 34) hx hb dX1_standOf_27 (by decide) (fun hc => ?_) (fun hc => ?_)
      · rw [if_pos hc] at hf
        refine lv_iconst (v := 2) hx hb dX1_standOf_34 (by decide) ?_
        exact x_iR E (Option.some.inj hf) dX1_standOf_35
      · rw [if_neg hc] at hf
        refine lv_iconst (v := 1) hx hb dX1_standOf_30 (by decide) ?_
        refine lv_goto (tgt := 35) hx hb dX1_standOf_31 (by decide) ?_
        exact x_iR E (Option.some.inj hf) dX1_standOf_35
    · rw [if_pos hc] at hf
      refine lv_iconst (v := 0) hx hb dX1_standOf_19 (by decide) ?_
      exact x_iR E (Option.some.inj hf) dX1_standOf_20
  · rw [if_pos hc] at hf
    refine lv_iconst (v := 3) hx hb dX1_standOf_12 (by decide) ?_
    exact x_iR E (Option.some.inj hf) dX1_standOf_13
theorem ok_X1_thingUnder : yV yX1_thingUnder cX1_thingUnder 2 (some .int) 1 := ⟨q553, q4, q551, q552, by decide +kernel, by decide +kernel, by decide +kernel⟩
set_option maxRecDepth 100000 in
set_option maxHeartbeats 4000000 in
theorem mt_X1_thingUnder (l : Launch) (D : va_G) (I J O : ClassId) (a0 a1 a2 : Nat) (p0 : Int32) (x : RwC) (r : Int32) (hf : f_X1_thingUnder p0 x = some r) : mR l yX1_thingUnder cX1_thingUnder 2 (some .int) 2 42 D I J O [.ref a0, .int p0] (wRw I a0 a1 a2 x) (qRi r) := by
  refine mR_open (own := RX1) rfl (by decide +kernel) (Nat.le_of_ble_eq_true rfl) (fun p e s m below meth c ls E hP hl => ?_)
  have hx := E.1
  have hb := E.2.1
  have hl : lv_has ls 2 [(0, .ref a0), (1, .int p0)] := hl
  unfold f_X1_thingUnder at hf
  refine lv_aload_n hx hb dX1_thingUnder_0 rfl (lv_at hl 0 rfl) ?_
  refine lv_aload_n hx hb dX1_thingUnder_1 rfl (lv_at hl 0 rfl) ?_
  refine lv_iload_n hx hb dX1_thingUnder_2 rfl (lv_at hl 1 rfl) ?_
  obtain ⟨z1, h, hf⟩ := bd_s hf
  refine x_ci (x_rV E (As := [.int p0]) (rest := [.ref a0]) (mt_X1_indexUnder l D I J O a0 a1 a2 p0 x z1 h) blR (x_recv E hP 0 1 rfl rfl rfl) (x_pcR E hP) ok_X1_indexUnder q525 rfl hl.1 rfl (Nat.le_of_ble_eq_true rfl) ⟨Nat.le_of_ble_eq_true rfl, Nat.le_of_ble_eq_true rfl⟩ ⟨Nat.le_of_ble_eq_true rfl, Nat.le_of_ble_eq_true rfl⟩ dX1_thingUnder_3) ?_
  obtain ⟨z2, h, hf⟩ := bd_s hf
  refine x_ci (x_rV E (As := [.int z1]) (rest := []) (mt_X1_thingIn l D I J O a0 a1 a2 z1 x z2 h) blR (x_recv E hP 0 1 rfl rfl rfl) (x_pcR E hP) ok_X1_thingIn q180 rfl hl.1 rfl (Nat.le_of_ble_eq_true rfl) ⟨Nat.le_of_ble_eq_true rfl, Nat.le_of_ble_eq_true rfl⟩ ⟨Nat.le_of_ble_eq_true rfl, Nat.le_of_ble_eq_true rfl⟩ dX1_thingUnder_6) ?_
  exact x_iR E (Option.some.inj hf) dX1_thingUnder_9
theorem ok_X1_thingsBehind : yV yX1_thingsBehind cX1_thingsBehind 3 (some .int) 1 := ⟨q651, q4, q649, q650, by decide +kernel, by decide +kernel, by decide +kernel⟩
set_option maxRecDepth 100000 in
set_option maxHeartbeats 4000000 in
theorem mt_X1_thingsBehind (l : Launch) (D : va_G) (I J O : ClassId) (a0 a1 a2 : Nat) (p0 : Int32) (x : RwC) (r : Int32) (hf : f_X1_thingsBehind p0 x = some r) : mR l yX1_thingsBehind cX1_thingsBehind 3 (some .int) 3 65 D I J O [.ref a0, .int p0] (wRw I a0 a1 a2 x) (qRi r) := by
  refine mR_open (own := RX1) rfl (by decide +kernel) (Nat.le_of_ble_eq_true rfl) (fun p e s m below meth c ls E hP hl => ?_)
  have hx := E.1
  have hb := E.2.1
  have hl : lv_has ls 3 [(0, .ref a0), (1, .int p0)] := hl
  unfold f_X1_thingsBehind at hf
  refine lv_aload_n hx hb dX1_thingsBehind_0 rfl (lv_at hl 0 rfl) ?_
  refine lv_iload_n hx hb dX1_thingsBehind_1 rfl (lv_at hl 1 rfl) ?_
  obtain ⟨z1, h, hf⟩ := bd_s hf
  refine x_ci (x_rV E (As := [.int p0]) (rest := []) (mt_X1_indexUnder l D I J O a0 a1 a2 p0 x z1 h) blR (x_recv E hP 0 1 rfl rfl rfl) (x_pcR E hP) ok_X1_indexUnder q525 rfl hl.1 rfl (Nat.le_of_ble_eq_true rfl) ⟨Nat.le_of_ble_eq_true rfl, Nat.le_of_ble_eq_true rfl⟩ ⟨Nat.le_of_ble_eq_true rfl, Nat.le_of_ble_eq_true rfl⟩ dX1_thingsBehind_2) ?_
  refine lv_istore_n (lv' := [(2, .int z1), (0, .ref a0), (1, .int p0)]) hx hb dX1_thingsBehind_5 rfl hl (by decide) rfl (fun ls hl => ?_)
  refine lv_iload_n hx hb dX1_thingsBehind_6 rfl (lv_at hl 0 rfl) ?_
  refine lv_bipush (v := (-2)) hx hb dX1_thingsBehind_7 (by decide) ?_
  refine lv_icmp_ne (tgt := 16) hx hb dX1_thingsBehind_9 (by decide) (fun hc => ?_) (fun hc => ?_)
  · rw [if_neg hc] at hf
    refine lv_aload_n hx hb dX1_thingsBehind_16 rfl (lv_at hl 1 rfl) ?_
    refine lv_iload_n hx hb dX1_thingsBehind_17 rfl (lv_at hl 0 rfl) ?_
    refine lv_iconst (v := 1) hx hb dX1_thingsBehind_18 (by decide) ?_
    refine lv_iadd hx hb dX1_thingsBehind_19 ?_
    obtain ⟨z2, h, hf⟩ := bd_s hf
    refine x_ci (x_rV E (As := [.int (z1 + 1)]) (rest := []) (mt_X1_thingsFrom l D I J O a0 a1 a2 (z1 + 1) x z2 h) blR (x_recv E hP 0 1 rfl rfl rfl) (x_pcR E hP) ok_X1_thingsFrom q407 rfl hl.1 rfl (Nat.le_of_ble_eq_true rfl) ⟨Nat.le_of_ble_eq_true rfl, Nat.le_of_ble_eq_true rfl⟩ ⟨Nat.le_of_ble_eq_true rfl, Nat.le_of_ble_eq_true rfl⟩ dX1_thingsBehind_20) ?_
    exact x_iR E (Option.some.inj hf) dX1_thingsBehind_23
  · rw [if_pos hc] at hf
    refine lv_iconst (v := 0) hx hb dX1_thingsBehind_12 (by decide) ?_
    refine lv_goto (tgt := 23) hx hb dX1_thingsBehind_13 (by decide) ?_
    exact x_iR E (Option.some.inj hf) dX1_thingsBehind_23
theorem ok_X1_send : yV yX1_send cX1_send 4 none 2 := ⟨q537, q4, q536, qs9, by decide +kernel, by decide +kernel, by decide +kernel⟩
set_option maxRecDepth 100000 in
set_option maxHeartbeats 4000000 in
theorem mt_X1_send (l : Launch) (D : va_G) (I J O : ClassId) (a0 a1 a2 : Nat) (sz : Nat) (p0 : Int32) (p1 : Int32) (x : RwC) (y0 : RwC) (hf : f_X1_send p0 p1 x = some y0) : mM l yX1_send cX1_send 4 none 2 45 0 0 D I J O sz [.ref a0, .int p0, .int p1] (wRw I a0 a1 a2 x) (qMv D sz (wRw I a0 a1 a2 x) (fun _ : Unit => wRw I a0 a1 a2 y0)) := by
  refine mM_open (own := RX1) rfl (by decide +kernel) (Nat.le_of_ble_eq_true rfl) (fun p e s m below meth c ls E hnm hsz hw hl => ?_)
  obtain ⟨ws0, hws⟩ : ∃ ws0 : va_W, ws0 = wRw I a0 a1 a2 x := ⟨_, rfl⟩
  have hw : fy D (va_A ws0 sz) s.heap s.heap [] (wRw I a0 a1 a2 x) := by rw [hws]; exact hw
  rw [← hws]
  have hx := E.1
  have hb := E.2.1
  have hl : lv_has ls 4 [(0, .ref a0), (1, .int p0), (2, .int p1)] := hl
  unfold f_X1_send at hf
  refine lv_iload_n hx hb dX1_send_0 rfl (lv_at hl 1 rfl) ?_
  obtain ⟨z1, h, hf⟩ := bd_s hf
  refine x_ci (x_rSN E (As := [.int p0]) (rest := []) (mt_X5_isWalker l D I J O p0 z1 h) blR (x_pcR E x_none) ok_X5_isWalker E.2.2.2.2.2.1.2.2.2.2.2.2.2.2 rfl hl.1 rfl (Nat.le_of_ble_eq_true rfl) ⟨Nat.le_of_ble_eq_true rfl, Nat.le_of_ble_eq_true rfl⟩ ⟨Nat.le_of_ble_eq_true rfl, Nat.le_of_ble_eq_true rfl⟩ dX1_send_1) ?_
  refine lv_if_eq (tgt := 26) hx hb dX1_send_4 (by decide) (fun hc => ?_) (fun hc => ?_)
  · rw [if_pos hc] at hf
    have he0 := (Option.some.inj hf)
    subst he0
    exact x_vM E () hw dX1_send_26
  · rw [if_neg hc] at hf
    refine lv_aload_n hx hb dX1_send_7 rfl (lv_at hl 0 rfl) ?_
    refine x_get E hw.1 0 rfl rfl in1 2 (by decide) q66 rfl rfl dX1_send_8 ?_
    refine lv_iload_n hx hb dX1_send_11 rfl (lv_at hl 1 rfl) ?_
    obtain ⟨g, hf⟩ := gi_s hf
    refine x_ald E hw.1 2 rfl g dX1_send_12 ?_
    refine lv_istore_n (lv' := [(3, .int (x.2.2 p0.toNatClampNeg)), (0, .ref a0), (1, .int p0), (2, .int p1)]) hx hb dX1_send_13 rfl hl (by decide) rfl (fun ls hl => ?_)
    refine lv_aload_n hx hb dX1_send_14 rfl (lv_at hl 1 rfl) ?_
    refine x_get E hw.1 0 rfl rfl in1 2 (by decide) q66 rfl rfl dX1_send_15 ?_
    refine lv_iload_n hx hb dX1_send_18 rfl (lv_at hl 2 rfl) ?_
    refine lv_iload_n hx hb dX1_send_19 rfl (lv_at hl 3 rfl) ?_
    obtain ⟨g, hf⟩ := gi_s hf
    refine x_ast E hw 2 rfl g dX1_send_20 (fun H locs hw => ?_)
    have hw : fy D (va_A ws0 sz) s.heap H locs (wRw I a0 a1 a2 (x.1, x.2.1, (upd x.2.2 p0.toNatClampNeg p1))) := hw
    refine lv_aload_n hx hb dX1_send_21 rfl (lv_at hl 1 rfl) ?_
    refine lv_iload_n hx hb dX1_send_22 rfl (lv_at hl 0 rfl) ?_
    obtain ⟨z2, h, hf⟩ := bd_s hf
    refine x_mv0 hw [0, 1, 2] rfl rfl (x_rV E (As := [.int (x.2.2 p0.toNatClampNeg)]) (rest := []) (mt_X1_sweep l D I J O a0 a1 a2 H.size (x.2.2 p0.toNatClampNeg) (x.1, x.2.1, (upd x.2.2 p0.toNatClampNeg p1)) z2 h) blM (x_recv E hw.1 0 1 rfl rfl rfl) (x_pcMQ0 E hw [0, 1, 2] rfl rfl) ok_X1_sweep q228 rfl hl.1 rfl (Nat.le_of_ble_eq_true rfl) ⟨Nat.le_of_ble_eq_true rfl, Nat.le_of_ble_eq_true rfl⟩ ⟨Nat.le_of_ble_eq_true rfl, Nat.le_of_ble_eq_true rfl⟩ dX1_send_23) (fun _ => rfl) (fun _ H locs hw => ?_)
    have hw : fy D (va_A ws0 sz) s.heap H locs (wRw I a0 a1 a2 z2) := hw
    have he0 := (Option.some.inj hf)
    subst he0
    exact x_vM E () hw dX1_send_26
theorem ok_X1_sendAhead : yV yX1_sendAhead cX1_sendAhead 2 none 1 := ⟨q533, q4, q531, q532, by decide +kernel, by decide +kernel, by decide +kernel⟩
set_option maxRecDepth 100000 in
set_option maxHeartbeats 4000000 in
theorem mt_X1_sendAhead (l : Launch) (D : va_G) (I J O : ClassId) (a0 a1 a2 : Nat) (sz : Nat) (p0 : Int32) (x : RwC) (y0 : RwC) (hf : f_X1_sendAhead p0 x = some y0) : mM l yX1_sendAhead cX1_sendAhead 2 none 3 68 0 0 D I J O sz [.ref a0, .int p0] (wRw I a0 a1 a2 x) (qMv D sz (wRw I a0 a1 a2 x) (fun _ : Unit => wRw I a0 a1 a2 y0)) := by
  refine mM_open (own := RX1) rfl (by decide +kernel) (Nat.le_of_ble_eq_true rfl) (fun p e s m below meth c ls E hnm hsz hw hl => ?_)
  obtain ⟨ws0, hws⟩ : ∃ ws0 : va_W, ws0 = wRw I a0 a1 a2 x := ⟨_, rfl⟩
  have hw : fy D (va_A ws0 sz) s.heap s.heap [] (wRw I a0 a1 a2 x) := by rw [hws]; exact hw
  rw [← hws]
  have hx := E.1
  have hb := E.2.1
  have hl : lv_has ls 2 [(0, .ref a0), (1, .int p0)] := hl
  unfold f_X1_sendAhead at hf
  refine lv_aload_n hx hb dX1_sendAhead_0 rfl (lv_at hl 0 rfl) ?_
  refine lv_iload_n hx hb dX1_sendAhead_1 rfl (lv_at hl 1 rfl) ?_
  refine lv_iconst (v := (-1)) hx hb dX1_sendAhead_2 (by decide) ?_
  obtain ⟨z1, h, hf⟩ := bd_s hf
  refine x_mv0 hw [0, 1, 2] rfl rfl (x_rV E (As := [.int p0, .int (-1)]) (rest := []) (mt_X1_send l D I J O a0 a1 a2 s.heap.size p0 (-1) x z1 h) blM (x_recv E hw.1 0 1 rfl rfl rfl) (x_pcMQ0 E hw [0, 1, 2] rfl rfl) ok_X1_send q534 rfl hl.1 rfl (Nat.le_of_ble_eq_true rfl) ⟨Nat.le_of_ble_eq_true rfl, Nat.le_of_ble_eq_true rfl⟩ ⟨Nat.le_of_ble_eq_true rfl, Nat.le_of_ble_eq_true rfl⟩ dX1_sendAhead_3) (fun _ => rfl) (fun _ H locs hw => ?_)
  have hw : fy D (va_A ws0 sz) s.heap H locs (wRw I a0 a1 a2 z1) := hw
  have he0 := (Option.some.inj hf)
  subst he0
  exact x_vM E () hw dX1_sendAhead_6
theorem ok_X1_nextThing : yV yX1_nextThing cX1_nextThing 3 (some .int) 1 := ⟨q549, q4, q548, qs10, by decide +kernel, by decide +kernel, by decide +kernel⟩
set_option maxRecDepth 100000 in
set_option maxHeartbeats 4000000 in
theorem k_X1_nextThing_2 {p : Program} {l : Launch} {e : Env} {s : State} {m : MethodId} {args : Array Value} {below : List Frame} {meth : Method} {c : Code} {D : va_G} {I J O : ClassId} (E : fx p s m args meth c cX1_nextThing RX1 3 (some .int) D I J O) (a0 a1 a2 : Nat)  (r : Int32) : ∀ fu : Nat, ∀ (v2 : Int32) (x : RwC), f_X1_nextThing_2 fu v2 x = some r → va_P D vwCl (wRw I a0 a1 a2 x) s.heap → ∀ ls : Array Slot, lv_has ls 3 [(0, .ref a0), (2, .int v2)] → W p l e (rmB 2 42 0 0) s m args below meth c s.heap [] 0 0 (MQ below (qRi r) args s 0 0 (fun _ => False)) (F0 m 2 ls []) := by
  have hx := E.1
  have hb := E.2.1
  intro fu
  induction fu with
  | zero =>
    intro v2 x hf hP ls hl
    rw [f_X1_nextThing_2.eq_1] at hf
    cases hf
  | succ fu ih =>
    intro v2 x hf hP ls hl
    rw [f_X1_nextThing_2.eq_2] at hf
    refine lv_iload_n hx hb dX1_nextThing_2 rfl (lv_at hl 1 rfl) ?_
    refine lv_aload_n hx hb dX1_nextThing_3 rfl (lv_at hl 0 rfl) ?_
    refine x_get E hP 0 rfl rfl in1 0 (by decide) q64 rfl rfl dX1_nextThing_4 ?_
    refine lv_icmp_ge (tgt := 27) hx hb dX1_nextThing_7 (by decide) (fun hc => ?_) (fun hc => ?_)
    · rw [if_pos hc] at hf
      refine lv_bipush (v := (-2)) hx hb dX1_nextThing_27 (by decide) ?_
      exact x_iR E (Option.some.inj hf) dX1_nextThing_29
    · rw [if_neg hc] at hf
      refine lv_aload_n hx hb dX1_nextThing_10 rfl (lv_at hl 0 rfl) ?_
      refine lv_iload_n hx hb dX1_nextThing_11 rfl (lv_at hl 1 rfl) ?_
      obtain ⟨z1, h, hf⟩ := bd_s hf
      refine x_ci (x_rV E (As := [.int v2]) (rest := []) (mt_X1_thingIn l D I J O a0 a1 a2 v2 x z1 h) blR (x_recv E hP 0 1 rfl rfl rfl) (x_pcR E hP) ok_X1_thingIn q180 rfl hl.1 rfl (Nat.le_of_ble_eq_true rfl) ⟨Nat.le_of_ble_eq_true rfl, Nat.le_of_ble_eq_true rfl⟩ ⟨Nat.le_of_ble_eq_true rfl, Nat.le_of_ble_eq_true rfl⟩ dX1_nextThing_12) ?_
      refine lv_iconst (v := (-1)) hx hb dX1_nextThing_15 (by decide) ?_
      refine lv_icmp_eq (tgt := 21) hx hb dX1_nextThing_16 (by decide) (fun hc => ?_) (fun hc => ?_)
      · rw [if_pos hc] at hf
        refine lv_iinc (v := v2 + 1) (lv' := [(2, .int (v2 + 1)), (0, .ref a0)]) hx hb dX1_nextThing_21 hl (k := 1) rfl rfl (by decide) rfl (fun ls hl => ?_)
        refine lv_goto (tgt := 2) hx hb dX1_nextThing_24 (by decide) ?_
        exact ih (v2 + 1) x hf hP _ (lv_sub hl [1, 0] rfl)
      · rw [if_neg hc] at hf
        refine lv_iload_n hx hb dX1_nextThing_19 rfl (lv_at hl 1 rfl) ?_
        exact x_iR E (Option.some.inj hf) dX1_nextThing_20
set_option maxRecDepth 100000 in
set_option maxHeartbeats 4000000 in
theorem mt_X1_nextThing (l : Launch) (D : va_G) (I J O : ClassId) (a0 a1 a2 : Nat) (p0 : Int32) (x : RwC) (r : Int32) (hf : f_X1_nextThing p0 x = some r) : mR l yX1_nextThing cX1_nextThing 3 (some .int) 2 42 D I J O [.ref a0, .int p0] (wRw I a0 a1 a2 x) (qRi r) := by
  refine mR_open (own := RX1) rfl (by decide +kernel) (Nat.le_of_ble_eq_true rfl) (fun p e s m below meth c ls E hP hl => ?_)
  have hx := E.1
  have hb := E.2.1
  have hl : lv_has ls 3 [(0, .ref a0), (1, .int p0)] := hl
  unfold f_X1_nextThing at hf
  refine lv_iload_n hx hb dX1_nextThing_0 rfl (lv_at hl 1 rfl) ?_
  refine lv_istore_n (lv' := [(2, .int p0), (0, .ref a0), (1, .int p0)]) hx hb dX1_nextThing_1 rfl hl (by decide) rfl (fun ls hl => ?_)
  exact k_X1_nextThing_2 E a0 a1 a2 r FU p0 x hf hP _ (lv_sub hl [1, 0] rfl)
theorem ok_X1_sendOn : yV yX1_sendOn cX1_sendOn 3 none 1 := ⟨q545, q4, q543, q544, by decide +kernel, by decide +kernel, by decide +kernel⟩
set_option maxRecDepth 100000 in
set_option maxHeartbeats 4000000 in
theorem mt_X1_sendOn (l : Launch) (D : va_G) (I J O : ClassId) (a0 a1 a2 : Nat) (sz : Nat) (p0 : Int32) (x : RwC) (y0 : RwC) (hf : f_X1_sendOn p0 x = some y0) : mM l yX1_sendOn cX1_sendOn 3 none 3 68 0 0 D I J O sz [.ref a0, .int p0] (wRw I a0 a1 a2 x) (qMv D sz (wRw I a0 a1 a2 x) (fun _ : Unit => wRw I a0 a1 a2 y0)) := by
  refine mM_open (own := RX1) rfl (by decide +kernel) (Nat.le_of_ble_eq_true rfl) (fun p e s m below meth c ls E hnm hsz hw hl => ?_)
  obtain ⟨ws0, hws⟩ : ∃ ws0 : va_W, ws0 = wRw I a0 a1 a2 x := ⟨_, rfl⟩
  have hw : fy D (va_A ws0 sz) s.heap s.heap [] (wRw I a0 a1 a2 x) := by rw [hws]; exact hw
  rw [← hws]
  have hx := E.1
  have hb := E.2.1
  have hl : lv_has ls 3 [(0, .ref a0), (1, .int p0)] := hl
  unfold f_X1_sendOn at hf
  refine lv_aload_n hx hb dX1_sendOn_0 rfl (lv_at hl 0 rfl) ?_
  refine lv_iload_n hx hb dX1_sendOn_1 rfl (lv_at hl 1 rfl) ?_
  obtain ⟨z1, h, hf⟩ := bd_s hf
  refine x_ci (x_rV E (As := [.int p0]) (rest := []) (mt_X1_indexUnder l D I J O a0 a1 a2 p0 x z1 h) blR (x_recv E hw.1 0 1 rfl rfl rfl) (x_pcR E hw.1) ok_X1_indexUnder q525 rfl hl.1 rfl (Nat.le_of_ble_eq_true rfl) ⟨Nat.le_of_ble_eq_true rfl, Nat.le_of_ble_eq_true rfl⟩ ⟨Nat.le_of_ble_eq_true rfl, Nat.le_of_ble_eq_true rfl⟩ dX1_sendOn_2) ?_
  refine lv_istore_n (lv' := [(2, .int z1), (0, .ref a0), (1, .int p0)]) hx hb dX1_sendOn_5 rfl hl (by decide) rfl (fun ls hl => ?_)
  refine lv_iload_n hx hb dX1_sendOn_6 rfl (lv_at hl 0 rfl) ?_
  refine lv_bipush (v := (-2)) hx hb dX1_sendOn_7 (by decide) ?_
  refine lv_icmp_eq (tgt := 24) hx hb dX1_sendOn_9 (by decide) (fun hc => ?_) (fun hc => ?_)
  · rw [if_pos hc] at hf
    have he0 := (Option.some.inj hf)
    subst he0
    exact x_vM E () hw dX1_sendOn_24
  · rw [if_neg hc] at hf
    refine lv_aload_n hx hb dX1_sendOn_12 rfl (lv_at hl 1 rfl) ?_
    refine lv_iload_n hx hb dX1_sendOn_13 rfl (lv_at hl 2 rfl) ?_
    refine lv_aload_n hx hb dX1_sendOn_14 rfl (lv_at hl 1 rfl) ?_
    refine lv_iload_n hx hb dX1_sendOn_15 rfl (lv_at hl 0 rfl) ?_
    refine lv_iconst (v := 1) hx hb dX1_sendOn_16 (by decide) ?_
    refine lv_iadd hx hb dX1_sendOn_17 ?_
    obtain ⟨z2, h, hf⟩ := bd_s hf
    refine x_ci (x_rV E (As := [.int (z1 + 1)]) (rest := [.int p0, .ref a0]) (mt_X1_nextThing l D I J O a0 a1 a2 (z1 + 1) x z2 h) blR (x_recv E hw.1 0 1 rfl rfl rfl) (x_pcR E hw.1) ok_X1_nextThing q546 rfl hl.1 rfl (Nat.le_of_ble_eq_true rfl) ⟨Nat.le_of_ble_eq_true rfl, Nat.le_of_ble_eq_true rfl⟩ ⟨Nat.le_of_ble_eq_true rfl, Nat.le_of_ble_eq_true rfl⟩ dX1_sendOn_18) ?_
    obtain ⟨z3, h, hf⟩ := bd_s hf
    refine x_mv0 hw [0, 1, 2] rfl rfl (x_rV E (As := [.int p0, .int z2]) (rest := []) (mt_X1_send l D I J O a0 a1 a2 s.heap.size p0 z2 x z3 h) blM (x_recv E hw.1 0 1 rfl rfl rfl) (x_pcMQ0 E hw [0, 1, 2] rfl rfl) ok_X1_send q534 rfl hl.1 rfl (Nat.le_of_ble_eq_true rfl) ⟨Nat.le_of_ble_eq_true rfl, Nat.le_of_ble_eq_true rfl⟩ ⟨Nat.le_of_ble_eq_true rfl, Nat.le_of_ble_eq_true rfl⟩ dX1_sendOn_21) (fun _ => rfl) (fun _ H locs hw => ?_)
    have hw : fy D (va_A ws0 sz) s.heap H locs (wRw I a0 a1 a2 z3) := hw
    have he0 := (Option.some.inj hf)
    subst he0
    exact x_vM E () hw dX1_sendOn_24
