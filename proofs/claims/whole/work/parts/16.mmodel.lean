theorem ok_X6_thrown : yV yX6_thrown cX6_thrown 1 (some .int) 0 := ⟨q838, q7, q836, q837, by decide +kernel, by decide +kernel, by decide +kernel⟩
set_option maxRecDepth 100000 in
set_option maxHeartbeats 4000000 in
theorem mt_X6_thrown (l : Launch) (D : va_G) (I J O : ClassId) (a0 a1 a2 a3 a4 a5 : Nat)  (x : MdC) (r : Int32) (hf : f_X6_thrown x = some r) : mR l yX6_thrown cX6_thrown 1 (some .int) 0 0 D I J O [.ref a0] (wMd I a0 a1 a2 a3 a4 a5 x) (qRi r) := by
  refine mR_open (own := RX6) rfl (by decide +kernel) (Nat.le_of_ble_eq_true rfl) (fun p e s m below meth c ls E hP hl => ?_)
  have hx := E.1
  have hb := E.2.1
  have hl : lv_has ls 1 [(0, .ref a0)] := hl
  unfold f_X6_thrown at hf
  refine lv_aload_n hx hb dX6_thrown_0 rfl (lv_at hl 0 rfl) ?_
  refine x_get E hP 0 rfl rfl in6 0 (by decide) q801 rfl rfl dX6_thrown_1 ?_
  exact x_iR E (Option.some.inj hf) dX6_thrown_4
theorem ok_X6_in : yS yX6_in cX6_in 3 (some .boolean) 3 := ⟨q848, q7, q847, by decide +kernel, by decide +kernel, by decide +kernel⟩
set_option maxRecDepth 100000 in
set_option maxHeartbeats 4000000 in
theorem mt_X6_in (l : Launch) (D : va_G) (I J O : ClassId) (p0 : Int32) (p1 : Int32) (p2 : Int32)  (r : Int32) (hf : f_X6_in p0 p1 p2 = some r) : mR l yX6_in cX6_in 3 (some .boolean) 0 0 D I J O [.int p0, .int p1, .int p2] ([]) (qRi r) := by
  refine mR_open (own := RX6) rfl (by decide +kernel) (Nat.le_of_ble_eq_true rfl) (fun p e s m below meth c ls E hP hl => ?_)
  have hx := E.1
  have hb := E.2.1
  have hl : lv_has ls 3 [(0, .int p0), (1, .int p1), (2, .int p2)] := hl
  unfold f_X6_in at hf
  refine lv_iload_n hx hb dX6_in_0 rfl (lv_at hl 0 rfl) ?_
  refine lv_iload_n hx hb dX6_in_1 rfl (lv_at hl 1 rfl) ?_
  refine lv_icmp_lt (tgt := 14) hx hb dX6_in_2 (by decide) (fun hc => ?_) (fun hc => ?_)
  · rw [if_pos hc] at hf
    refine lv_iconst (v := 0) hx hb dX6_in_14 (by decide) ?_
    exact x_zR E (Or.inl rfl) (Option.some.inj hf) dX6_in_15
  · rw [if_neg hc] at hf
    refine lv_iload_n hx hb dX6_in_5 rfl (lv_at hl 0 rfl) ?_
    refine lv_iload_n hx hb dX6_in_6 rfl (lv_at hl 2 rfl) ?_
    refine lv_icmp_gt (tgt := 14) hx hb dX6_in_7 (by decide) (fun hc => ?_) (fun hc => ?_)
    · rw [if_pos hc] at hf
      refine lv_iconst (v := 0) hx hb dX6_in_14 (by decide) ?_
      exact x_zR E (Or.inl rfl) (Option.some.inj hf) dX6_in_15
    · rw [if_neg hc] at hf
      refine lv_iconst (v := 1) hx hb dX6_in_10 (by decide) ?_
      refine lv_goto (tgt := 15) hx hb dX6_in_11 (by decide) ?_
      exact x_zR E (Or.inr rfl) (Option.some.inj hf) dX6_in_15
theorem ok_X6_refuses : yV yX6_refuses cX6_refuses 2 (some .boolean) 1 := ⟨q870, q7, q869, qs18, by decide +kernel, by decide +kernel, by decide +kernel⟩
set_option maxRecDepth 100000 in
set_option maxHeartbeats 4000000 in
theorem mt_X6_refuses (l : Launch) (D : va_G) (I J O : ClassId) (a0 a1 a2 a3 a4 a5 : Nat) (sz : Nat) (p0 : Int32) (x : MdC) (r : Int32) (y0 : MdC) (hf : f_X6_refuses p0 x = some (r, y0)) : mM l yX6_refuses cX6_refuses 2 (some .boolean) 0 0 0 0 D I J O sz [.ref a0, .int p0] (wMd I a0 a1 a2 a3 a4 a5 x) (qMi D sz (wMd I a0 a1 a2 a3 a4 a5 x) r (fun _ : Unit => wMd I a0 a1 a2 a3 a4 a5 y0)) := by
  refine mM_open (own := RX6) rfl (by decide +kernel) (Nat.le_of_ble_eq_true rfl) (fun p e s m below meth c ls E hnm hsz hw hl => ?_)
  obtain ⟨ws0, hws⟩ : ∃ ws0 : va_W, ws0 = wMd I a0 a1 a2 a3 a4 a5 x := ⟨_, rfl⟩
  have hw : fy D (va_A ws0 sz) s.heap s.heap [] (wMd I a0 a1 a2 a3 a4 a5 x) := by rw [hws]; exact hw
  rw [← hws]
  have hx := E.1
  have hb := E.2.1
  have hl : lv_has ls 2 [(0, .ref a0), (1, .int p0)] := hl
  unfold f_X6_refuses at hf
  refine lv_aload_n hx hb dX6_refuses_0 rfl (lv_at hl 0 rfl) ?_
  refine lv_iload_n hx hb dX6_refuses_1 rfl (lv_at hl 1 rfl) ?_
  refine x_put E hw 0 rfl rfl in6 tyX6_ok nmX6 0 (by decide) q801 rfl rfl rfl rfl (Nat.le_of_ble_eq_true rfl) dX6_refuses_2 (fun H locs hw => ?_)
  have hw : fy D (va_A ws0 sz) s.heap H locs (wMd I a0 a1 a2 a3 a4 a5 (p0, x.2)) := hw
  refine lv_iload_n hx hb dX6_refuses_5 rfl (lv_at hl 1 rfl) ?_
  refine lv_if_le (tgt := 13) hx hb dX6_refuses_6 (by decide) (fun hc => ?_) (fun hc => ?_)
  · rw [if_pos hc] at hf
    refine lv_iconst (v := 0) hx hb dX6_refuses_13 (by decide) ?_
    obtain ⟨he0, hr⟩ := Prod.mk.inj (Option.some.inj hf)
    have he1 := hr
    subst he1
    exact x_zM E () hw (Or.inl rfl) he0 dX6_refuses_14
  · rw [if_neg hc] at hf
    refine lv_iconst (v := 1) hx hb dX6_refuses_9 (by decide) ?_
    refine lv_goto (tgt := 14) hx hb dX6_refuses_10 (by decide) ?_
    obtain ⟨he0, hr⟩ := Prod.mk.inj (Option.some.inj hf)
    have he1 := hr
    subst he1
    exact x_zM E () hw (Or.inr rfl) he0 dX6_refuses_14
theorem ok_X6_lays : yS yX6_lays cX6_lays 5 none 4 := ⟨q877, q7, q876, by decide +kernel, by decide +kernel, by decide +kernel⟩
set_option maxRecDepth 100000 in
set_option maxHeartbeats 4000000 in
theorem k_X6_lays_3 {p : Program} {l : Launch} {e : Env} {s : State} {m : MethodId} {args : Array Value} {below : List Frame} {meth : Method} {c : Code} {D : va_G} {I J O : ClassId} (E : fx p s m args meth c cX6_lays RX6 5 none D I J O) (a0 : Nat) (b0 : Nat) (l0 l1 : Nat) {ws0 : va_W} {sz : Nat} (y1 : Fn) : ∀ fu : Nat, ∀ (v1 : Int32) (v3 : Int32) (v4 : Int32) (x : Fn) (o : Fn), f_X6_lays_3 l0 l1 fu v1 v3 v4 x o = some y1 → ∀ (H : Heap) (locs : List Loc), fy D (va_A ws0 sz) s.heap H locs (wAr I a0 l0 x ++ wAr I b0 l1 o) → ∀ ls : Array Slot, lv_has ls 5 [(0, .ref a0), (1, .int v1), (2, .ref b0), (3, .int v3), (4, .int v4)] → W p l e (rmB 0 0 0 0) s m args below meth c H locs 0 0 (MQ below (qMv D sz ws0 (fun _ : Unit => wAr I a0 l0 x ++ wAr I b0 l1 y1)) args s 0 0 (va_A ws0 sz)) (F0 m 3 ls []) := by
  have hx := E.1
  have hb := E.2.1
  intro fu
  induction fu with
  | zero =>
    intro v1 v3 v4 x o hf H locs hw ls hl
    rw [f_X6_lays_3.eq_1] at hf
    cases hf
  | succ fu ih =>
    intro v1 v3 v4 x o hf H locs hw ls hl
    rw [f_X6_lays_3.eq_2] at hf
    refine lv_iload hx hb dX6_lays_3 (lv_at hl 4 rfl) ?_
    refine lv_sipush (v := 414) hx hb dX6_lays_5 (by decide) ?_
    refine lv_icmp_ge (tgt := 29) hx hb dX6_lays_8 (by decide) (fun hc => ?_) (fun hc => ?_)
    · rw [if_pos hc] at hf
      have he0 := (Option.some.inj hf)
      subst he0
      exact x_vM E () hw dX6_lays_29
    · rw [if_neg hc] at hf
      refine lv_aload_n hx hb dX6_lays_11 rfl (lv_at hl 2 rfl) ?_
      refine lv_iload_n hx hb dX6_lays_12 rfl (lv_at hl 3 rfl) ?_
      refine lv_iload hx hb dX6_lays_13 (lv_at hl 4 rfl) ?_
      refine lv_iadd hx hb dX6_lays_15 ?_
      refine lv_aload_n hx hb dX6_lays_16 rfl (lv_at hl 0 rfl) ?_
      refine lv_iload_n hx hb dX6_lays_17 rfl (lv_at hl 1 rfl) ?_
      refine lv_iload hx hb dX6_lays_18 (lv_at hl 4 rfl) ?_
      refine lv_iadd hx hb dX6_lays_20 ?_
      obtain ⟨g, hf⟩ := gi_s hf
      refine x_ald E hw.1 0 rfl g dX6_lays_21 ?_
      obtain ⟨g, hf⟩ := gi_s hf
      refine x_ast E hw 1 rfl g dX6_lays_22 (fun H locs hw => ?_)
      have hw : fy D (va_A ws0 sz) s.heap H locs (wAr I a0 l0 x ++ wAr I b0 l1 (upd o (v3 + v4).toNatClampNeg (x (v1 + v4).toNatClampNeg))) := hw
      refine lv_iinc (v := v4 + 1) (lv' := [(4, .int (v4 + 1)), (0, .ref a0), (1, .int v1), (2, .ref b0), (3, .int v3)]) hx hb dX6_lays_23 hl (k := 4) rfl rfl (by decide) rfl (fun ls hl => ?_)
      refine lv_goto (tgt := 3) hx hb dX6_lays_26 (by decide) ?_
      exact ih v1 v3 (v4 + 1) x (upd o (v3 + v4).toNatClampNeg (x (v1 + v4).toNatClampNeg)) hf _ _ hw _ (lv_sub hl [1, 2, 3, 4, 0] rfl)
set_option maxRecDepth 100000 in
set_option maxHeartbeats 4000000 in
theorem mt_X6_lays (l : Launch) (D : va_G) (I J O : ClassId) (a0 : Nat) (b0 : Nat) (l0 l1 : Nat)(sz : Nat) (p1 : Int32) (p3 : Int32) (x : Fn) (o : Fn) (y1 : Fn) (hf : f_X6_lays l0 l1 p1 p3 x o = some y1) : mM l yX6_lays cX6_lays 5 none 0 0 0 0 D I J O sz [.ref a0, .int p1, .ref b0, .int p3] (wAr I a0 l0 x ++ wAr I b0 l1 o) (qMv D sz (wAr I a0 l0 x ++ wAr I b0 l1 o) (fun _ : Unit => wAr I a0 l0 x ++ wAr I b0 l1 y1)) := by
  refine mM_open (own := RX6) rfl (by decide +kernel) (Nat.le_of_ble_eq_true rfl) (fun p e s m below meth c ls E hnm hsz hw hl => ?_)
  obtain ⟨ws0, hws⟩ : ∃ ws0 : va_W, ws0 = wAr I a0 l0 x ++ wAr I b0 l1 o := ⟨_, rfl⟩
  have hw : fy D (va_A ws0 sz) s.heap s.heap [] (wAr I a0 l0 x ++ wAr I b0 l1 o) := by rw [hws]; exact hw
  rw [← hws]
  have hx := E.1
  have hb := E.2.1
  have hl : lv_has ls 5 [(0, .ref a0), (1, .int p1), (2, .ref b0), (3, .int p3)] := hl
  unfold f_X6_lays at hf
  refine lv_iconst (v := 0) hx hb dX6_lays_0 (by decide) ?_
  refine lv_istore (lv' := [(4, .int 0), (0, .ref a0), (1, .int p1), (2, .ref b0), (3, .int p3)]) hx hb dX6_lays_1 hl (by decide) rfl (fun ls hl => ?_)
  exact k_X6_lays_3 E a0 b0 l0 l1 y1 FU p1 p3 0 x o hf _ _ hw _ (lv_sub hl [1, 2, 3, 4, 0] rfl)
theorem ok_X6_saves : yV yX6_saves cX6_saves 2 none 0 := ⟨q874, q7, q873, qs19, by decide +kernel, by decide +kernel, by decide +kernel⟩
set_option maxRecDepth 100000 in
set_option maxHeartbeats 4000000 in
theorem k_X6_saves_50 {p : Program} {l : Launch} {e : Env} {s : State} {m : MethodId} {args : Array Value} {below : List Frame} {meth : Method} {c : Code} {D : va_G} {I J O : ClassId} (E : fx p s m args meth c cX6_saves RX6 2 none D I J O) (a0 a1 a2 a3 a4 a5 : Nat)  {ws0 : va_W} {sz : Nat} (y0 : MdC) : ∀ (x : MdC), f_X6_saves_50 x = some y0 → ∀ (H : Heap) (locs : List Loc), fy D (va_A ws0 sz) s.heap H locs (wMd I a0 a1 a2 a3 a4 a5 x) → ∀ ls : Array Slot, lv_has ls 2 [(0, .ref a0)] → W p l e (rmB 1 24 0 0) s m args below meth c H locs 0 0 (MQ below (qMv D sz ws0 (fun _ : Unit => wMd I a0 a1 a2 a3 a4 a5 y0)) args s 0 0 (va_A ws0 sz)) (F0 m 50 ls []) := by
  have hx := E.1
  have hb := E.2.1
  intro x hf H locs hw ls hl
  unfold f_X6_saves_50 at hf
  refine lv_aload_n hx hb dX6_saves_50 rfl (lv_at hl 0 rfl) ?_
  refine x_get E hw.1 0 rfl rfl in6 1 (by decide) q802 rfl rfl dX6_saves_51 ?_
  refine lv_iconst (v := 0) hx hb dX6_saves_54 (by decide) ?_
  refine lv_aload_n hx hb dX6_saves_55 rfl (lv_at hl 0 rfl) ?_
  refine x_get E hw.1 0 rfl rfl in6 3 (by decide) q804 rfl rfl dX6_saves_56 ?_
  refine lv_sipush (v := 414) hx hb dX6_saves_59 (by decide) ?_
  refine lv_aload_n hx hb dX6_saves_62 rfl (lv_at hl 0 rfl) ?_
  refine x_get E hw.1 0 rfl rfl in6 4 (by decide) q805 rfl rfl dX6_saves_63 ?_
  refine lv_imul hx hb dX6_saves_66 ?_
  obtain ⟨z1, h, hf⟩ := bd_s hf
  refine x_mv0 hw [1, 3] rfl rfl (x_rS E (As := [.ref a1, .int 0, .ref a3, .int (414 * x.2.2.2.2.1)]) (rest := []) (mt_X6_lays l D I J O a1 a3 414 2484 H.size 0 (414 * x.2.2.2.2.1) x.2.1 x.2.2.2.1 z1 h) blM (x_pcMQ0 E hw [1, 3] rfl rfl) ok_X6_lays q875 rfl hl.1 rfl (Nat.le_of_ble_eq_true rfl) ⟨Nat.le_of_ble_eq_true rfl, Nat.le_of_ble_eq_true rfl⟩ ⟨Nat.le_of_ble_eq_true rfl, Nat.le_of_ble_eq_true rfl⟩ dX6_saves_67) (fun _ => rfl) (fun _ H locs hw => ?_)
  have hw : fy D (va_A ws0 sz) s.heap H locs (wMd I a0 a1 a2 a3 a4 a5 (x.1, x.2.1, x.2.2.1, z1, x.2.2.2.2)) := hw
  refine lv_aload_n hx hb dX6_saves_70 rfl (lv_at hl 0 rfl) ?_
  refine lv_dup hx hb dX6_saves_71 rfl ?_
  refine x_get E hw.1 0 rfl rfl in6 4 (by decide) q805 rfl rfl dX6_saves_72 ?_
  refine lv_iconst (v := 1) hx hb dX6_saves_75 (by decide) ?_
  refine lv_iadd hx hb dX6_saves_76 ?_
  refine x_put E hw 0 rfl rfl in6 tyX6_ok nmX6 4 (by decide) q805 rfl rfl rfl rfl (Nat.le_of_ble_eq_true rfl) dX6_saves_77 (fun H locs hw => ?_)
  have hw : fy D (va_A ws0 sz) s.heap H locs (wMd I a0 a1 a2 a3 a4 a5 (x.1, x.2.1, x.2.2.1, z1, x.2.2.2.2.1 + 1, x.2.2.2.2.2)) := hw
  have he0 := (Option.some.inj hf)
  subst he0
  exact x_vM E () hw dX6_saves_80
set_option maxRecDepth 100000 in
set_option maxHeartbeats 4000000 in
theorem k_X6_saves_11 {p : Program} {l : Launch} {e : Env} {s : State} {m : MethodId} {args : Array Value} {below : List Frame} {meth : Method} {c : Code} {D : va_G} {I J O : ClassId} (E : fx p s m args meth c cX6_saves RX6 2 none D I J O) (a0 a1 a2 a3 a4 a5 : Nat)  {ws0 : va_W} {sz : Nat} (y0 : MdC) : ∀ fu : Nat, ∀ (v1 : Int32) (x : MdC), f_X6_saves_11 fu v1 x = some y0 → ∀ (H : Heap) (locs : List Loc), fy D (va_A ws0 sz) s.heap H locs (wMd I a0 a1 a2 a3 a4 a5 x) → ∀ ls : Array Slot, lv_has ls 2 [(0, .ref a0), (1, .int v1)] → W p l e (rmB 1 24 0 0) s m args below meth c H locs 0 0 (MQ below (qMv D sz ws0 (fun _ : Unit => wMd I a0 a1 a2 a3 a4 a5 y0)) args s 0 0 (va_A ws0 sz)) (F0 m 11 ls []) := by
  have hx := E.1
  have hb := E.2.1
  intro fu
  induction fu with
  | zero =>
    intro v1 x hf H locs hw ls hl
    rw [f_X6_saves_11.eq_1] at hf
    cases hf
  | succ fu ih =>
    intro v1 x hf H locs hw ls hl
    rw [f_X6_saves_11.eq_2] at hf
    refine lv_iload_n hx hb dX6_saves_11 rfl (lv_at hl 1 rfl) ?_
    refine lv_sipush (v := 2070) hx hb dX6_saves_12 (by decide) ?_
    refine lv_icmp_ge (tgt := 40) hx hb dX6_saves_15 (by decide) (fun hc => ?_) (fun hc => ?_)
    · rw [if_pos hc] at hf
      refine lv_aload_n hx hb dX6_saves_40 rfl (lv_at hl 0 rfl) ?_
      refine lv_dup hx hb dX6_saves_41 rfl ?_
      refine x_get E hw.1 0 rfl rfl in6 4 (by decide) q805 rfl rfl dX6_saves_42 ?_
      refine lv_iconst (v := 1) hx hb dX6_saves_45 (by decide) ?_
      refine lv_isub hx hb dX6_saves_46 ?_
      refine x_put E hw 0 rfl rfl in6 tyX6_ok nmX6 4 (by decide) q805 rfl rfl rfl rfl (Nat.le_of_ble_eq_true rfl) dX6_saves_47 (fun H locs hw => ?_)
      have hw : fy D (va_A ws0 sz) s.heap H locs (wMd I a0 a1 a2 a3 a4 a5 (x.1, x.2.1, x.2.2.1, x.2.2.2.1, x.2.2.2.2.1 - 1, x.2.2.2.2.2)) := hw
      exact k_X6_saves_50 E a0 a1 a2 a3 a4 a5 y0 (x.1, x.2.1, x.2.2.1, x.2.2.2.1, x.2.2.2.2.1 - 1, x.2.2.2.2.2) hf _ _ hw _ (lv_sub hl [0] rfl)
    · rw [if_neg hc] at hf
      refine lv_aload_n hx hb dX6_saves_18 rfl (lv_at hl 0 rfl) ?_
      refine x_get E hw.1 0 rfl rfl in6 3 (by decide) q804 rfl rfl dX6_saves_19 ?_
      refine lv_iload_n hx hb dX6_saves_22 rfl (lv_at hl 1 rfl) ?_
      refine lv_aload_n hx hb dX6_saves_23 rfl (lv_at hl 0 rfl) ?_
      refine x_get E hw.1 0 rfl rfl in6 3 (by decide) q804 rfl rfl dX6_saves_24 ?_
      refine lv_iload_n hx hb dX6_saves_27 rfl (lv_at hl 1 rfl) ?_
      refine lv_sipush (v := 414) hx hb dX6_saves_28 (by decide) ?_
      refine lv_iadd hx hb dX6_saves_31 ?_
      obtain ⟨g, hf⟩ := gi_s hf
      refine x_ald E hw.1 3 rfl g dX6_saves_32 ?_
      obtain ⟨g, hf⟩ := gi_s hf
      refine x_ast E hw 3 rfl g dX6_saves_33 (fun H locs hw => ?_)
      have hw : fy D (va_A ws0 sz) s.heap H locs (wMd I a0 a1 a2 a3 a4 a5 (x.1, x.2.1, x.2.2.1, (upd x.2.2.2.1 v1.toNatClampNeg (x.2.2.2.1 (v1 + 414).toNatClampNeg)), x.2.2.2.2)) := hw
      refine lv_iinc (v := v1 + 1) (lv' := [(1, .int (v1 + 1)), (0, .ref a0)]) hx hb dX6_saves_34 hl (k := 1) rfl rfl (by decide) rfl (fun ls hl => ?_)
      refine lv_goto (tgt := 11) hx hb dX6_saves_37 (by decide) ?_
      exact ih (v1 + 1) (x.1, x.2.1, x.2.2.1, (upd x.2.2.2.1 v1.toNatClampNeg (x.2.2.2.1 (v1 + 414).toNatClampNeg)), x.2.2.2.2) hf _ _ hw _ (lv_sub hl [1, 0] rfl)
set_option maxRecDepth 100000 in
set_option maxHeartbeats 4000000 in
theorem mt_X6_saves (l : Launch) (D : va_G) (I J O : ClassId) (a0 a1 a2 a3 a4 a5 : Nat) (sz : Nat)  (x : MdC) (y0 : MdC) (hf : f_X6_saves x = some y0) : mM l yX6_saves cX6_saves 2 none 1 24 0 0 D I J O sz [.ref a0] (wMd I a0 a1 a2 a3 a4 a5 x) (qMv D sz (wMd I a0 a1 a2 a3 a4 a5 x) (fun _ : Unit => wMd I a0 a1 a2 a3 a4 a5 y0)) := by
  refine mM_open (own := RX6) rfl (by decide +kernel) (Nat.le_of_ble_eq_true rfl) (fun p e s m below meth c ls E hnm hsz hw hl => ?_)
  obtain ⟨ws0, hws⟩ : ∃ ws0 : va_W, ws0 = wMd I a0 a1 a2 a3 a4 a5 x := ⟨_, rfl⟩
  have hw : fy D (va_A ws0 sz) s.heap s.heap [] (wMd I a0 a1 a2 a3 a4 a5 x) := by rw [hws]; exact hw
  rw [← hws]
  have hx := E.1
  have hb := E.2.1
  have hl : lv_has ls 2 [(0, .ref a0)] := hl
  unfold f_X6_saves at hf
  refine lv_aload_n hx hb dX6_saves_0 rfl (lv_at hl 0 rfl) ?_
  refine x_get E hw.1 0 rfl rfl in6 4 (by decide) q805 rfl rfl dX6_saves_1 ?_
  refine lv_bipush (v := 6) hx hb dX6_saves_4 (by decide) ?_
  refine lv_icmp_ne (tgt := 50) hx hb dX6_saves_6 (by decide) (fun hc => ?_) (fun hc => ?_)
  · rw [if_neg hc] at hf
    exact k_X6_saves_50 E a0 a1 a2 a3 a4 a5 y0 x hf _ _ hw _ (lv_sub hl [0] rfl)
  · rw [if_pos hc] at hf
    refine lv_iconst (v := 0) hx hb dX6_saves_9 (by decide) ?_
    refine lv_istore_n (lv' := [(1, .int 0), (0, .ref a0)]) hx hb dX6_saves_10 rfl hl (by decide) rfl (fun ls hl => ?_)
    exact k_X6_saves_11 E a0 a1 a2 a3 a4 a5 y0 FU 0 x hf _ _ hw _ (lv_sub hl [1, 0] rfl)
theorem ok_X6_of : yS yX6_of cX6_of 3 (some .int) 3 := ⟨q866, q7, q865, by decide +kernel, by decide +kernel, by decide +kernel⟩
set_option maxRecDepth 100000 in
set_option maxHeartbeats 4000000 in
theorem mt_X6_of (l : Launch) (D : va_G) (I J O : ClassId) (a0 : Nat) (p1 : Int32) (p2 : Int32) (x : Fn) (r : Int32) (hf : f_X6_of p1 p2 x = some r) : mR l yX6_of cX6_of 3 (some .int) 0 0 D I J O [.ref a0, .int p1, .int p2] (wAr I a0 414 x) (qRi r) := by
  refine mR_open (own := RX6) rfl (by decide +kernel) (Nat.le_of_ble_eq_true rfl) (fun p e s m below meth c ls E hP hl => ?_)
  have hx := E.1
  have hb := E.2.1
  have hl : lv_has ls 3 [(0, .ref a0), (1, .int p1), (2, .int p2)] := hl
  unfold f_X6_of at hf
  refine lv_aload_n hx hb dX6_of_0 rfl (lv_at hl 0 rfl) ?_
  refine lv_bipush (v := 70) hx hb dX6_of_1 (by decide) ?_
  refine lv_iconst (v := 5) hx hb dX6_of_3 (by decide) ?_
  refine lv_iload_n hx hb dX6_of_4 rfl (lv_at hl 1 rfl) ?_
  refine lv_imul hx hb dX6_of_5 ?_
  refine lv_iadd hx hb dX6_of_6 ?_
  refine lv_iload_n hx hb dX6_of_7 rfl (lv_at hl 2 rfl) ?_
  refine lv_iadd hx hb dX6_of_8 ?_
  obtain ⟨g, hf⟩ := gi_s hf
  refine x_ald E hP 0 rfl g dX6_of_9 ?_
  exact x_iR E (Option.some.inj hf) dX6_of_10
theorem ok_X6_isThing : yS yX6_isThing cX6_isThing 2 (some .boolean) 2 := ⟨q863, q7, q862, by decide +kernel, by decide +kernel, by decide +kernel⟩
set_option maxRecDepth 100000 in
set_option maxHeartbeats 4000000 in
theorem mt_X6_isThing (l : Launch) (D : va_G) (I J O : ClassId) (a0 : Nat) (p1 : Int32) (x : Fn) (r : Int32) (hf : f_X6_isThing p1 x = some r) : mR l yX6_isThing cX6_isThing 2 (some .boolean) 1 22 D I J O [.ref a0, .int p1] (wAr I a0 414 x) (qRi r) := by
  refine mR_open (own := RX6) rfl (by decide +kernel) (Nat.le_of_ble_eq_true rfl) (fun p e s m below meth c ls E hP hl => ?_)
  have hx := E.1
  have hb := E.2.1
  have hl : lv_has ls 2 [(0, .ref a0), (1, .int p1)] := hl
  unfold f_X6_isThing at hf
  refine lv_aload_n hx hb dX6_isThing_0 rfl (lv_at hl 0 rfl) ?_
  refine lv_iload_n hx hb dX6_isThing_1 rfl (lv_at hl 1 rfl) ?_
  refine lv_iconst (v := 0) hx hb dX6_isThing_2 (by decide) ?_
  obtain ⟨z1, h, hf⟩ := bd_s hf
  refine x_ci (x_rS E (As := [.ref a0, .int p1, .int 0]) (rest := []) (mt_X6_of l D I J O a0 p1 0 x z1 h) blR (x_pcR E hP) ok_X6_of q864 rfl hl.1 rfl (Nat.le_of_ble_eq_true rfl) ⟨Nat.le_of_ble_eq_true rfl, Nat.le_of_ble_eq_true rfl⟩ ⟨Nat.le_of_ble_eq_true rfl, Nat.le_of_ble_eq_true rfl⟩ dX6_isThing_3) ?_
  refine lv_iconst (v := (-1)) hx hb dX6_isThing_6 (by decide) ?_
  refine lv_icmp_eq (tgt := 14) hx hb dX6_isThing_7 (by decide) (fun hc => ?_) (fun hc => ?_)
  · rw [if_pos hc] at hf
    refine lv_iconst (v := 0) hx hb dX6_isThing_14 (by decide) ?_
    exact x_zR E (Or.inl rfl) (Option.some.inj hf) dX6_isThing_15
  · rw [if_neg hc] at hf
    refine lv_iconst (v := 1) hx hb dX6_isThing_10 (by decide) ?_
    refine lv_goto (tgt := 15) hx hb dX6_isThing_11 (by decide) ?_
    exact x_zR E (Or.inr rfl) (Option.some.inj hf) dX6_isThing_15
theorem ok_X6_things : yS yX6_things cX6_things 3 (some .int) 1 := ⟨q948, q7, q947, by decide +kernel, by decide +kernel, by decide +kernel⟩
set_option maxRecDepth 100000 in
set_option maxHeartbeats 4000000 in
theorem k_X6_things_25 {p : Program} {l : Launch} {e : Env} {s : State} {m : MethodId} {args : Array Value} {below : List Frame} {meth : Method} {c : Code} {D : va_G} {I J O : ClassId} (E : fx p s m args meth c cX6_things RX6 3 (some .int) D I J O) (a0 : Nat)  (r : Int32) (k4 : Int32 → Int32 → Fn → Option (Int32)) (hk4 : ∀ (v1 : Int32) (v2 : Int32) (x : Fn), k4 v1 v2 x = some r → va_P D vwCl (wAr I a0 414 x) s.heap → ∀ ls : Array Slot, lv_has ls 3 [(0, .ref a0), (1, .int v1), (2, .int v2)] → W p l e (rmB 2 43 0 0) s m args below meth c s.heap [] 0 0 (MQ below (qRi r) args s 0 0 (fun _ => False)) (F0 m 4 ls [])) : ∀ (v2 : Int32) (t0 : Int32) (t1 : Int32) (x : Fn), f_X6_things_25 k4 v2 t0 t1 x = some r → va_P D vwCl (wAr I a0 414 x) s.heap → ∀ ls : Array Slot, lv_has ls 3 [(0, .ref a0), (2, .int v2)] → W p l e (rmB 2 43 0 0) s m args below meth c s.heap [] 0 0 (MQ below (qRi r) args s 0 0 (fun _ => False)) (F0 m 25 ls [.int t1, .int t0]) := by
  have hx := E.1
  have hb := E.2.1
  intro v2 t0 t1 x hf hP ls hl
  unfold f_X6_things_25 at hf
  refine lv_iadd hx hb dX6_things_25 ?_
  refine lv_istore_n (lv' := [(1, .int (t0 + t1)), (0, .ref a0), (2, .int v2)]) hx hb dX6_things_26 rfl hl (by decide) rfl (fun ls hl => ?_)
  refine lv_iinc (v := v2 + 1) (lv' := [(2, .int (v2 + 1)), (1, .int (t0 + t1)), (0, .ref a0)]) hx hb dX6_things_27 hl (k := 2) rfl rfl (by decide) rfl (fun ls hl => ?_)
  refine lv_goto (tgt := 4) hx hb dX6_things_30 (by decide) ?_
  exact hk4 (t0 + t1) (v2 + 1) x hf hP _ (lv_sub hl [2, 1, 0] rfl)
set_option maxRecDepth 100000 in
set_option maxHeartbeats 4000000 in
theorem k_X6_things_4 {p : Program} {l : Launch} {e : Env} {s : State} {m : MethodId} {args : Array Value} {below : List Frame} {meth : Method} {c : Code} {D : va_G} {I J O : ClassId} (E : fx p s m args meth c cX6_things RX6 3 (some .int) D I J O) (a0 : Nat)  (r : Int32) : ∀ fu : Nat, ∀ (v1 : Int32) (v2 : Int32) (x : Fn), f_X6_things_4 fu v1 v2 x = some r → va_P D vwCl (wAr I a0 414 x) s.heap → ∀ ls : Array Slot, lv_has ls 3 [(0, .ref a0), (1, .int v1), (2, .int v2)] → W p l e (rmB 2 43 0 0) s m args below meth c s.heap [] 0 0 (MQ below (qRi r) args s 0 0 (fun _ => False)) (F0 m 4 ls []) := by
  have hx := E.1
  have hb := E.2.1
  intro fu
  induction fu with
  | zero =>
    intro v1 v2 x hf hP ls hl
    rw [f_X6_things_4.eq_1] at hf
    cases hf
  | succ fu ih =>
    intro v1 v2 x hf hP ls hl
    rw [f_X6_things_4.eq_2] at hf
    refine lv_iload_n hx hb dX6_things_4 rfl (lv_at hl 2 rfl) ?_
    refine lv_aload_n hx hb dX6_things_5 rfl (lv_at hl 0 rfl) ?_
    refine lv_iconst (v := 1) hx hb dX6_things_6 (by decide) ?_
    obtain ⟨g, hf⟩ := gi_s hf
    refine x_ald E hP 0 rfl g dX6_things_7 ?_
    refine lv_icmp_ge (tgt := 33) hx hb dX6_things_8 (by decide) (fun hc => ?_) (fun hc => ?_)
    · rw [if_pos hc] at hf
      refine lv_iload_n hx hb dX6_things_33 rfl (lv_at hl 1 rfl) ?_
      exact x_iR E (Option.some.inj hf) dX6_things_34
    · rw [if_neg hc] at hf
      refine lv_iload_n hx hb dX6_things_11 rfl (lv_at hl 1 rfl) ?_
      refine lv_aload_n hx hb dX6_things_12 rfl (lv_at hl 0 rfl) ?_
      refine lv_iload_n hx hb dX6_things_13 rfl (lv_at hl 2 rfl) ?_
      obtain ⟨z1, h, hf⟩ := bd_s hf
      refine x_ci (x_rS E (As := [.ref a0, .int v2]) (rest := [.int v1]) (mt_X6_isThing l D I J O a0 v2 x z1 h) blR (x_pcR E hP) ok_X6_isThing q861 rfl hl.1 rfl (Nat.le_of_ble_eq_true rfl) ⟨Nat.le_of_ble_eq_true rfl, Nat.le_of_ble_eq_true rfl⟩ ⟨Nat.le_of_ble_eq_true rfl, Nat.le_of_ble_eq_true rfl⟩ dX6_things_14) ?_
      refine lv_if_eq (tgt := 24) hx hb dX6_things_17 (by decide) (fun hc => ?_) (fun hc => ?_)
      · rw [if_pos hc] at hf
        refine lv_iconst (v := 0) hx hb dX6_things_24 (by decide) ?_
        exact k_X6_things_25 E a0 r (f_X6_things_4 fu) ih v2 v1 0 x hf hP _ (lv_sub hl [0, 2] rfl)
      · rw [if_neg hc] at hf
        refine lv_iconst (v := 1) hx hb dX6_things_20 (by decide) ?_
        refine lv_goto (tgt := 25) hx hb dX6_things_21 (by decide) ?_
        exact k_X6_things_25 E a0 r (f_X6_things_4 fu) ih v2 v1 1 x hf hP _ (lv_sub hl [0, 2] rfl)
set_option maxRecDepth 100000 in
set_option maxHeartbeats 4000000 in
theorem mt_X6_things (l : Launch) (D : va_G) (I J O : ClassId) (a0 : Nat)  (x : Fn) (r : Int32) (hf : f_X6_things x = some r) : mR l yX6_things cX6_things 3 (some .int) 2 43 D I J O [.ref a0] (wAr I a0 414 x) (qRi r) := by
  refine mR_open (own := RX6) rfl (by decide +kernel) (Nat.le_of_ble_eq_true rfl) (fun p e s m below meth c ls E hP hl => ?_)
  have hx := E.1
  have hb := E.2.1
  have hl : lv_has ls 3 [(0, .ref a0)] := hl
  unfold f_X6_things at hf
  refine lv_iconst (v := 0) hx hb dX6_things_0 (by decide) ?_
  refine lv_istore_n (lv' := [(1, .int 0), (0, .ref a0)]) hx hb dX6_things_1 rfl hl (by decide) rfl (fun ls hl => ?_)
  refine lv_iconst (v := 0) hx hb dX6_things_2 (by decide) ?_
  refine lv_istore_n (lv' := [(2, .int 0), (1, .int 0), (0, .ref a0)]) hx hb dX6_things_3 rfl hl (by decide) rfl (fun ls hl => ?_)
  exact k_X6_things_4 E a0 r FU 0 0 x hf hP _ (lv_sub hl [2, 1, 0] rfl)
theorem ok_X6_entryOf : yS yX6_entryOf cX6_entryOf 3 (some .int) 2 := ⟨q860, q7, q859, by decide +kernel, by decide +kernel, by decide +kernel⟩
set_option maxRecDepth 100000 in
set_option maxHeartbeats 4000000 in
theorem k_X6_entryOf_2 {p : Program} {l : Launch} {e : Env} {s : State} {m : MethodId} {args : Array Value} {below : List Frame} {meth : Method} {c : Code} {D : va_G} {I J O : ClassId} (E : fx p s m args meth c cX6_entryOf RX6 3 (some .int) D I J O) (a0 : Nat)  (r : Int32) : ∀ fu : Nat, ∀ (v1 : Int32) (v2 : Int32) (x : Fn), f_X6_entryOf_2 fu v1 v2 x = some r → va_P D vwCl (wAr I a0 414 x) s.heap → ∀ ls : Array Slot, lv_has ls 3 [(0, .ref a0), (1, .int v1), (2, .int v2)] → W p l e (rmB 2 43 0 0) s m args below meth c s.heap [] 0 0 (MQ below (qRi r) args s 0 0 (fun _ => False)) (F0 m 2 ls []) := by
  have hx := E.1
  have hb := E.2.1
  intro fu
  induction fu with
  | zero =>
    intro v1 v2 x hf hP ls hl
    rw [f_X6_entryOf_2.eq_1] at hf
    cases hf
  | succ fu ih =>
    intro v1 v2 x hf hP ls hl
    rw [f_X6_entryOf_2.eq_2] at hf
    refine lv_iload_n hx hb dX6_entryOf_2 rfl (lv_at hl 2 rfl) ?_
    refine lv_aload_n hx hb dX6_entryOf_3 rfl (lv_at hl 0 rfl) ?_
    refine lv_iconst (v := 1) hx hb dX6_entryOf_4 (by decide) ?_
    obtain ⟨g, hf⟩ := gi_s hf
    refine x_ald E hP 0 rfl g dX6_entryOf_5 ?_
    refine lv_icmp_ge (tgt := 53) hx hb dX6_entryOf_6 (by decide) (fun hc => ?_) (fun hc => ?_)
    · rw [if_pos hc] at hf
      refine lv_iconst (v := (-1)) hx hb dX6_entryOf_53 (by decide) ?_
      exact x_iR E (Option.some.inj hf) dX6_entryOf_54
    · rw [if_neg hc] at hf
      refine lv_aload_n hx hb dX6_entryOf_9 rfl (lv_at hl 0 rfl) ?_
      refine lv_iload_n hx hb dX6_entryOf_10 rfl (lv_at hl 2 rfl) ?_
      obtain ⟨z1, h, hf⟩ := bd_s hf
      refine x_ci (x_rS E (As := [.ref a0, .int v2]) (rest := []) (mt_X6_isThing l D I J O a0 v2 x z1 h) blR (x_pcR E hP) ok_X6_isThing q861 rfl hl.1 rfl (Nat.le_of_ble_eq_true rfl) ⟨Nat.le_of_ble_eq_true rfl, Nat.le_of_ble_eq_true rfl⟩ ⟨Nat.le_of_ble_eq_true rfl, Nat.le_of_ble_eq_true rfl⟩ dX6_entryOf_11) ?_
      refine lv_if_eq (tgt := 47) hx hb dX6_entryOf_14 (by decide) (fun hc => ?_) (fun hc => ?_)
      · rw [if_pos hc] at hf
        refine lv_iinc (v := v2 + 1) (lv' := [(2, .int (v2 + 1)), (0, .ref a0), (1, .int v1)]) hx hb dX6_entryOf_47 hl (k := 2) rfl rfl (by decide) rfl (fun ls hl => ?_)
        refine lv_goto (tgt := 2) hx hb dX6_entryOf_50 (by decide) ?_
        exact ih v1 (v2 + 1) x hf hP _ (lv_sub hl [1, 2, 0] rfl)
      · rw [if_neg hc] at hf
        refine lv_iload_n hx hb dX6_entryOf_17 rfl (lv_at hl 1 rfl) ?_
        refine lv_aload_n hx hb dX6_entryOf_18 rfl (lv_at hl 0 rfl) ?_
        refine lv_iload_n hx hb dX6_entryOf_19 rfl (lv_at hl 2 rfl) ?_
        refine lv_iconst (v := 0) hx hb dX6_entryOf_20 (by decide) ?_
        obtain ⟨z2, h, hf⟩ := bd_s hf
        refine x_ci (x_rS E (As := [.ref a0, .int v2, .int 0]) (rest := [.int v1]) (mt_X6_of l D I J O a0 v2 0 x z2 h) blR (x_pcR E hP) ok_X6_of q864 rfl hl.1 rfl (Nat.le_of_ble_eq_true rfl) ⟨Nat.le_of_ble_eq_true rfl, Nat.le_of_ble_eq_true rfl⟩ ⟨Nat.le_of_ble_eq_true rfl, Nat.le_of_ble_eq_true rfl⟩ dX6_entryOf_21) ?_
        refine lv_aload_n hx hb dX6_entryOf_24 rfl (lv_at hl 0 rfl) ?_
        refine lv_iload_n hx hb dX6_entryOf_25 rfl (lv_at hl 2 rfl) ?_
        refine lv_iconst (v := 0) hx hb dX6_entryOf_26 (by decide) ?_
        obtain ⟨z3, h, hf⟩ := bd_s hf
        refine x_ci (x_rS E (As := [.ref a0, .int v2, .int 0]) (rest := [.int z2, .int v1]) (mt_X6_of l D I J O a0 v2 0 x z3 h) blR (x_pcR E hP) ok_X6_of q864 rfl hl.1 rfl (Nat.le_of_ble_eq_true rfl) ⟨Nat.le_of_ble_eq_true rfl, Nat.le_of_ble_eq_true rfl⟩ ⟨Nat.le_of_ble_eq_true rfl, Nat.le_of_ble_eq_true rfl⟩ dX6_entryOf_27) ?_
        refine lv_aload_n hx hb dX6_entryOf_30 rfl (lv_at hl 0 rfl) ?_
        refine lv_iload_n hx hb dX6_entryOf_31 rfl (lv_at hl 2 rfl) ?_
        refine lv_iconst (v := 1) hx hb dX6_entryOf_32 (by decide) ?_
        obtain ⟨z4, h, hf⟩ := bd_s hf
        refine x_ci (x_rS E (As := [.ref a0, .int v2, .int 1]) (rest := [.int z3, .int z2, .int v1]) (mt_X6_of l D I J O a0 v2 1 x z4 h) blR (x_pcR E hP) ok_X6_of q864 rfl hl.1 rfl (Nat.le_of_ble_eq_true rfl) ⟨Nat.le_of_ble_eq_true rfl, Nat.le_of_ble_eq_true rfl⟩ ⟨Nat.le_of_ble_eq_true rfl, Nat.le_of_ble_eq_true rfl⟩ dX6_entryOf_33) ?_
        refine lv_iadd hx hb dX6_entryOf_36 ?_
        refine lv_iconst (v := 1) hx hb dX6_entryOf_37 (by decide) ?_
        refine lv_isub hx hb dX6_entryOf_38 ?_
        obtain ⟨z5, h, hf⟩ := bd_s hf
        refine x_ci (x_rS E (As := [.int v1, .int z2, .int ((z3 + z4) - 1)]) (rest := []) (mt_X6_in l D I J O v1 z2 ((z3 + z4) - 1) z5 h) blR (x_pcR E x_none) ok_X6_in q846 rfl hl.1 rfl (Nat.le_of_ble_eq_true rfl) ⟨Nat.le_of_ble_eq_true rfl, Nat.le_of_ble_eq_true rfl⟩ ⟨Nat.le_of_ble_eq_true rfl, Nat.le_of_ble_eq_true rfl⟩ dX6_entryOf_39) ?_
        refine lv_if_eq (tgt := 47) hx hb dX6_entryOf_42 (by decide) (fun hc => ?_) (fun hc => ?_)
        · rw [if_pos hc] at hf
          refine lv_iinc (v := v2 + 1) (lv' := [(2, .int (v2 + 1)), (0, .ref a0), (1, .int v1)]) hx hb dX6_entryOf_47 hl (k := 2) rfl rfl (by decide) rfl (fun ls hl => ?_)
          refine lv_goto (tgt := 2) hx hb dX6_entryOf_50 (by decide) ?_
          exact ih v1 (v2 + 1) x hf hP _ (lv_sub hl [1, 2, 0] rfl)
        · rw [if_neg hc] at hf
          refine lv_iload_n hx hb dX6_entryOf_45 rfl (lv_at hl 2 rfl) ?_
          exact x_iR E (Option.some.inj hf) dX6_entryOf_46
set_option maxRecDepth 100000 in
set_option maxHeartbeats 4000000 in
theorem mt_X6_entryOf (l : Launch) (D : va_G) (I J O : ClassId) (a0 : Nat) (p1 : Int32) (x : Fn) (r : Int32) (hf : f_X6_entryOf p1 x = some r) : mR l yX6_entryOf cX6_entryOf 3 (some .int) 2 43 D I J O [.ref a0, .int p1] (wAr I a0 414 x) (qRi r) := by
  refine mR_open (own := RX6) rfl (by decide +kernel) (Nat.le_of_ble_eq_true rfl) (fun p e s m below meth c ls E hP hl => ?_)
  have hx := E.1
  have hb := E.2.1
  have hl : lv_has ls 3 [(0, .ref a0), (1, .int p1)] := hl
  unfold f_X6_entryOf at hf
  refine lv_iconst (v := 0) hx hb dX6_entryOf_0 (by decide) ?_
  refine lv_istore_n (lv' := [(2, .int 0), (0, .ref a0), (1, .int p1)]) hx hb dX6_entryOf_1 rfl hl (by decide) rfl (fun ls hl => ?_)
  exact k_X6_entryOf_2 E a0 r FU p1 0 x hf hP _ (lv_sub hl [1, 2, 0] rfl)
theorem ok_X6_handleOf : yS yX6_handleOf cX6_handleOf 2 (some .int) 2 := ⟨q934, q7, q933, by decide +kernel, by decide +kernel, by decide +kernel⟩
set_option maxRecDepth 100000 in
set_option maxHeartbeats 4000000 in
theorem mt_X6_handleOf (l : Launch) (D : va_G) (I J O : ClassId) (a0 : Nat) (p1 : Int32) (x : Fn) (r : Int32) (hf : f_X6_handleOf p1 x = some r) : mR l yX6_handleOf cX6_handleOf 2 (some .int) 1 22 D I J O [.ref a0, .int p1] (wAr I a0 414 x) (qRi r) := by
  refine mR_open (own := RX6) rfl (by decide +kernel) (Nat.le_of_ble_eq_true rfl) (fun p e s m below meth c ls E hP hl => ?_)
  have hx := E.1
  have hb := E.2.1
  have hl : lv_has ls 2 [(0, .ref a0), (1, .int p1)] := hl
  unfold f_X6_handleOf at hf
  refine lv_sipush (v := 1000) hx hb dX6_handleOf_0 (by decide) ?_
  refine lv_aload_n hx hb dX6_handleOf_3 rfl (lv_at hl 0 rfl) ?_
  refine lv_iload_n hx hb dX6_handleOf_4 rfl (lv_at hl 1 rfl) ?_
  refine lv_iconst (v := 0) hx hb dX6_handleOf_5 (by decide) ?_
  obtain ⟨z1, h, hf⟩ := bd_s hf
  refine x_ci (x_rS E (As := [.ref a0, .int p1, .int 0]) (rest := [.int 1000]) (mt_X6_of l D I J O a0 p1 0 x z1 h) blR (x_pcR E hP) ok_X6_of q864 rfl hl.1 rfl (Nat.le_of_ble_eq_true rfl) ⟨Nat.le_of_ble_eq_true rfl, Nat.le_of_ble_eq_true rfl⟩ ⟨Nat.le_of_ble_eq_true rfl, Nat.le_of_ble_eq_true rfl⟩ dX6_handleOf_6) ?_
  refine lv_imul hx hb dX6_handleOf_9 ?_
  refine lv_aload_n hx hb dX6_handleOf_10 rfl (lv_at hl 0 rfl) ?_
  refine lv_bipush (v := 6) hx hb dX6_handleOf_11 (by decide) ?_
  refine lv_aload_n hx hb dX6_handleOf_13 rfl (lv_at hl 0 rfl) ?_
  refine lv_iload_n hx hb dX6_handleOf_14 rfl (lv_at hl 1 rfl) ?_
  refine lv_iconst (v := 0) hx hb dX6_handleOf_15 (by decide) ?_
  obtain ⟨z2, h, hf⟩ := bd_s hf
  refine x_ci (x_rS E (As := [.ref a0, .int p1, .int 0]) (rest := [.int 6, .ref a0, .int (1000 * z1)]) (mt_X6_of l D I J O a0 p1 0 x z2 h) blR (x_pcR E hP) ok_X6_of q864 rfl hl.1 rfl (Nat.le_of_ble_eq_true rfl) ⟨Nat.le_of_ble_eq_true rfl, Nat.le_of_ble_eq_true rfl⟩ ⟨Nat.le_of_ble_eq_true rfl, Nat.le_of_ble_eq_true rfl⟩ dX6_handleOf_16) ?_
  refine lv_iadd hx hb dX6_handleOf_19 ?_
  obtain ⟨g, hf⟩ := gi_s hf
  refine x_ald E hP 0 rfl g dX6_handleOf_20 ?_
  refine lv_iadd hx hb dX6_handleOf_21 ?_
  exact x_iR E (Option.some.inj hf) dX6_handleOf_22
theorem ok_X6_freeFrom : yS yX6_freeFrom cX6_freeFrom 4 (some .int) 3 := ⟨q857, q7, q856, by decide +kernel, by decide +kernel, by decide +kernel⟩
set_option maxRecDepth 100000 in
set_option maxHeartbeats 4000000 in
theorem k_X6_freeFrom_2 {p : Program} {l : Launch} {e : Env} {s : State} {m : MethodId} {args : Array Value} {below : List Frame} {meth : Method} {c : Code} {D : va_G} {I J O : ClassId} (E : fx p s m args meth c cX6_freeFrom RX6 4 (some .int) D I J O) (a0 : Nat)  (r : Int32) : ∀ fu : Nat, ∀ (v1 : Int32) (v2 : Int32) (v3 : Int32) (x : Fn), f_X6_freeFrom_2 fu v1 v2 v3 x = some r → va_P D vwCl (wAr I a0 414 x) s.heap → ∀ ls : Array Slot, lv_has ls 4 [(0, .ref a0), (1, .int v1), (2, .int v2), (3, .int v3)] → W p l e (rmB 3 65 0 0) s m args below meth c s.heap [] 0 0 (MQ below (qRi r) args s 0 0 (fun _ => False)) (F0 m 2 ls []) := by
  have hx := E.1
  have hb := E.2.1
  intro fu
  induction fu with
  | zero =>
    intro v1 v2 v3 x hf hP ls hl
    rw [f_X6_freeFrom_2.eq_1] at hf
    cases hf
  | succ fu ih =>
    intro v1 v2 v3 x hf hP ls hl
    rw [f_X6_freeFrom_2.eq_2] at hf
    refine lv_iload_n hx hb dX6_freeFrom_2 rfl (lv_at hl 1 rfl) ?_
    refine lv_iload_n hx hb dX6_freeFrom_3 rfl (lv_at hl 3 rfl) ?_
    refine lv_iadd hx hb dX6_freeFrom_4 ?_
    refine lv_iload_n hx hb dX6_freeFrom_5 rfl (lv_at hl 2 rfl) ?_
    refine lv_icmp_ge (tgt := 26) hx hb dX6_freeFrom_6 (by decide) (fun hc => ?_) (fun hc => ?_)
    · rw [if_pos hc] at hf
      refine lv_iload_n hx hb dX6_freeFrom_26 rfl (lv_at hl 3 rfl) ?_
      exact x_iR E (Option.some.inj hf) dX6_freeFrom_27
    · rw [if_neg hc] at hf
      refine lv_aload_n hx hb dX6_freeFrom_9 rfl (lv_at hl 0 rfl) ?_
      refine lv_iload_n hx hb dX6_freeFrom_10 rfl (lv_at hl 1 rfl) ?_
      refine lv_iload_n hx hb dX6_freeFrom_11 rfl (lv_at hl 3 rfl) ?_
      refine lv_iadd hx hb dX6_freeFrom_12 ?_
      obtain ⟨z1, h, hf⟩ := bd_s hf
      refine x_ci (x_rS E (As := [.ref a0, .int (v1 + v3)]) (rest := []) (mt_X6_entryOf l D I J O a0 (v1 + v3) x z1 h) blR (x_pcR E hP) ok_X6_entryOf q858 rfl hl.1 rfl (Nat.le_of_ble_eq_true rfl) ⟨Nat.le_of_ble_eq_true rfl, Nat.le_of_ble_eq_true rfl⟩ ⟨Nat.le_of_ble_eq_true rfl, Nat.le_of_ble_eq_true rfl⟩ dX6_freeFrom_13) ?_
      refine lv_iconst (v := (-1)) hx hb dX6_freeFrom_16 (by decide) ?_
      refine lv_icmp_ne (tgt := 26) hx hb dX6_freeFrom_17 (by decide) (fun hc => ?_) (fun hc => ?_)
      · rw [if_neg hc] at hf
        refine lv_iload_n hx hb dX6_freeFrom_26 rfl (lv_at hl 3 rfl) ?_
        exact x_iR E (Option.some.inj hf) dX6_freeFrom_27
      · rw [if_pos hc] at hf
        refine lv_iinc (v := v3 + 1) (lv' := [(3, .int (v3 + 1)), (0, .ref a0), (1, .int v1), (2, .int v2)]) hx hb dX6_freeFrom_20 hl (k := 3) rfl rfl (by decide) rfl (fun ls hl => ?_)
        refine lv_goto (tgt := 2) hx hb dX6_freeFrom_23 (by decide) ?_
        exact ih v1 v2 (v3 + 1) x hf hP _ (lv_sub hl [1, 2, 3, 0] rfl)
set_option maxRecDepth 100000 in
set_option maxHeartbeats 4000000 in
theorem mt_X6_freeFrom (l : Launch) (D : va_G) (I J O : ClassId) (a0 : Nat) (p1 : Int32) (p2 : Int32) (x : Fn) (r : Int32) (hf : f_X6_freeFrom p1 p2 x = some r) : mR l yX6_freeFrom cX6_freeFrom 4 (some .int) 3 65 D I J O [.ref a0, .int p1, .int p2] (wAr I a0 414 x) (qRi r) := by
  refine mR_open (own := RX6) rfl (by decide +kernel) (Nat.le_of_ble_eq_true rfl) (fun p e s m below meth c ls E hP hl => ?_)
  have hx := E.1
  have hb := E.2.1
  have hl : lv_has ls 4 [(0, .ref a0), (1, .int p1), (2, .int p2)] := hl
  unfold f_X6_freeFrom at hf
  refine lv_iconst (v := 0) hx hb dX6_freeFrom_0 (by decide) ?_
  refine lv_istore_n (lv' := [(3, .int 0), (0, .ref a0), (1, .int p1), (2, .int p2)]) hx hb dX6_freeFrom_1 rfl hl (by decide) rfl (fun ls hl => ?_)
  exact k_X6_freeFrom_2 E a0 r FU p1 p2 0 x hf hP _ (lv_sub hl [1, 2, 3, 0] rfl)
theorem ok_X6_roomIn : yS yX6_roomIn cX6_roomIn 4 (some .int) 3 := ⟨q854, q7, q853, by decide +kernel, by decide +kernel, by decide +kernel⟩
set_option maxRecDepth 100000 in
set_option maxHeartbeats 4000000 in
theorem k_X6_roomIn_2 {p : Program} {l : Launch} {e : Env} {s : State} {m : MethodId} {args : Array Value} {below : List Frame} {meth : Method} {c : Code} {D : va_G} {I J O : ClassId} (E : fx p s m args meth c cX6_roomIn RX6 4 (some .int) D I J O) (a0 : Nat)  (r : Int32) : ∀ fu : Nat, ∀ (v1 : Int32) (v2 : Int32) (v3 : Int32) (x : Fn), f_X6_roomIn_2 fu v1 v2 v3 x = some r → va_P D vwCl (wAr I a0 414 x) s.heap → ∀ ls : Array Slot, lv_has ls 4 [(0, .ref a0), (1, .int v1), (2, .int v2), (3, .int v3)] → W p l e (rmB 4 88 0 0) s m args below meth c s.heap [] 0 0 (MQ below (qRi r) args s 0 0 (fun _ => False)) (F0 m 2 ls []) := by
  have hx := E.1
  have hb := E.2.1
  intro fu
  induction fu with
  | zero =>
    intro v1 v2 v3 x hf hP ls hl
    rw [f_X6_roomIn_2.eq_1] at hf
    cases hf
  | succ fu ih =>
    intro v1 v2 v3 x hf hP ls hl
    rw [f_X6_roomIn_2.eq_2] at hf
    refine lv_iload_n hx hb dX6_roomIn_2 rfl (lv_at hl 3 rfl) ?_
    refine lv_iload_n hx hb dX6_roomIn_3 rfl (lv_at hl 1 rfl) ?_
    refine lv_iadd hx hb dX6_roomIn_4 ?_
    refine lv_iload_n hx hb dX6_roomIn_5 rfl (lv_at hl 2 rfl) ?_
    refine lv_icmp_gt (tgt := 27) hx hb dX6_roomIn_6 (by decide) (fun hc => ?_) (fun hc => ?_)
    · rw [if_pos hc] at hf
      refine lv_iconst (v := (-1)) hx hb dX6_roomIn_27 (by decide) ?_
      exact x_iR E (Option.some.inj hf) dX6_roomIn_28
    · rw [if_neg hc] at hf
      refine lv_aload_n hx hb dX6_roomIn_9 rfl (lv_at hl 0 rfl) ?_
      refine lv_iload_n hx hb dX6_roomIn_10 rfl (lv_at hl 3 rfl) ?_
      refine lv_iload_n hx hb dX6_roomIn_11 rfl (lv_at hl 2 rfl) ?_
      obtain ⟨z1, h, hf⟩ := bd_s hf
      refine x_ci (x_rS E (As := [.ref a0, .int v3, .int v2]) (rest := []) (mt_X6_freeFrom l D I J O a0 v3 v2 x z1 h) blR (x_pcR E hP) ok_X6_freeFrom q855 rfl hl.1 rfl (Nat.le_of_ble_eq_true rfl) ⟨Nat.le_of_ble_eq_true rfl, Nat.le_of_ble_eq_true rfl⟩ ⟨Nat.le_of_ble_eq_true rfl, Nat.le_of_ble_eq_true rfl⟩ dX6_roomIn_12) ?_
      refine lv_iload_n hx hb dX6_roomIn_15 rfl (lv_at hl 1 rfl) ?_
      refine lv_icmp_lt (tgt := 21) hx hb dX6_roomIn_16 (by decide) (fun hc => ?_) (fun hc => ?_)
      · rw [if_pos hc] at hf
        refine lv_iinc (v := v3 + 1) (lv' := [(3, .int (v3 + 1)), (0, .ref a0), (1, .int v1), (2, .int v2)]) hx hb dX6_roomIn_21 hl (k := 3) rfl rfl (by decide) rfl (fun ls hl => ?_)
        refine lv_goto (tgt := 2) hx hb dX6_roomIn_24 (by decide) ?_
        exact ih v1 v2 (v3 + 1) x hf hP _ (lv_sub hl [1, 2, 3, 0] rfl)
      · rw [if_neg hc] at hf
        refine lv_iload_n hx hb dX6_roomIn_19 rfl (lv_at hl 3 rfl) ?_
        exact x_iR E (Option.some.inj hf) dX6_roomIn_20
set_option maxRecDepth 100000 in
set_option maxHeartbeats 4000000 in
theorem mt_X6_roomIn (l : Launch) (D : va_G) (I J O : ClassId) (a0 : Nat) (p1 : Int32) (p2 : Int32) (x : Fn) (r : Int32) (hf : f_X6_roomIn p1 p2 x = some r) : mR l yX6_roomIn cX6_roomIn 4 (some .int) 4 88 D I J O [.ref a0, .int p1, .int p2] (wAr I a0 414 x) (qRi r) := by
  refine mR_open (own := RX6) rfl (by decide +kernel) (Nat.le_of_ble_eq_true rfl) (fun p e s m below meth c ls E hP hl => ?_)
  have hx := E.1
  have hb := E.2.1
  have hl : lv_has ls 4 [(0, .ref a0), (1, .int p1), (2, .int p2)] := hl
  unfold f_X6_roomIn at hf
  refine lv_iconst (v := 0) hx hb dX6_roomIn_0 (by decide) ?_
  refine lv_istore_n (lv' := [(3, .int 0), (0, .ref a0), (1, .int p1), (2, .int p2)]) hx hb dX6_roomIn_1 rfl hl (by decide) rfl (fun ls hl => ?_)
  exact k_X6_roomIn_2 E a0 r FU p1 p2 0 x hf hP _ (lv_sub hl [1, 2, 3, 0] rfl)
theorem ok_X6_cellsFor : yS yX6_cellsFor cX6_cellsFor 3 (some .int) 2 := ⟨q851, q7, q850, by decide +kernel, by decide +kernel, by decide +kernel⟩
set_option maxRecDepth 100000 in
set_option maxHeartbeats 4000000 in
theorem k_X6_cellsFor_27 {p : Program} {l : Launch} {e : Env} {s : State} {m : MethodId} {args : Array Value} {below : List Frame} {meth : Method} {c : Code} {D : va_G} {I J O : ClassId} (E : fx p s m args meth c cX6_cellsFor RX6 3 (some .int) D I J O) (a0 : Nat)  (r : Int32) : ∀ (v1 : Int32) (v2 : Int32) (x : Fn), f_X6_cellsFor_27 v1 v2 x = some r → va_P D vwCl (wAr I a0 414 x) s.heap → ∀ ls : Array Slot, lv_has ls 3 [(0, .ref a0), (1, .int v1), (2, .int v2)] → W p l e (rmB 5 111 0 0) s m args below meth c s.heap [] 0 0 (MQ below (qRi r) args s 0 0 (fun _ => False)) (F0 m 27 ls []) := by
  have hx := E.1
  have hb := E.2.1
  intro v1 v2 x hf hP ls hl
  unfold f_X6_cellsFor_27 at hf
  refine lv_aload_n hx hb dX6_cellsFor_27 rfl (lv_at hl 0 rfl) ?_
  refine lv_iload_n hx hb dX6_cellsFor_28 rfl (lv_at hl 1 rfl) ?_
  refine lv_iload_n hx hb dX6_cellsFor_29 rfl (lv_at hl 2 rfl) ?_
  obtain ⟨z2, h, hf⟩ := bd_s hf
  refine x_ci (x_rS E (As := [.ref a0, .int v1, .int v2]) (rest := []) (mt_X6_roomIn l D I J O a0 v1 v2 x z2 h) blR (x_pcR E hP) ok_X6_roomIn q852 rfl hl.1 rfl (Nat.le_of_ble_eq_true rfl) ⟨Nat.le_of_ble_eq_true rfl, Nat.le_of_ble_eq_true rfl⟩ ⟨Nat.le_of_ble_eq_true rfl, Nat.le_of_ble_eq_true rfl⟩ dX6_cellsFor_30) ?_
  refine lv_iconst (v := (-1)) hx hb dX6_cellsFor_33 (by decide) ?_
  refine lv_icmp_ne (tgt := 41) hx hb dX6_cellsFor_34 (by decide) (fun hc => ?_) (fun hc => ?_)
  · rw [if_neg hc] at hf
    refine lv_iload_n hx hb dX6_cellsFor_41 rfl (lv_at hl 2 rfl) ?_
    exact x_iR E (Option.some.inj hf) dX6_cellsFor_42
  · rw [if_pos hc] at hf
    refine lv_iconst (v := (-1)) hx hb dX6_cellsFor_37 (by decide) ?_
    refine lv_goto (tgt := 42) hx hb dX6_cellsFor_38 (by decide) ?_
    exact x_iR E (Option.some.inj hf) dX6_cellsFor_42
set_option maxRecDepth 100000 in
set_option maxHeartbeats 4000000 in
theorem k_X6_cellsFor_4 {p : Program} {l : Launch} {e : Env} {s : State} {m : MethodId} {args : Array Value} {below : List Frame} {meth : Method} {c : Code} {D : va_G} {I J O : ClassId} (E : fx p s m args meth c cX6_cellsFor RX6 3 (some .int) D I J O) (a0 : Nat)  (r : Int32) : ∀ fu : Nat, ∀ (v1 : Int32) (v2 : Int32) (x : Fn), f_X6_cellsFor_4 fu v1 v2 x = some r → va_P D vwCl (wAr I a0 414 x) s.heap → ∀ ls : Array Slot, lv_has ls 3 [(0, .ref a0), (1, .int v1), (2, .int v2)] → W p l e (rmB 5 111 0 0) s m args below meth c s.heap [] 0 0 (MQ below (qRi r) args s 0 0 (fun _ => False)) (F0 m 4 ls []) := by
  have hx := E.1
  have hb := E.2.1
  intro fu
  induction fu with
  | zero =>
    intro v1 v2 x hf hP ls hl
    rw [f_X6_cellsFor_4.eq_1] at hf
    cases hf
  | succ fu ih =>
    intro v1 v2 x hf hP ls hl
    rw [f_X6_cellsFor_4.eq_2] at hf
    refine lv_iload_n hx hb dX6_cellsFor_4 rfl (lv_at hl 2 rfl) ?_
    refine lv_bipush (v := 64) hx hb dX6_cellsFor_5 (by decide) ?_
    refine lv_icmp_ge (tgt := 27) hx hb dX6_cellsFor_7 (by decide) (fun hc => ?_) (fun hc => ?_)
    · rw [if_pos hc] at hf
      exact k_X6_cellsFor_27 E a0 r v1 v2 x hf hP _ (lv_sub hl [0, 1, 2] rfl)
    · rw [if_neg hc] at hf
      refine lv_aload_n hx hb dX6_cellsFor_10 rfl (lv_at hl 0 rfl) ?_
      refine lv_iload_n hx hb dX6_cellsFor_11 rfl (lv_at hl 1 rfl) ?_
      refine lv_iload_n hx hb dX6_cellsFor_12 rfl (lv_at hl 2 rfl) ?_
      obtain ⟨z1, h, hf⟩ := bd_s hf
      refine x_ci (x_rS E (As := [.ref a0, .int v1, .int v2]) (rest := []) (mt_X6_roomIn l D I J O a0 v1 v2 x z1 h) blR (x_pcR E hP) ok_X6_roomIn q852 rfl hl.1 rfl (Nat.le_of_ble_eq_true rfl) ⟨Nat.le_of_ble_eq_true rfl, Nat.le_of_ble_eq_true rfl⟩ ⟨Nat.le_of_ble_eq_true rfl, Nat.le_of_ble_eq_true rfl⟩ dX6_cellsFor_13) ?_
      refine lv_iconst (v := (-1)) hx hb dX6_cellsFor_16 (by decide) ?_
      refine lv_icmp_ne (tgt := 27) hx hb dX6_cellsFor_17 (by decide) (fun hc => ?_) (fun hc => ?_)
      · rw [if_neg hc] at hf
        exact k_X6_cellsFor_27 E a0 r v1 v2 x hf hP _ (lv_sub hl [0, 1, 2] rfl)
      · rw [if_pos hc] at hf
        refine lv_iload_n hx hb dX6_cellsFor_20 rfl (lv_at hl 2 rfl) ?_
        refine lv_iconst (v := 2) hx hb dX6_cellsFor_21 (by decide) ?_
        refine lv_imul hx hb dX6_cellsFor_22 ?_
        refine lv_istore_n (lv' := [(2, .int (v2 * 2)), (0, .ref a0), (1, .int v1)]) hx hb dX6_cellsFor_23 rfl hl (by decide) rfl (fun ls hl => ?_)
        refine lv_goto (tgt := 4) hx hb dX6_cellsFor_24 (by decide) ?_
        exact ih v1 (v2 * 2) x hf hP _ (lv_sub hl [1, 2, 0] rfl)
set_option maxRecDepth 100000 in
set_option maxHeartbeats 4000000 in
theorem mt_X6_cellsFor (l : Launch) (D : va_G) (I J O : ClassId) (a0 : Nat) (p1 : Int32) (x : Fn) (r : Int32) (hf : f_X6_cellsFor p1 x = some r) : mR l yX6_cellsFor cX6_cellsFor 3 (some .int) 5 111 D I J O [.ref a0, .int p1] (wAr I a0 414 x) (qRi r) := by
  refine mR_open (own := RX6) rfl (by decide +kernel) (Nat.le_of_ble_eq_true rfl) (fun p e s m below meth c ls E hP hl => ?_)
  have hx := E.1
  have hb := E.2.1
  have hl : lv_has ls 3 [(0, .ref a0), (1, .int p1)] := hl
  unfold f_X6_cellsFor at hf
  refine lv_aload_n hx hb dX6_cellsFor_0 rfl (lv_at hl 0 rfl) ?_
  refine lv_iconst (v := 0) hx hb dX6_cellsFor_1 (by decide) ?_
  obtain ⟨g, hf⟩ := gi_s hf
  refine x_ald E hP 0 rfl g dX6_cellsFor_2 ?_
  refine lv_istore_n (lv' := [(2, .int (x (0 : Int32).toNatClampNeg)), (0, .ref a0), (1, .int p1)]) hx hb dX6_cellsFor_3 rfl hl (by decide) rfl (fun ls hl => ?_)
  exact k_X6_cellsFor_4 E a0 r FU p1 (x (0 : Int32).toNatClampNeg) x hf hP _ (lv_sub hl [1, 2, 0] rfl)
theorem ok_X6_leaves : yS yX6_leaves cX6_leaves 2 none 2 := ⟨q897, q7, q896, by decide +kernel, by decide +kernel, by decide +kernel⟩
set_option maxRecDepth 100000 in
set_option maxHeartbeats 4000000 in
theorem mt_X6_leaves (l : Launch) (D : va_G) (I J O : ClassId) (a0 : Nat) (sz : Nat) (p1 : Int32) (x : Fn) (y0 : Fn) (hf : f_X6_leaves p1 x = some y0) : mM l yX6_leaves cX6_leaves 2 none 0 0 0 0 D I J O sz [.ref a0, .int p1] (wAr I a0 414 x) (qMv D sz (wAr I a0 414 x) (fun _ : Unit => wAr I a0 414 y0)) := by
  refine mM_open (own := RX6) rfl (by decide +kernel) (Nat.le_of_ble_eq_true rfl) (fun p e s m below meth c ls E hnm hsz hw hl => ?_)
  obtain ⟨ws0, hws⟩ : ∃ ws0 : va_W, ws0 = wAr I a0 414 x := ⟨_, rfl⟩
  have hw : fy D (va_A ws0 sz) s.heap s.heap [] (wAr I a0 414 x) := by rw [hws]; exact hw
  rw [← hws]
  have hx := E.1
  have hb := E.2.1
  have hl : lv_has ls 2 [(0, .ref a0), (1, .int p1)] := hl
  unfold f_X6_leaves at hf
  refine lv_aload_n hx hb dX6_leaves_0 rfl (lv_at hl 0 rfl) ?_
  refine lv_bipush (v := 6) hx hb dX6_leaves_1 (by decide) ?_
  refine lv_iload_n hx hb dX6_leaves_3 rfl (lv_at hl 1 rfl) ?_
  refine lv_iadd hx hb dX6_leaves_4 ?_
  refine lv_aload_n hx hb dX6_leaves_5 rfl (lv_at hl 0 rfl) ?_
  refine lv_bipush (v := 6) hx hb dX6_leaves_6 (by decide) ?_
  refine lv_iload_n hx hb dX6_leaves_8 rfl (lv_at hl 1 rfl) ?_
  refine lv_iadd hx hb dX6_leaves_9 ?_
  obtain ⟨g, hf⟩ := gi_s hf
  refine x_ald E hw.1 0 rfl g dX6_leaves_10 ?_
  refine lv_iconst (v := 1) hx hb dX6_leaves_11 (by decide) ?_
  refine lv_iadd hx hb dX6_leaves_12 ?_
  refine lv_sipush (v := 1000) hx hb dX6_leaves_13 (by decide) ?_
  refine lv_irem hx hb dX6_leaves_16 (by decide) ?_
  obtain ⟨g, hf⟩ := gi_s hf
  refine x_ast E hw 0 rfl g dX6_leaves_17 (fun H locs hw => ?_)
  have hw : fy D (va_A ws0 sz) s.heap H locs (wAr I a0 414 (upd x (6 + p1).toNatClampNeg (((x (6 + p1).toNatClampNeg) + 1) - ((x (6 + p1).toNatClampNeg) + 1) / 1000 * 1000))) := hw
  have he0 := (Option.some.inj hf)
  subst he0
  exact x_vM E () hw dX6_leaves_18
theorem ok_X6_comes : yS yX6_comes cX6_comes 9 (some .int) 5 := ⟨q880, q7, q879, by decide +kernel, by decide +kernel, by decide +kernel⟩
set_option maxRecDepth 100000 in
set_option maxHeartbeats 4000000 in
theorem k_X6_comes_175 {p : Program} {l : Launch} {e : Env} {s : State} {m : MethodId} {args : Array Value} {below : List Frame} {meth : Method} {c : Code} {D : va_G} {I J O : ClassId} (E : fx p s m args meth c cX6_comes RX6 9 (some .int) D I J O) (a0 : Nat)  {ws0 : va_W} {sz : Nat} (r : Int32) (y0 : Fn) (k130 : Int32 → Int32 → Int32 → Fn → Option (Int32 × Fn)) (hk130 : ∀ (v1 : Int32) (v6 : Int32) (v8 : Int32) (x : Fn), k130 v1 v6 v8 x = some (r, y0) → ∀ (H : Heap) (locs : List Loc), fy D (va_A ws0 sz) s.heap H locs (wAr I a0 414 x) → ∀ ls : Array Slot, lv_has ls 9 [(0, .ref a0), (1, .int v1), (6, .int v6), (8, .int v8)] → W p l e (rmB 6 133 0 0) s m args below meth c H locs 0 0 (MQ below (qMi D sz ws0 r (fun _ : Unit => wAr I a0 414 y0)) args s 0 0 (va_A ws0 sz)) (F0 m 130 ls [])) : ∀ (v1 : Int32) (v6 : Int32) (v8 : Int32) (t1 : Int32) (t2 : Int32) (t3 : Int32) (x : Fn), f_X6_comes_175 k130 v1 v6 v8 t1 t2 t3 x = some (r, y0) → ∀ (H : Heap) (locs : List Loc), fy D (va_A ws0 sz) s.heap H locs (wAr I a0 414 x) → ∀ ls : Array Slot, lv_has ls 9 [(0, .ref a0), (1, .int v1), (6, .int v6), (8, .int v8)] → W p l e (rmB 6 133 0 0) s m args below meth c H locs 0 0 (MQ below (qMi D sz ws0 r (fun _ : Unit => wAr I a0 414 y0)) args s 0 0 (va_A ws0 sz)) (F0 m 175 ls [.int t3, .int t2, .int t1, .ref a0]) := by
  have hx := E.1
  have hb := E.2.1
  intro v1 v6 v8 t1 t2 t3 x hf H locs hw ls hl
  unfold f_X6_comes_175 at hf
  refine lv_iadd hx hb dX6_comes_175 ?_
  obtain ⟨g, hf⟩ := gi_s hf
  refine x_ast E hw 0 rfl g dX6_comes_176 (fun H locs hw => ?_)
  have hw : fy D (va_A ws0 sz) s.heap H locs (wAr I a0 414 (upd x t1.toNatClampNeg (t2 + t3))) := hw
  refine lv_iinc (v := v8 + 1) (lv' := [(8, .int (v8 + 1)), (0, .ref a0), (1, .int v1), (6, .int v6)]) hx hb dX6_comes_177 hl (k := 3) rfl rfl (by decide) rfl (fun ls hl => ?_)
  refine lv_goto (tgt := 130) hx hb dX6_comes_180 (by decide) ?_
  exact hk130 v1 v6 (v8 + 1) (upd x t1.toNatClampNeg (t2 + t3)) hf _ _ hw _ (lv_sub hl [1, 2, 3, 0] rfl)
set_option maxRecDepth 100000 in
set_option maxHeartbeats 4000000 in
theorem k_X6_comes_174 {p : Program} {l : Launch} {e : Env} {s : State} {m : MethodId} {args : Array Value} {below : List Frame} {meth : Method} {c : Code} {D : va_G} {I J O : ClassId} (E : fx p s m args meth c cX6_comes RX6 9 (some .int) D I J O) (a0 : Nat)  {ws0 : va_W} {sz : Nat} (r : Int32) (y0 : Fn) (k130 : Int32 → Int32 → Int32 → Fn → Option (Int32 × Fn)) (hk130 : ∀ (v1 : Int32) (v6 : Int32) (v8 : Int32) (x : Fn), k130 v1 v6 v8 x = some (r, y0) → ∀ (H : Heap) (locs : List Loc), fy D (va_A ws0 sz) s.heap H locs (wAr I a0 414 x) → ∀ ls : Array Slot, lv_has ls 9 [(0, .ref a0), (1, .int v1), (6, .int v6), (8, .int v8)] → W p l e (rmB 6 133 0 0) s m args below meth c H locs 0 0 (MQ below (qMi D sz ws0 r (fun _ : Unit => wAr I a0 414 y0)) args s 0 0 (va_A ws0 sz)) (F0 m 130 ls [])) : ∀ (v1 : Int32) (v6 : Int32) (v8 : Int32) (t1 : Int32) (t2 : Int32) (x : Fn), f_X6_comes_174 k130 v1 v6 v8 t1 t2 x = some (r, y0) → ∀ (H : Heap) (locs : List Loc), fy D (va_A ws0 sz) s.heap H locs (wAr I a0 414 x) → ∀ ls : Array Slot, lv_has ls 9 [(0, .ref a0), (1, .int v1), (6, .int v6), (8, .int v8)] → W p l e (rmB 6 133 0 0) s m args below meth c H locs 0 0 (MQ below (qMi D sz ws0 r (fun _ : Unit => wAr I a0 414 y0)) args s 0 0 (va_A ws0 sz)) (F0 m 174 ls [.int t2, .int t1, .ref a0]) := by
  have hx := E.1
  have hb := E.2.1
  intro v1 v6 v8 t1 t2 x hf H locs hw ls hl
  unfold f_X6_comes_174 at hf
  refine lv_iconst (v := 0) hx hb dX6_comes_174 (by decide) ?_
  exact k_X6_comes_175 E a0 r y0 k130 hk130 v1 v6 v8 t1 t2 0 x hf _ _ hw _ (lv_sub hl [0, 1, 2, 3] rfl)
set_option maxRecDepth 100000 in
set_option maxHeartbeats 4000000 in
theorem k_X6_comes_130 {p : Program} {l : Launch} {e : Env} {s : State} {m : MethodId} {args : Array Value} {below : List Frame} {meth : Method} {c : Code} {D : va_G} {I J O : ClassId} (E : fx p s m args meth c cX6_comes RX6 9 (some .int) D I J O) (a0 : Nat)  {ws0 : va_W} {sz : Nat} (r : Int32) (y0 : Fn) : ∀ fu : Nat, ∀ (v1 : Int32) (v6 : Int32) (v8 : Int32) (x : Fn), f_X6_comes_130 fu v1 v6 v8 x = some (r, y0) → ∀ (H : Heap) (locs : List Loc), fy D (va_A ws0 sz) s.heap H locs (wAr I a0 414 x) → ∀ ls : Array Slot, lv_has ls 9 [(0, .ref a0), (1, .int v1), (6, .int v6), (8, .int v8)] → W p l e (rmB 6 133 0 0) s m args below meth c H locs 0 0 (MQ below (qMi D sz ws0 r (fun _ : Unit => wAr I a0 414 y0)) args s 0 0 (va_A ws0 sz)) (F0 m 130 ls []) := by
  have hx := E.1
  have hb := E.2.1
  intro fu
  induction fu with
  | zero =>
    intro v1 v6 v8 x hf H locs hw ls hl
    rw [f_X6_comes_130.eq_1] at hf
    cases hf
  | succ fu ih =>
    intro v1 v6 v8 x hf H locs hw ls hl
    rw [f_X6_comes_130.eq_2] at hf
    refine lv_iload hx hb dX6_comes_130 (lv_at hl 3 rfl) ?_
    refine lv_iconst (v := 4) hx hb dX6_comes_132 (by decide) ?_
    refine lv_icmp_ge (tgt := 183) hx hb dX6_comes_133 (by decide) (fun hc => ?_) (fun hc => ?_)
    · rw [if_pos hc] at hf
      refine lv_iload hx hb dX6_comes_183 (lv_at hl 2 rfl) ?_
      obtain ⟨he0, hr⟩ := Prod.mk.inj (Option.some.inj hf)
      have he1 := hr
      subst he1
      exact x_iM E () hw he0 dX6_comes_185
    · rw [if_neg hc] at hf
      refine lv_aload_n hx hb dX6_comes_136 rfl (lv_at hl 0 rfl) ?_
      refine lv_sipush (v := 410) hx hb dX6_comes_137 (by decide) ?_
      refine lv_iload hx hb dX6_comes_140 (lv_at hl 3 rfl) ?_
      refine lv_iadd hx hb dX6_comes_142 ?_
      refine lv_dup2_11 hx hb dX6_comes_143 rfl rfl ?_
      obtain ⟨g, hf⟩ := gi_s hf
      refine x_ald E hw.1 0 rfl g dX6_comes_144 ?_
      refine lv_aload_n hx hb dX6_comes_145 rfl (lv_at hl 0 rfl) ?_
      refine lv_sipush (v := 410) hx hb dX6_comes_146 (by decide) ?_
      refine lv_iload hx hb dX6_comes_149 (lv_at hl 3 rfl) ?_
      refine lv_iadd hx hb dX6_comes_151 ?_
      obtain ⟨g, hf⟩ := gi_s hf
      refine x_ald E hw.1 0 rfl g dX6_comes_152 ?_
      refine lv_iload_n hx hb dX6_comes_153 rfl (lv_at hl 1 rfl) ?_
      refine lv_icmp_lt (tgt := 174) hx hb dX6_comes_154 (by decide) (fun hc => ?_) (fun hc => ?_)
      · rw [if_pos hc] at hf
        exact k_X6_comes_174 E a0 r y0 (f_X6_comes_130 fu) ih v1 v6 v8 (410 + v8) (x (410 + v8).toNatClampNeg) x hf _ _ hw _ (lv_sub hl [0, 1, 2, 3] rfl)
      · rw [if_neg hc] at hf
        refine lv_aload_n hx hb dX6_comes_157 rfl (lv_at hl 0 rfl) ?_
        refine lv_sipush (v := 410) hx hb dX6_comes_158 (by decide) ?_
        refine lv_iload hx hb dX6_comes_161 (lv_at hl 3 rfl) ?_
        refine lv_iadd hx hb dX6_comes_163 ?_
        obtain ⟨g, hf⟩ := gi_s hf
        refine x_ald E hw.1 0 rfl g dX6_comes_164 ?_
        refine lv_bipush (v := 99) hx hb dX6_comes_165 (by decide) ?_
        refine lv_icmp_eq (tgt := 174) hx hb dX6_comes_167 (by decide) (fun hc => ?_) (fun hc => ?_)
        · rw [if_pos hc] at hf
          exact k_X6_comes_174 E a0 r y0 (f_X6_comes_130 fu) ih v1 v6 v8 (410 + v8) (x (410 + v8).toNatClampNeg) x hf _ _ hw _ (lv_sub hl [0, 1, 2, 3] rfl)
        · rw [if_neg hc] at hf
          refine lv_iconst (v := 1) hx hb dX6_comes_170 (by decide) ?_
          refine lv_goto (tgt := 175) hx hb dX6_comes_171 (by decide) ?_
          exact k_X6_comes_175 E a0 r y0 (f_X6_comes_130 fu) ih v1 v6 v8 (410 + v8) (x (410 + v8).toNatClampNeg) 1 x hf _ _ hw _ (lv_sub hl [0, 1, 2, 3] rfl)
set_option maxRecDepth 100000 in
set_option maxHeartbeats 4000000 in
theorem k_X6_comes_38 {p : Program} {l : Launch} {e : Env} {s : State} {m : MethodId} {args : Array Value} {below : List Frame} {meth : Method} {c : Code} {D : va_G} {I J O : ClassId} (E : fx p s m args meth c cX6_comes RX6 9 (some .int) D I J O) (a0 : Nat)  {ws0 : va_W} {sz : Nat} (r : Int32) (y0 : Fn) : ∀ fu : Nat, ∀ (v1 : Int32) (v2 : Int32) (v3 : Int32) (v4 : Int32) (v6 : Int32) (v7 : Int32) (x : Fn), f_X6_comes_38 fu v1 v2 v3 v4 v6 v7 x = some (r, y0) → ∀ (H : Heap) (locs : List Loc), fy D (va_A ws0 sz) s.heap H locs (wAr I a0 414 x) → ∀ ls : Array Slot, lv_has ls 9 [(0, .ref a0), (1, .int v1), (2, .int v2), (3, .int v3), (4, .int v4), (6, .int v6), (7, .int v7)] → W p l e (rmB 6 133 0 0) s m args below meth c H locs 0 0 (MQ below (qMi D sz ws0 r (fun _ : Unit => wAr I a0 414 y0)) args s 0 0 (va_A ws0 sz)) (F0 m 38 ls []) := by
  have hx := E.1
  have hb := E.2.1
  intro fu
  induction fu with
  | zero =>
    intro v1 v2 v3 v4 v6 v7 x hf H locs hw ls hl
    rw [f_X6_comes_38.eq_1] at hf
    cases hf
  | succ fu ih =>
    intro v1 v2 v3 v4 v6 v7 x hf H locs hw ls hl
    rw [f_X6_comes_38.eq_2] at hf
    refine lv_iload hx hb dX6_comes_38 (lv_at hl 6 rfl) ?_
    refine lv_iconst (v := 5) hx hb dX6_comes_40 (by decide) ?_
    refine lv_iload_n hx hb dX6_comes_41 rfl (lv_at hl 1 rfl) ?_
    refine lv_imul hx hb dX6_comes_42 ?_
    refine lv_icmp_lt (tgt := 68) hx hb dX6_comes_43 (by decide) (fun hc => ?_) (fun hc => ?_)
    · rw [if_pos hc] at hf
      refine lv_bipush (v := 70) hx hb dX6_comes_68 (by decide) ?_
      refine lv_iconst (v := 5) hx hb dX6_comes_70 (by decide) ?_
      refine lv_iload_n hx hb dX6_comes_71 rfl (lv_at hl 1 rfl) ?_
      refine lv_imul hx hb dX6_comes_72 ?_
      refine lv_iadd hx hb dX6_comes_73 ?_
      refine lv_istore (lv' := [(7, .int (70 + (5 * v1))), (0, .ref a0), (1, .int v1), (2, .int v2), (3, .int v3), (4, .int v4), (6, .int v6)]) hx hb dX6_comes_74 hl (by decide) rfl (fun ls hl => ?_)
      refine lv_aload_n hx hb dX6_comes_76 rfl (lv_at hl 1 rfl) ?_
      refine lv_iload hx hb dX6_comes_77 (lv_at hl 0 rfl) ?_
      refine lv_iconst (v := 0) hx hb dX6_comes_79 (by decide) ?_
      refine lv_iadd hx hb dX6_comes_80 ?_
      refine lv_iload hx hb dX6_comes_81 (lv_at hl 6 rfl) ?_
      obtain ⟨g, hf⟩ := gi_s hf
      refine x_ast E hw 0 rfl g dX6_comes_83 (fun H locs hw => ?_)
      have hw : fy D (va_A ws0 sz) s.heap H locs (wAr I a0 414 (upd x ((70 + (5 * v1)) + 0).toNatClampNeg v6)) := hw
      refine lv_aload_n hx hb dX6_comes_84 rfl (lv_at hl 1 rfl) ?_
      refine lv_iload hx hb dX6_comes_85 (lv_at hl 0 rfl) ?_
      refine lv_iconst (v := 1) hx hb dX6_comes_87 (by decide) ?_
      refine lv_iadd hx hb dX6_comes_88 ?_
      refine lv_iload_n hx hb dX6_comes_89 rfl (lv_at hl 4 rfl) ?_
      obtain ⟨g, hf⟩ := gi_s hf
      refine x_ast E hw 0 rfl g dX6_comes_90 (fun H locs hw => ?_)
      have hw : fy D (va_A ws0 sz) s.heap H locs (wAr I a0 414 (upd (upd x ((70 + (5 * v1)) + 0).toNatClampNeg v6) ((70 + (5 * v1)) + 1).toNatClampNeg v3)) := hw
      refine lv_aload_n hx hb dX6_comes_91 rfl (lv_at hl 1 rfl) ?_
      refine lv_iload hx hb dX6_comes_92 (lv_at hl 0 rfl) ?_
      refine lv_iconst (v := 2) hx hb dX6_comes_94 (by decide) ?_
      refine lv_iadd hx hb dX6_comes_95 ?_
      refine lv_iload_n hx hb dX6_comes_96 rfl (lv_at hl 3 rfl) ?_
      obtain ⟨g, hf⟩ := gi_s hf
      refine x_ast E hw 0 rfl g dX6_comes_97 (fun H locs hw => ?_)
      have hw : fy D (va_A ws0 sz) s.heap H locs (wAr I a0 414 (upd (upd (upd x ((70 + (5 * v1)) + 0).toNatClampNeg v6) ((70 + (5 * v1)) + 1).toNatClampNeg v3) ((70 + (5 * v1)) + 2).toNatClampNeg v2)) := hw
      refine lv_aload_n hx hb dX6_comes_98 rfl (lv_at hl 1 rfl) ?_
      refine lv_iload hx hb dX6_comes_99 (lv_at hl 0 rfl) ?_
      refine lv_iconst (v := 3) hx hb dX6_comes_101 (by decide) ?_
      refine lv_iadd hx hb dX6_comes_102 ?_
      refine lv_iload hx hb dX6_comes_103 (lv_at hl 5 rfl) ?_
      obtain ⟨g, hf⟩ := gi_s hf
      refine x_ast E hw 0 rfl g dX6_comes_105 (fun H locs hw => ?_)
      have hw : fy D (va_A ws0 sz) s.heap H locs (wAr I a0 414 (upd (upd (upd (upd x ((70 + (5 * v1)) + 0).toNatClampNeg v6) ((70 + (5 * v1)) + 1).toNatClampNeg v3) ((70 + (5 * v1)) + 2).toNatClampNeg v2) ((70 + (5 * v1)) + 3).toNatClampNeg v4)) := hw
      refine lv_aload_n hx hb dX6_comes_106 rfl (lv_at hl 1 rfl) ?_
      refine lv_iload hx hb dX6_comes_107 (lv_at hl 0 rfl) ?_
      refine lv_iconst (v := 4) hx hb dX6_comes_109 (by decide) ?_
      refine lv_iadd hx hb dX6_comes_110 ?_
      refine lv_iconst (v := 0) hx hb dX6_comes_111 (by decide) ?_
      obtain ⟨g, hf⟩ := gi_s hf
      refine x_ast E hw 0 rfl g dX6_comes_112 (fun H locs hw => ?_)
      have hw : fy D (va_A ws0 sz) s.heap H locs (wAr I a0 414 (upd (upd (upd (upd (upd x ((70 + (5 * v1)) + 0).toNatClampNeg v6) ((70 + (5 * v1)) + 1).toNatClampNeg v3) ((70 + (5 * v1)) + 2).toNatClampNeg v2) ((70 + (5 * v1)) + 3).toNatClampNeg v4) ((70 + (5 * v1)) + 4).toNatClampNeg 0)) := hw
      refine lv_aload_n hx hb dX6_comes_113 rfl (lv_at hl 1 rfl) ?_
      refine lv_iconst (v := 1) hx hb dX6_comes_114 (by decide) ?_
      refine lv_dup2_11 hx hb dX6_comes_115 rfl rfl ?_
      obtain ⟨g, hf⟩ := gi_s hf
      refine x_ald E hw.1 0 rfl g dX6_comes_116 ?_
      refine lv_iconst (v := 1) hx hb dX6_comes_117 (by decide) ?_
      refine lv_iadd hx hb dX6_comes_118 ?_
      obtain ⟨g, hf⟩ := gi_s hf
      refine x_ast E hw 0 rfl g dX6_comes_119 (fun H locs hw => ?_)
      have hw : fy D (va_A ws0 sz) s.heap H locs (wAr I a0 414 (upd (upd (upd (upd (upd (upd x ((70 + (5 * v1)) + 0).toNatClampNeg v6) ((70 + (5 * v1)) + 1).toNatClampNeg v3) ((70 + (5 * v1)) + 2).toNatClampNeg v2) ((70 + (5 * v1)) + 3).toNatClampNeg v4) ((70 + (5 * v1)) + 4).toNatClampNeg 0) (1 : Int32).toNatClampNeg (((upd (upd (upd (upd (upd x ((70 + (5 * v1)) + 0).toNatClampNeg v6) ((70 + (5 * v1)) + 1).toNatClampNeg v3) ((70 + (5 * v1)) + 2).toNatClampNeg v2) ((70 + (5 * v1)) + 3).toNatClampNeg v4) ((70 + (5 * v1)) + 4).toNatClampNeg 0) (1 : Int32).toNatClampNeg) + 1))) := hw
      refine lv_aload_n hx hb dX6_comes_120 rfl (lv_at hl 1 rfl) ?_
      refine lv_iconst (v := 3) hx hb dX6_comes_121 (by decide) ?_
      refine lv_dup2_11 hx hb dX6_comes_122 rfl rfl ?_
      obtain ⟨g, hf⟩ := gi_s hf
      refine x_ald E hw.1 0 rfl g dX6_comes_123 ?_
      refine lv_iconst (v := 1) hx hb dX6_comes_124 (by decide) ?_
      refine lv_iadd hx hb dX6_comes_125 ?_
      obtain ⟨g, hf⟩ := gi_s hf
      refine x_ast E hw 0 rfl g dX6_comes_126 (fun H locs hw => ?_)
      have hw : fy D (va_A ws0 sz) s.heap H locs (wAr I a0 414 (upd (upd (upd (upd (upd (upd (upd x ((70 + (5 * v1)) + 0).toNatClampNeg v6) ((70 + (5 * v1)) + 1).toNatClampNeg v3) ((70 + (5 * v1)) + 2).toNatClampNeg v2) ((70 + (5 * v1)) + 3).toNatClampNeg v4) ((70 + (5 * v1)) + 4).toNatClampNeg 0) (1 : Int32).toNatClampNeg (((upd (upd (upd (upd (upd x ((70 + (5 * v1)) + 0).toNatClampNeg v6) ((70 + (5 * v1)) + 1).toNatClampNeg v3) ((70 + (5 * v1)) + 2).toNatClampNeg v2) ((70 + (5 * v1)) + 3).toNatClampNeg v4) ((70 + (5 * v1)) + 4).toNatClampNeg 0) (1 : Int32).toNatClampNeg) + 1)) (3 : Int32).toNatClampNeg (((upd (upd (upd (upd (upd (upd x ((70 + (5 * v1)) + 0).toNatClampNeg v6) ((70 + (5 * v1)) + 1).toNatClampNeg v3) ((70 + (5 * v1)) + 2).toNatClampNeg v2) ((70 + (5 * v1)) + 3).toNatClampNeg v4) ((70 + (5 * v1)) + 4).toNatClampNeg 0) (1 : Int32).toNatClampNeg (((upd (upd (upd (upd (upd x ((70 + (5 * v1)) + 0).toNatClampNeg v6) ((70 + (5 * v1)) + 1).toNatClampNeg v3) ((70 + (5 * v1)) + 2).toNatClampNeg v2) ((70 + (5 * v1)) + 3).toNatClampNeg v4) ((70 + (5 * v1)) + 4).toNatClampNeg 0) (1 : Int32).toNatClampNeg) + 1)) (3 : Int32).toNatClampNeg) + 1))) := hw
      refine lv_iconst (v := 0) hx hb dX6_comes_127 (by decide) ?_
      refine lv_istore (lv' := [(8, .int 0), (7, .int (70 + (5 * v1))), (0, .ref a0), (1, .int v1), (2, .int v2), (3, .int v3), (4, .int v4), (6, .int v6)]) hx hb dX6_comes_128 hl (by decide) rfl (fun ls hl => ?_)
      exact k_X6_comes_130 E a0 r y0 FU v1 v6 0 (upd (upd (upd (upd (upd (upd (upd x ((70 + (5 * v1)) + 0).toNatClampNeg v6) ((70 + (5 * v1)) + 1).toNatClampNeg v3) ((70 + (5 * v1)) + 2).toNatClampNeg v2) ((70 + (5 * v1)) + 3).toNatClampNeg v4) ((70 + (5 * v1)) + 4).toNatClampNeg 0) (1 : Int32).toNatClampNeg (((upd (upd (upd (upd (upd x ((70 + (5 * v1)) + 0).toNatClampNeg v6) ((70 + (5 * v1)) + 1).toNatClampNeg v3) ((70 + (5 * v1)) + 2).toNatClampNeg v2) ((70 + (5 * v1)) + 3).toNatClampNeg v4) ((70 + (5 * v1)) + 4).toNatClampNeg 0) (1 : Int32).toNatClampNeg) + 1)) (3 : Int32).toNatClampNeg (((upd (upd (upd (upd (upd (upd x ((70 + (5 * v1)) + 0).toNatClampNeg v6) ((70 + (5 * v1)) + 1).toNatClampNeg v3) ((70 + (5 * v1)) + 2).toNatClampNeg v2) ((70 + (5 * v1)) + 3).toNatClampNeg v4) ((70 + (5 * v1)) + 4).toNatClampNeg 0) (1 : Int32).toNatClampNeg (((upd (upd (upd (upd (upd x ((70 + (5 * v1)) + 0).toNatClampNeg v6) ((70 + (5 * v1)) + 1).toNatClampNeg v3) ((70 + (5 * v1)) + 2).toNatClampNeg v2) ((70 + (5 * v1)) + 3).toNatClampNeg v4) ((70 + (5 * v1)) + 4).toNatClampNeg 0) (1 : Int32).toNatClampNeg) + 1)) (3 : Int32).toNatClampNeg) + 1)) hf _ _ hw _ (lv_sub hl [2, 3, 7, 0] rfl)
    · rw [if_neg hc] at hf
      refine lv_aload_n hx hb dX6_comes_46 rfl (lv_at hl 0 rfl) ?_
      refine lv_bipush (v := 70) hx hb dX6_comes_47 (by decide) ?_
      refine lv_iload hx hb dX6_comes_49 (lv_at hl 6 rfl) ?_
      refine lv_iadd hx hb dX6_comes_51 ?_
      refine lv_iconst (v := 5) hx hb dX6_comes_52 (by decide) ?_
      refine lv_iadd hx hb dX6_comes_53 ?_
      refine lv_aload_n hx hb dX6_comes_54 rfl (lv_at hl 0 rfl) ?_
      refine lv_bipush (v := 70) hx hb dX6_comes_55 (by decide) ?_
      refine lv_iload hx hb dX6_comes_57 (lv_at hl 6 rfl) ?_
      refine lv_iadd hx hb dX6_comes_59 ?_
      obtain ⟨g, hf⟩ := gi_s hf
      refine x_ald E hw.1 0 rfl g dX6_comes_60 ?_
      obtain ⟨g, hf⟩ := gi_s hf
      refine x_ast E hw 0 rfl g dX6_comes_61 (fun H locs hw => ?_)
      have hw : fy D (va_A ws0 sz) s.heap H locs (wAr I a0 414 (upd x ((70 + v7) + 5).toNatClampNeg (x (70 + v7).toNatClampNeg))) := hw
      refine lv_iinc (v := v7 + (-1)) (lv' := [(7, .int (v7 + (-1))), (0, .ref a0), (1, .int v1), (2, .int v2), (3, .int v3), (4, .int v4), (6, .int v6)]) hx hb dX6_comes_62 hl (k := 6) rfl rfl (by decide) rfl (fun ls hl => ?_)
      refine lv_goto (tgt := 38) hx hb dX6_comes_65 (by decide) ?_
      exact ih v1 v2 v3 v4 v6 (v7 + (-1)) (upd x ((70 + v7) + 5).toNatClampNeg (x (70 + v7).toNatClampNeg)) hf _ _ hw _ (lv_sub hl [1, 2, 3, 4, 5, 6, 0] rfl)
set_option maxRecDepth 100000 in
set_option maxHeartbeats 4000000 in
theorem mt_X6_comes (l : Launch) (D : va_G) (I J O : ClassId) (a0 : Nat) (sz : Nat) (p1 : Int32) (p2 : Int32) (p3 : Int32) (p4 : Int32) (x : Fn) (r : Int32) (y0 : Fn) (hf : f_X6_comes p1 p2 p3 p4 x = some (r, y0)) : mM l yX6_comes cX6_comes 9 (some .int) 6 133 0 0 D I J O sz [.ref a0, .int p1, .int p2, .int p3, .int p4] (wAr I a0 414 x) (qMi D sz (wAr I a0 414 x) r (fun _ : Unit => wAr I a0 414 y0)) := by
  refine mM_open (own := RX6) rfl (by decide +kernel) (Nat.le_of_ble_eq_true rfl) (fun p e s m below meth c ls E hnm hsz hw hl => ?_)
  obtain ⟨ws0, hws⟩ : ∃ ws0 : va_W, ws0 = wAr I a0 414 x := ⟨_, rfl⟩
  have hw : fy D (va_A ws0 sz) s.heap s.heap [] (wAr I a0 414 x) := by rw [hws]; exact hw
  rw [← hws]
  have hx := E.1
  have hb := E.2.1
  have hl : lv_has ls 9 [(0, .ref a0), (1, .int p1), (2, .int p2), (3, .int p3), (4, .int p4)] := hl
  unfold f_X6_comes at hf
  refine lv_aload_n hx hb dX6_comes_0 rfl (lv_at hl 0 rfl) ?_
  refine lv_iload_n hx hb dX6_comes_1 rfl (lv_at hl 3 rfl) ?_
  obtain ⟨z1, h, hf⟩ := bd_s hf
  refine x_ci (x_rS E (As := [.ref a0, .int p3]) (rest := []) (mt_X6_cellsFor l D I J O a0 p3 x z1 h) blR (x_pcR E hw.1) ok_X6_cellsFor q849 rfl hl.1 rfl (Nat.le_of_ble_eq_true rfl) ⟨Nat.le_of_ble_eq_true rfl, Nat.le_of_ble_eq_true rfl⟩ ⟨Nat.le_of_ble_eq_true rfl, Nat.le_of_ble_eq_true rfl⟩ dX6_comes_2) ?_
  refine lv_istore (lv' := [(5, .int z1), (0, .ref a0), (1, .int p1), (2, .int p2), (3, .int p3), (4, .int p4)]) hx hb dX6_comes_5 hl (by decide) rfl (fun ls hl => ?_)
  refine lv_iload hx hb dX6_comes_7 (lv_at hl 0 rfl) ?_
  refine lv_iconst (v := (-1)) hx hb dX6_comes_9 (by decide) ?_
  refine lv_icmp_ne (tgt := 15) hx hb dX6_comes_10 (by decide) (fun hc => ?_) (fun hc => ?_)
  · rw [if_neg hc] at hf
    refine lv_aload_n hx hb dX6_comes_15 rfl (lv_at hl 1 rfl) ?_
    refine lv_iload_n hx hb dX6_comes_16 rfl (lv_at hl 4 rfl) ?_
    refine lv_iload hx hb dX6_comes_17 (lv_at hl 0 rfl) ?_
    obtain ⟨z2, h, hf⟩ := bd_s hf
    refine x_ci (x_rS E (As := [.ref a0, .int p3, .int z1]) (rest := []) (mt_X6_roomIn l D I J O a0 p3 z1 x z2 h) blR (x_pcR E hw.1) ok_X6_roomIn q852 rfl hl.1 rfl (Nat.le_of_ble_eq_true rfl) ⟨Nat.le_of_ble_eq_true rfl, Nat.le_of_ble_eq_true rfl⟩ ⟨Nat.le_of_ble_eq_true rfl, Nat.le_of_ble_eq_true rfl⟩ dX6_comes_19) ?_
    refine lv_istore (lv' := [(6, .int z2), (5, .int z1), (0, .ref a0), (1, .int p1), (2, .int p2), (3, .int p3), (4, .int p4)]) hx hb dX6_comes_22 hl (by decide) rfl (fun ls hl => ?_)
    refine lv_aload_n hx hb dX6_comes_24 rfl (lv_at hl 2 rfl) ?_
    refine lv_iconst (v := 0) hx hb dX6_comes_25 (by decide) ?_
    refine lv_iload hx hb dX6_comes_26 (lv_at hl 1 rfl) ?_
    obtain ⟨g, hf⟩ := gi_s hf
    refine x_ast E hw 0 rfl g dX6_comes_28 (fun H locs hw => ?_)
    have hw : fy D (va_A ws0 sz) s.heap H locs (wAr I a0 414 (upd x (0 : Int32).toNatClampNeg z1)) := hw
    refine lv_iconst (v := 5) hx hb dX6_comes_29 (by decide) ?_
    refine lv_aload_n hx hb dX6_comes_30 rfl (lv_at hl 2 rfl) ?_
    refine lv_iconst (v := 1) hx hb dX6_comes_31 (by decide) ?_
    obtain ⟨g, hf⟩ := gi_s hf
    refine x_ald E hw.1 0 rfl g dX6_comes_32 ?_
    refine lv_imul hx hb dX6_comes_33 ?_
    refine lv_iconst (v := 1) hx hb dX6_comes_34 (by decide) ?_
    refine lv_isub hx hb dX6_comes_35 ?_
    refine lv_istore (lv' := [(7, .int ((5 * ((upd x (0 : Int32).toNatClampNeg z1) (1 : Int32).toNatClampNeg)) - 1)), (6, .int z2), (5, .int z1), (0, .ref a0), (1, .int p1), (2, .int p2), (3, .int p3), (4, .int p4)]) hx hb dX6_comes_36 hl (by decide) rfl (fun ls hl => ?_)
    exact k_X6_comes_38 E a0 r y0 FU p1 p2 p3 p4 z2 ((5 * ((upd x (0 : Int32).toNatClampNeg z1) (1 : Int32).toNatClampNeg)) - 1) (upd x (0 : Int32).toNatClampNeg z1) hf _ _ hw _ (lv_sub hl [3, 4, 5, 6, 7, 1, 0] rfl)
  · rw [if_pos hc] at hf
    refine lv_iconst (v := (-1)) hx hb dX6_comes_13 (by decide) ?_
    obtain ⟨he0, hr⟩ := Prod.mk.inj (Option.some.inj hf)
    have he1 := hr
    subst he1
    exact x_iM E () hw he0 dX6_comes_14
theorem ok_X6_standing : yS yX6_standing cX6_standing 4 (some .int) 2 := ⟨q900, q7, q899, by decide +kernel, by decide +kernel, by decide +kernel⟩
set_option maxRecDepth 100000 in
set_option maxHeartbeats 4000000 in
theorem k_X6_standing_26 {p : Program} {l : Launch} {e : Env} {s : State} {m : MethodId} {args : Array Value} {below : List Frame} {meth : Method} {c : Code} {D : va_G} {I J O : ClassId} (E : fx p s m args meth c cX6_standing RX6 4 (some .int) D I J O) (a0 : Nat)  (r : Int32) (k4 : Int32 → Int32 → Int32 → Fn → Option (Int32)) (hk4 : ∀ (v1 : Int32) (v2 : Int32) (v3 : Int32) (x : Fn), k4 v1 v2 v3 x = some r → va_P D vwCl (wAr I a0 414 x) s.heap → ∀ ls : Array Slot, lv_has ls 4 [(0, .ref a0), (1, .int v1), (2, .int v2), (3, .int v3)] → W p l e (rmB 0 0 0 0) s m args below meth c s.heap [] 0 0 (MQ below (qRi r) args s 0 0 (fun _ => False)) (F0 m 4 ls [])) : ∀ (v1 : Int32) (v3 : Int32) (t0 : Int32) (t1 : Int32) (x : Fn), f_X6_standing_26 k4 v1 v3 t0 t1 x = some r → va_P D vwCl (wAr I a0 414 x) s.heap → ∀ ls : Array Slot, lv_has ls 4 [(0, .ref a0), (1, .int v1), (3, .int v3)] → W p l e (rmB 0 0 0 0) s m args below meth c s.heap [] 0 0 (MQ below (qRi r) args s 0 0 (fun _ => False)) (F0 m 26 ls [.int t1, .int t0]) := by
  have hx := E.1
  have hb := E.2.1
  intro v1 v3 t0 t1 x hf hP ls hl
  unfold f_X6_standing_26 at hf
  refine lv_iadd hx hb dX6_standing_26 ?_
  refine lv_istore_n (lv' := [(2, .int (t0 + t1)), (0, .ref a0), (1, .int v1), (3, .int v3)]) hx hb dX6_standing_27 rfl hl (by decide) rfl (fun ls hl => ?_)
  refine lv_iinc (v := v3 + 1) (lv' := [(3, .int (v3 + 1)), (2, .int (t0 + t1)), (0, .ref a0), (1, .int v1)]) hx hb dX6_standing_28 hl (k := 3) rfl rfl (by decide) rfl (fun ls hl => ?_)
  refine lv_goto (tgt := 4) hx hb dX6_standing_31 (by decide) ?_
  exact hk4 v1 (t0 + t1) (v3 + 1) x hf hP _ (lv_sub hl [2, 3, 1, 0] rfl)
set_option maxRecDepth 100000 in
set_option maxHeartbeats 4000000 in
theorem k_X6_standing_4 {p : Program} {l : Launch} {e : Env} {s : State} {m : MethodId} {args : Array Value} {below : List Frame} {meth : Method} {c : Code} {D : va_G} {I J O : ClassId} (E : fx p s m args meth c cX6_standing RX6 4 (some .int) D I J O) (a0 : Nat)  (r : Int32) : ∀ fu : Nat, ∀ (v1 : Int32) (v2 : Int32) (v3 : Int32) (x : Fn), f_X6_standing_4 fu v1 v2 v3 x = some r → va_P D vwCl (wAr I a0 414 x) s.heap → ∀ ls : Array Slot, lv_has ls 4 [(0, .ref a0), (1, .int v1), (2, .int v2), (3, .int v3)] → W p l e (rmB 0 0 0 0) s m args below meth c s.heap [] 0 0 (MQ below (qRi r) args s 0 0 (fun _ => False)) (F0 m 4 ls []) := by
  have hx := E.1
  have hb := E.2.1
  intro fu
  induction fu with
  | zero =>
    intro v1 v2 v3 x hf hP ls hl
    rw [f_X6_standing_4.eq_1] at hf
    cases hf
  | succ fu ih =>
    intro v1 v2 v3 x hf hP ls hl
    rw [f_X6_standing_4.eq_2] at hf
    refine lv_iload_n hx hb dX6_standing_4 rfl (lv_at hl 3 rfl) ?_
    refine lv_iconst (v := 4) hx hb dX6_standing_5 (by decide) ?_
    refine lv_icmp_ge (tgt := 34) hx hb dX6_standing_6 (by decide) (fun hc => ?_) (fun hc => ?_)
    · rw [if_pos hc] at hf
      refine lv_iload_n hx hb dX6_standing_34 rfl (lv_at hl 2 rfl) ?_
      exact x_iR E (Option.some.inj hf) dX6_standing_35
    · rw [if_neg hc] at hf
      refine lv_iload_n hx hb dX6_standing_9 rfl (lv_at hl 2 rfl) ?_
      refine lv_aload_n hx hb dX6_standing_10 rfl (lv_at hl 0 rfl) ?_
      refine lv_sipush (v := 410) hx hb dX6_standing_11 (by decide) ?_
      refine lv_iload_n hx hb dX6_standing_14 rfl (lv_at hl 3 rfl) ?_
      refine lv_iadd hx hb dX6_standing_15 ?_
      obtain ⟨g, hf⟩ := gi_s hf
      refine x_ald E hP 0 rfl g dX6_standing_16 ?_
      refine lv_iload_n hx hb dX6_standing_17 rfl (lv_at hl 1 rfl) ?_
      refine lv_icmp_ne (tgt := 25) hx hb dX6_standing_18 (by decide) (fun hc => ?_) (fun hc => ?_)
      · rw [if_neg hc] at hf
        refine lv_iconst (v := 0) hx hb dX6_standing_25 (by decide) ?_
        exact k_X6_standing_26 E a0 r (f_X6_standing_4 fu) ih v1 v3 v2 0 x hf hP _ (lv_sub hl [0, 1, 3] rfl)
      · rw [if_pos hc] at hf
        refine lv_iconst (v := 1) hx hb dX6_standing_21 (by decide) ?_
        refine lv_goto (tgt := 26) hx hb dX6_standing_22 (by decide) ?_
        exact k_X6_standing_26 E a0 r (f_X6_standing_4 fu) ih v1 v3 v2 1 x hf hP _ (lv_sub hl [0, 1, 3] rfl)
set_option maxRecDepth 100000 in
set_option maxHeartbeats 4000000 in
theorem mt_X6_standing (l : Launch) (D : va_G) (I J O : ClassId) (a0 : Nat) (p1 : Int32) (x : Fn) (r : Int32) (hf : f_X6_standing p1 x = some r) : mR l yX6_standing cX6_standing 4 (some .int) 0 0 D I J O [.ref a0, .int p1] (wAr I a0 414 x) (qRi r) := by
  refine mR_open (own := RX6) rfl (by decide +kernel) (Nat.le_of_ble_eq_true rfl) (fun p e s m below meth c ls E hP hl => ?_)
  have hx := E.1
  have hb := E.2.1
  have hl : lv_has ls 4 [(0, .ref a0), (1, .int p1)] := hl
  unfold f_X6_standing at hf
  refine lv_iconst (v := 0) hx hb dX6_standing_0 (by decide) ?_
  refine lv_istore_n (lv' := [(2, .int 0), (0, .ref a0), (1, .int p1)]) hx hb dX6_standing_1 rfl hl (by decide) rfl (fun ls hl => ?_)
  refine lv_iconst (v := 0) hx hb dX6_standing_2 (by decide) ?_
  refine lv_istore_n (lv' := [(3, .int 0), (2, .int 0), (0, .ref a0), (1, .int p1)]) hx hb dX6_standing_3 rfl hl (by decide) rfl (fun ls hl => ?_)
  exact k_X6_standing_4 E a0 r FU p1 0 0 x hf hP _ (lv_sub hl [2, 3, 1, 0] rfl)
theorem ok_X6_drops : yS yX6_drops cX6_drops 3 none 2 := ⟨q903, q7, q902, by decide +kernel, by decide +kernel, by decide +kernel⟩
set_option maxRecDepth 100000 in
set_option maxHeartbeats 4000000 in
theorem k_X6_drops_109 {p : Program} {l : Launch} {e : Env} {s : State} {m : MethodId} {args : Array Value} {below : List Frame} {meth : Method} {c : Code} {D : va_G} {I J O : ClassId} (E : fx p s m args meth c cX6_drops RX6 3 none D I J O) (a0 : Nat)  {ws0 : va_W} {sz : Nat} (y0 : Fn) (k68 : Int32 → Int32 → Fn → Option (Fn)) (hk68 : ∀ (v1 : Int32) (v2 : Int32) (x : Fn), k68 v1 v2 x = some y0 → ∀ (H : Heap) (locs : List Loc), fy D (va_A ws0 sz) s.heap H locs (wAr I a0 414 x) → ∀ ls : Array Slot, lv_has ls 3 [(0, .ref a0), (1, .int v1), (2, .int v2)] → W p l e (rmB 0 0 0 0) s m args below meth c H locs 0 0 (MQ below (qMv D sz ws0 (fun _ : Unit => wAr I a0 414 y0)) args s 0 0 (va_A ws0 sz)) (F0 m 68 ls [])) : ∀ (v1 : Int32) (v2 : Int32) (t1 : Int32) (t2 : Int32) (t3 : Int32) (x : Fn), f_X6_drops_109 k68 v1 v2 t1 t2 t3 x = some y0 → ∀ (H : Heap) (locs : List Loc), fy D (va_A ws0 sz) s.heap H locs (wAr I a0 414 x) → ∀ ls : Array Slot, lv_has ls 3 [(0, .ref a0), (1, .int v1), (2, .int v2)] → W p l e (rmB 0 0 0 0) s m args below meth c H locs 0 0 (MQ below (qMv D sz ws0 (fun _ : Unit => wAr I a0 414 y0)) args s 0 0 (va_A ws0 sz)) (F0 m 109 ls [.int t3, .int t2, .int t1, .ref a0]) := by
  have hx := E.1
  have hb := E.2.1
  intro v1 v2 t1 t2 t3 x hf H locs hw ls hl
  unfold f_X6_drops_109 at hf
  refine lv_isub hx hb dX6_drops_109 ?_
  obtain ⟨g, hf⟩ := gi_s hf
  refine x_ast E hw 0 rfl g dX6_drops_110 (fun H locs hw => ?_)
  have hw : fy D (va_A ws0 sz) s.heap H locs (wAr I a0 414 (upd x t1.toNatClampNeg (t2 - t3))) := hw
  refine lv_iinc (v := v2 + 1) (lv' := [(2, .int (v2 + 1)), (0, .ref a0), (1, .int v1)]) hx hb dX6_drops_111 hl (k := 2) rfl rfl (by decide) rfl (fun ls hl => ?_)
  refine lv_goto (tgt := 68) hx hb dX6_drops_114 (by decide) ?_
  exact hk68 v1 (v2 + 1) (upd x t1.toNatClampNeg (t2 - t3)) hf _ _ hw _ (lv_sub hl [1, 2, 0] rfl)
set_option maxRecDepth 100000 in
set_option maxHeartbeats 4000000 in
theorem k_X6_drops_108 {p : Program} {l : Launch} {e : Env} {s : State} {m : MethodId} {args : Array Value} {below : List Frame} {meth : Method} {c : Code} {D : va_G} {I J O : ClassId} (E : fx p s m args meth c cX6_drops RX6 3 none D I J O) (a0 : Nat)  {ws0 : va_W} {sz : Nat} (y0 : Fn) (k68 : Int32 → Int32 → Fn → Option (Fn)) (hk68 : ∀ (v1 : Int32) (v2 : Int32) (x : Fn), k68 v1 v2 x = some y0 → ∀ (H : Heap) (locs : List Loc), fy D (va_A ws0 sz) s.heap H locs (wAr I a0 414 x) → ∀ ls : Array Slot, lv_has ls 3 [(0, .ref a0), (1, .int v1), (2, .int v2)] → W p l e (rmB 0 0 0 0) s m args below meth c H locs 0 0 (MQ below (qMv D sz ws0 (fun _ : Unit => wAr I a0 414 y0)) args s 0 0 (va_A ws0 sz)) (F0 m 68 ls [])) : ∀ (v1 : Int32) (v2 : Int32) (t1 : Int32) (t2 : Int32) (x : Fn), f_X6_drops_108 k68 v1 v2 t1 t2 x = some y0 → ∀ (H : Heap) (locs : List Loc), fy D (va_A ws0 sz) s.heap H locs (wAr I a0 414 x) → ∀ ls : Array Slot, lv_has ls 3 [(0, .ref a0), (1, .int v1), (2, .int v2)] → W p l e (rmB 0 0 0 0) s m args below meth c H locs 0 0 (MQ below (qMv D sz ws0 (fun _ : Unit => wAr I a0 414 y0)) args s 0 0 (va_A ws0 sz)) (F0 m 108 ls [.int t2, .int t1, .ref a0]) := by
  have hx := E.1
  have hb := E.2.1
  intro v1 v2 t1 t2 x hf H locs hw ls hl
  unfold f_X6_drops_108 at hf
  refine lv_iconst (v := 0) hx hb dX6_drops_108 (by decide) ?_
  exact k_X6_drops_109 E a0 y0 k68 hk68 v1 v2 t1 t2 0 x hf _ _ hw _ (lv_sub hl [0, 1, 2] rfl)
set_option maxRecDepth 100000 in
set_option maxHeartbeats 4000000 in
theorem k_X6_drops_68 {p : Program} {l : Launch} {e : Env} {s : State} {m : MethodId} {args : Array Value} {below : List Frame} {meth : Method} {c : Code} {D : va_G} {I J O : ClassId} (E : fx p s m args meth c cX6_drops RX6 3 none D I J O) (a0 : Nat)  {ws0 : va_W} {sz : Nat} (y0 : Fn) : ∀ fu : Nat, ∀ (v1 : Int32) (v2 : Int32) (x : Fn), f_X6_drops_68 fu v1 v2 x = some y0 → ∀ (H : Heap) (locs : List Loc), fy D (va_A ws0 sz) s.heap H locs (wAr I a0 414 x) → ∀ ls : Array Slot, lv_has ls 3 [(0, .ref a0), (1, .int v1), (2, .int v2)] → W p l e (rmB 0 0 0 0) s m args below meth c H locs 0 0 (MQ below (qMv D sz ws0 (fun _ : Unit => wAr I a0 414 y0)) args s 0 0 (va_A ws0 sz)) (F0 m 68 ls []) := by
  have hx := E.1
  have hb := E.2.1
  intro fu
  induction fu with
  | zero =>
    intro v1 v2 x hf H locs hw ls hl
    rw [f_X6_drops_68.eq_1] at hf
    cases hf
  | succ fu ih =>
    intro v1 v2 x hf H locs hw ls hl
    rw [f_X6_drops_68.eq_2] at hf
    refine lv_iload_n hx hb dX6_drops_68 rfl (lv_at hl 2 rfl) ?_
    refine lv_iconst (v := 4) hx hb dX6_drops_69 (by decide) ?_
    refine lv_icmp_ge (tgt := 117) hx hb dX6_drops_70 (by decide) (fun hc => ?_) (fun hc => ?_)
    · rw [if_pos hc] at hf
      have he0 := (Option.some.inj hf)
      subst he0
      exact x_vM E () hw dX6_drops_117
    · rw [if_neg hc] at hf
      refine lv_aload_n hx hb dX6_drops_73 rfl (lv_at hl 0 rfl) ?_
      refine lv_sipush (v := 410) hx hb dX6_drops_74 (by decide) ?_
      refine lv_iload_n hx hb dX6_drops_77 rfl (lv_at hl 2 rfl) ?_
      refine lv_iadd hx hb dX6_drops_78 ?_
      refine lv_dup2_11 hx hb dX6_drops_79 rfl rfl ?_
      obtain ⟨g, hf⟩ := gi_s hf
      refine x_ald E hw.1 0 rfl g dX6_drops_80 ?_
      refine lv_aload_n hx hb dX6_drops_81 rfl (lv_at hl 0 rfl) ?_
      refine lv_sipush (v := 410) hx hb dX6_drops_82 (by decide) ?_
      refine lv_iload_n hx hb dX6_drops_85 rfl (lv_at hl 2 rfl) ?_
      refine lv_iadd hx hb dX6_drops_86 ?_
      obtain ⟨g, hf⟩ := gi_s hf
      refine x_ald E hw.1 0 rfl g dX6_drops_87 ?_
      refine lv_iload_n hx hb dX6_drops_88 rfl (lv_at hl 1 rfl) ?_
      refine lv_icmp_le (tgt := 108) hx hb dX6_drops_89 (by decide) (fun hc => ?_) (fun hc => ?_)
      · rw [if_pos hc] at hf
        exact k_X6_drops_108 E a0 y0 (f_X6_drops_68 fu) ih v1 v2 (410 + v2) (x (410 + v2).toNatClampNeg) x hf _ _ hw _ (lv_sub hl [0, 1, 2] rfl)
      · rw [if_neg hc] at hf
        refine lv_aload_n hx hb dX6_drops_92 rfl (lv_at hl 0 rfl) ?_
        refine lv_sipush (v := 410) hx hb dX6_drops_93 (by decide) ?_
        refine lv_iload_n hx hb dX6_drops_96 rfl (lv_at hl 2 rfl) ?_
        refine lv_iadd hx hb dX6_drops_97 ?_
        obtain ⟨g, hf⟩ := gi_s hf
        refine x_ald E hw.1 0 rfl g dX6_drops_98 ?_
        refine lv_bipush (v := 99) hx hb dX6_drops_99 (by decide) ?_
        refine lv_icmp_eq (tgt := 108) hx hb dX6_drops_101 (by decide) (fun hc => ?_) (fun hc => ?_)
        · rw [if_pos hc] at hf
          exact k_X6_drops_108 E a0 y0 (f_X6_drops_68 fu) ih v1 v2 (410 + v2) (x (410 + v2).toNatClampNeg) x hf _ _ hw _ (lv_sub hl [0, 1, 2] rfl)
        · rw [if_neg hc] at hf
          refine lv_iconst (v := 1) hx hb dX6_drops_104 (by decide) ?_
          refine lv_goto (tgt := 109) hx hb dX6_drops_105 (by decide) ?_
          exact k_X6_drops_109 E a0 y0 (f_X6_drops_68 fu) ih v1 v2 (410 + v2) (x (410 + v2).toNatClampNeg) 1 x hf _ _ hw _ (lv_sub hl [0, 1, 2] rfl)
set_option maxRecDepth 100000 in
set_option maxHeartbeats 4000000 in
theorem k_X6_drops_42 {p : Program} {l : Launch} {e : Env} {s : State} {m : MethodId} {args : Array Value} {below : List Frame} {meth : Method} {c : Code} {D : va_G} {I J O : ClassId} (E : fx p s m args meth c cX6_drops RX6 3 none D I J O) (a0 : Nat)  {ws0 : va_W} {sz : Nat} (y0 : Fn) : ∀ fu : Nat, ∀ (v1 : Int32) (v2 : Int32) (x : Fn), f_X6_drops_42 fu v1 v2 x = some y0 → ∀ (H : Heap) (locs : List Loc), fy D (va_A ws0 sz) s.heap H locs (wAr I a0 414 x) → ∀ ls : Array Slot, lv_has ls 3 [(0, .ref a0), (1, .int v1), (2, .int v2)] → W p l e (rmB 0 0 0 0) s m args below meth c H locs 0 0 (MQ below (qMv D sz ws0 (fun _ : Unit => wAr I a0 414 y0)) args s 0 0 (va_A ws0 sz)) (F0 m 42 ls []) := by
  have hx := E.1
  have hb := E.2.1
  intro fu
  induction fu with
  | zero =>
    intro v1 v2 x hf H locs hw ls hl
    rw [f_X6_drops_42.eq_1] at hf
    cases hf
  | succ fu ih =>
    intro v1 v2 x hf H locs hw ls hl
    rw [f_X6_drops_42.eq_2] at hf
    refine lv_iload_n hx hb dX6_drops_42 rfl (lv_at hl 2 rfl) ?_
    refine lv_iconst (v := 5) hx hb dX6_drops_43 (by decide) ?_
    refine lv_icmp_ge (tgt := 66) hx hb dX6_drops_44 (by decide) (fun hc => ?_) (fun hc => ?_)
    · rw [if_pos hc] at hf
      refine lv_iconst (v := 0) hx hb dX6_drops_66 (by decide) ?_
      refine lv_istore_n (lv' := [(2, .int 0), (0, .ref a0), (1, .int v1)]) hx hb dX6_drops_67 rfl hl (by decide) rfl (fun ls hl => ?_)
      exact k_X6_drops_68 E a0 y0 FU v1 0 x hf _ _ hw _ (lv_sub hl [1, 2, 0] rfl)
    · rw [if_neg hc] at hf
      refine lv_aload_n hx hb dX6_drops_47 rfl (lv_at hl 0 rfl) ?_
      refine lv_bipush (v := 70) hx hb dX6_drops_48 (by decide) ?_
      refine lv_iconst (v := 5) hx hb dX6_drops_50 (by decide) ?_
      refine lv_aload_n hx hb dX6_drops_51 rfl (lv_at hl 0 rfl) ?_
      refine lv_iconst (v := 1) hx hb dX6_drops_52 (by decide) ?_
      obtain ⟨g, hf⟩ := gi_s hf
      refine x_ald E hw.1 0 rfl g dX6_drops_53 ?_
      refine lv_imul hx hb dX6_drops_54 ?_
      refine lv_iadd hx hb dX6_drops_55 ?_
      refine lv_iload_n hx hb dX6_drops_56 rfl (lv_at hl 2 rfl) ?_
      refine lv_iadd hx hb dX6_drops_57 ?_
      refine lv_iconst (v := 0) hx hb dX6_drops_58 (by decide) ?_
      obtain ⟨g, hf⟩ := gi_s hf
      refine x_ast E hw 0 rfl g dX6_drops_59 (fun H locs hw => ?_)
      have hw : fy D (va_A ws0 sz) s.heap H locs (wAr I a0 414 (upd x ((70 + (5 * (x (1 : Int32).toNatClampNeg))) + v2).toNatClampNeg 0)) := hw
      refine lv_iinc (v := v2 + 1) (lv' := [(2, .int (v2 + 1)), (0, .ref a0), (1, .int v1)]) hx hb dX6_drops_60 hl (k := 2) rfl rfl (by decide) rfl (fun ls hl => ?_)
      refine lv_goto (tgt := 42) hx hb dX6_drops_63 (by decide) ?_
      exact ih v1 (v2 + 1) (upd x ((70 + (5 * (x (1 : Int32).toNatClampNeg))) + v2).toNatClampNeg 0) hf _ _ hw _ (lv_sub hl [1, 2, 0] rfl)
set_option maxRecDepth 100000 in
set_option maxHeartbeats 4000000 in
theorem k_X6_drops_11 {p : Program} {l : Launch} {e : Env} {s : State} {m : MethodId} {args : Array Value} {below : List Frame} {meth : Method} {c : Code} {D : va_G} {I J O : ClassId} (E : fx p s m args meth c cX6_drops RX6 3 none D I J O) (a0 : Nat)  {ws0 : va_W} {sz : Nat} (y0 : Fn) : ∀ fu : Nat, ∀ (v1 : Int32) (v2 : Int32) (x : Fn), f_X6_drops_11 fu v1 v2 x = some y0 → ∀ (H : Heap) (locs : List Loc), fy D (va_A ws0 sz) s.heap H locs (wAr I a0 414 x) → ∀ ls : Array Slot, lv_has ls 3 [(0, .ref a0), (1, .int v1), (2, .int v2)] → W p l e (rmB 0 0 0 0) s m args below meth c H locs 0 0 (MQ below (qMv D sz ws0 (fun _ : Unit => wAr I a0 414 y0)) args s 0 0 (va_A ws0 sz)) (F0 m 11 ls []) := by
  have hx := E.1
  have hb := E.2.1
  intro fu
  induction fu with
  | zero =>
    intro v1 v2 x hf H locs hw ls hl
    rw [f_X6_drops_11.eq_1] at hf
    cases hf
  | succ fu ih =>
    intro v1 v2 x hf H locs hw ls hl
    rw [f_X6_drops_11.eq_2] at hf
    refine lv_iload_n hx hb dX6_drops_11 rfl (lv_at hl 2 rfl) ?_
    refine lv_iconst (v := 5) hx hb dX6_drops_12 (by decide) ?_
    refine lv_aload_n hx hb dX6_drops_13 rfl (lv_at hl 0 rfl) ?_
    refine lv_iconst (v := 1) hx hb dX6_drops_14 (by decide) ?_
    obtain ⟨g, hf⟩ := gi_s hf
    refine x_ald E hw.1 0 rfl g dX6_drops_15 ?_
    refine lv_imul hx hb dX6_drops_16 ?_
    refine lv_icmp_ge (tgt := 40) hx hb dX6_drops_17 (by decide) (fun hc => ?_) (fun hc => ?_)
    · rw [if_pos hc] at hf
      refine lv_iconst (v := 0) hx hb dX6_drops_40 (by decide) ?_
      refine lv_istore_n (lv' := [(2, .int 0), (0, .ref a0), (1, .int v1)]) hx hb dX6_drops_41 rfl hl (by decide) rfl (fun ls hl => ?_)
      exact k_X6_drops_42 E a0 y0 FU v1 0 x hf _ _ hw _ (lv_sub hl [1, 2, 0] rfl)
    · rw [if_neg hc] at hf
      refine lv_aload_n hx hb dX6_drops_20 rfl (lv_at hl 0 rfl) ?_
      refine lv_bipush (v := 70) hx hb dX6_drops_21 (by decide) ?_
      refine lv_iload_n hx hb dX6_drops_23 rfl (lv_at hl 2 rfl) ?_
      refine lv_iadd hx hb dX6_drops_24 ?_
      refine lv_aload_n hx hb dX6_drops_25 rfl (lv_at hl 0 rfl) ?_
      refine lv_bipush (v := 70) hx hb dX6_drops_26 (by decide) ?_
      refine lv_iload_n hx hb dX6_drops_28 rfl (lv_at hl 2 rfl) ?_
      refine lv_iadd hx hb dX6_drops_29 ?_
      refine lv_iconst (v := 5) hx hb dX6_drops_30 (by decide) ?_
      refine lv_iadd hx hb dX6_drops_31 ?_
      obtain ⟨g, hf⟩ := gi_s hf
      refine x_ald E hw.1 0 rfl g dX6_drops_32 ?_
      obtain ⟨g, hf⟩ := gi_s hf
      refine x_ast E hw 0 rfl g dX6_drops_33 (fun H locs hw => ?_)
      have hw : fy D (va_A ws0 sz) s.heap H locs (wAr I a0 414 (upd x (70 + v2).toNatClampNeg (x ((70 + v2) + 5).toNatClampNeg))) := hw
      refine lv_iinc (v := v2 + 1) (lv' := [(2, .int (v2 + 1)), (0, .ref a0), (1, .int v1)]) hx hb dX6_drops_34 hl (k := 2) rfl rfl (by decide) rfl (fun ls hl => ?_)
      refine lv_goto (tgt := 11) hx hb dX6_drops_37 (by decide) ?_
      exact ih v1 (v2 + 1) (upd x (70 + v2).toNatClampNeg (x ((70 + v2) + 5).toNatClampNeg)) hf _ _ hw _ (lv_sub hl [1, 2, 0] rfl)
set_option maxRecDepth 100000 in
set_option maxHeartbeats 4000000 in
theorem mt_X6_drops (l : Launch) (D : va_G) (I J O : ClassId) (a0 : Nat) (sz : Nat) (p1 : Int32) (x : Fn) (y0 : Fn) (hf : f_X6_drops p1 x = some y0) : mM l yX6_drops cX6_drops 3 none 0 0 0 0 D I J O sz [.ref a0, .int p1] (wAr I a0 414 x) (qMv D sz (wAr I a0 414 x) (fun _ : Unit => wAr I a0 414 y0)) := by
  refine mM_open (own := RX6) rfl (by decide +kernel) (Nat.le_of_ble_eq_true rfl) (fun p e s m below meth c ls E hnm hsz hw hl => ?_)
  obtain ⟨ws0, hws⟩ : ∃ ws0 : va_W, ws0 = wAr I a0 414 x := ⟨_, rfl⟩
  have hw : fy D (va_A ws0 sz) s.heap s.heap [] (wAr I a0 414 x) := by rw [hws]; exact hw
  rw [← hws]
  have hx := E.1
  have hb := E.2.1
  have hl : lv_has ls 3 [(0, .ref a0), (1, .int p1)] := hl
  unfold f_X6_drops at hf
  refine lv_aload_n hx hb dX6_drops_0 rfl (lv_at hl 0 rfl) ?_
  refine lv_iconst (v := 1) hx hb dX6_drops_1 (by decide) ?_
  refine lv_dup2_11 hx hb dX6_drops_2 rfl rfl ?_
  obtain ⟨g, hf⟩ := gi_s hf
  refine x_ald E hw.1 0 rfl g dX6_drops_3 ?_
  refine lv_iconst (v := 1) hx hb dX6_drops_4 (by decide) ?_
  refine lv_isub hx hb dX6_drops_5 ?_
  obtain ⟨g, hf⟩ := gi_s hf
  refine x_ast E hw 0 rfl g dX6_drops_6 (fun H locs hw => ?_)
  have hw : fy D (va_A ws0 sz) s.heap H locs (wAr I a0 414 (upd x (1 : Int32).toNatClampNeg ((x (1 : Int32).toNatClampNeg) - 1))) := hw
  refine lv_iconst (v := 5) hx hb dX6_drops_7 (by decide) ?_
  refine lv_iload_n hx hb dX6_drops_8 rfl (lv_at hl 1 rfl) ?_
  refine lv_imul hx hb dX6_drops_9 ?_
  refine lv_istore_n (lv' := [(2, .int (5 * p1)), (0, .ref a0), (1, .int p1)]) hx hb dX6_drops_10 rfl hl (by decide) rfl (fun ls hl => ?_)
  exact k_X6_drops_11 E a0 y0 FU p1 (5 * p1) (upd x (1 : Int32).toNatClampNeg ((x (1 : Int32).toNatClampNeg) - 1)) hf _ _ hw _ (lv_sub hl [1, 2, 0] rfl)
theorem ok_X6_removes : yS yX6_removes cX6_removes 3 (some .boolean) 2 := ⟨q894, q7, q893, by decide +kernel, by decide +kernel, by decide +kernel⟩
set_option maxRecDepth 100000 in
set_option maxHeartbeats 4000000 in
theorem k_X6_removes_57 {p : Program} {l : Launch} {e : Env} {s : State} {m : MethodId} {args : Array Value} {below : List Frame} {meth : Method} {c : Code} {D : va_G} {I J O : ClassId} (E : fx p s m args meth c cX6_removes RX6 3 (some .boolean) D I J O) (a0 : Nat)  {ws0 : va_W} {sz : Nat} (r : Int32) (y0 : Fn) (k34 : Int32 → Int32 → Fn → Option (Int32 × Fn)) (hk34 : ∀ (v1 : Int32) (v2 : Int32) (x : Fn), k34 v1 v2 x = some (r, y0) → ∀ (H : Heap) (locs : List Loc), fy D (va_A ws0 sz) s.heap H locs (wAr I a0 414 x) → ∀ ls : Array Slot, lv_has ls 3 [(0, .ref a0), (1, .int v1), (2, .int v2)] → W p l e (rmB 1 23 0 0) s m args below meth c H locs 0 0 (MQ below (qMi D sz ws0 r (fun _ : Unit => wAr I a0 414 y0)) args s 0 0 (va_A ws0 sz)) (F0 m 34 ls [])) : ∀ (v1 : Int32) (v2 : Int32) (t1 : Int32) (t2 : Int32) (x : Fn), f_X6_removes_57 k34 v1 v2 t1 t2 x = some (r, y0) → ∀ (H : Heap) (locs : List Loc), fy D (va_A ws0 sz) s.heap H locs (wAr I a0 414 x) → ∀ ls : Array Slot, lv_has ls 3 [(0, .ref a0), (1, .int v1), (2, .int v2)] → W p l e (rmB 1 23 0 0) s m args below meth c H locs 0 0 (MQ below (qMi D sz ws0 r (fun _ : Unit => wAr I a0 414 y0)) args s 0 0 (va_A ws0 sz)) (F0 m 57 ls [.int t2, .int t1, .ref a0]) := by
  have hx := E.1
  have hb := E.2.1
  intro v1 v2 t1 t2 x hf H locs hw ls hl
  unfold f_X6_removes_57 at hf
  obtain ⟨g, hf⟩ := gi_s hf
  refine x_ast E hw 0 rfl g dX6_removes_57 (fun H locs hw => ?_)
  have hw : fy D (va_A ws0 sz) s.heap H locs (wAr I a0 414 (upd x t1.toNatClampNeg t2)) := hw
  refine lv_iinc (v := v2 + 1) (lv' := [(2, .int (v2 + 1)), (0, .ref a0), (1, .int v1)]) hx hb dX6_removes_58 hl (k := 2) rfl rfl (by decide) rfl (fun ls hl => ?_)
  refine lv_goto (tgt := 34) hx hb dX6_removes_61 (by decide) ?_
  exact hk34 v1 (v2 + 1) (upd x t1.toNatClampNeg t2) hf _ _ hw _ (lv_sub hl [1, 2, 0] rfl)
set_option maxRecDepth 100000 in
set_option maxHeartbeats 4000000 in
theorem k_X6_removes_34 {p : Program} {l : Launch} {e : Env} {s : State} {m : MethodId} {args : Array Value} {below : List Frame} {meth : Method} {c : Code} {D : va_G} {I J O : ClassId} (E : fx p s m args meth c cX6_removes RX6 3 (some .boolean) D I J O) (a0 : Nat)  {ws0 : va_W} {sz : Nat} (r : Int32) (y0 : Fn) : ∀ fu : Nat, ∀ (v1 : Int32) (v2 : Int32) (x : Fn), f_X6_removes_34 fu v1 v2 x = some (r, y0) → ∀ (H : Heap) (locs : List Loc), fy D (va_A ws0 sz) s.heap H locs (wAr I a0 414 x) → ∀ ls : Array Slot, lv_has ls 3 [(0, .ref a0), (1, .int v1), (2, .int v2)] → W p l e (rmB 1 23 0 0) s m args below meth c H locs 0 0 (MQ below (qMi D sz ws0 r (fun _ : Unit => wAr I a0 414 y0)) args s 0 0 (va_A ws0 sz)) (F0 m 34 ls []) := by
  have hx := E.1
  have hb := E.2.1
  intro fu
  induction fu with
  | zero =>
    intro v1 v2 x hf H locs hw ls hl
    rw [f_X6_removes_34.eq_1] at hf
    cases hf
  | succ fu ih =>
    intro v1 v2 x hf H locs hw ls hl
    rw [f_X6_removes_34.eq_2] at hf
    refine lv_iload_n hx hb dX6_removes_34 rfl (lv_at hl 2 rfl) ?_
    refine lv_iconst (v := 5) hx hb dX6_removes_35 (by decide) ?_
    refine lv_icmp_ge (tgt := 64) hx hb dX6_removes_36 (by decide) (fun hc => ?_) (fun hc => ?_)
    · rw [if_pos hc] at hf
      refine lv_iconst (v := 1) hx hb dX6_removes_64 (by decide) ?_
      obtain ⟨he0, hr⟩ := Prod.mk.inj (Option.some.inj hf)
      have he1 := hr
      subst he1
      exact x_zM E () hw (Or.inr rfl) he0 dX6_removes_65
    · rw [if_neg hc] at hf
      refine lv_aload_n hx hb dX6_removes_39 rfl (lv_at hl 0 rfl) ?_
      refine lv_bipush (v := 70) hx hb dX6_removes_40 (by decide) ?_
      refine lv_iconst (v := 5) hx hb dX6_removes_42 (by decide) ?_
      refine lv_iload_n hx hb dX6_removes_43 rfl (lv_at hl 1 rfl) ?_
      refine lv_imul hx hb dX6_removes_44 ?_
      refine lv_iadd hx hb dX6_removes_45 ?_
      refine lv_iload_n hx hb dX6_removes_46 rfl (lv_at hl 2 rfl) ?_
      refine lv_iadd hx hb dX6_removes_47 ?_
      refine lv_iload_n hx hb dX6_removes_48 rfl (lv_at hl 2 rfl) ?_
      refine lv_if_ne (tgt := 56) hx hb dX6_removes_49 (by decide) (fun hc => ?_) (fun hc => ?_)
      · rw [if_neg hc] at hf
        refine lv_iconst (v := 0) hx hb dX6_removes_56 (by decide) ?_
        exact k_X6_removes_57 E a0 r y0 (f_X6_removes_34 fu) ih v1 v2 ((70 + (5 * v1)) + v2) 0 x hf _ _ hw _ (lv_sub hl [0, 1, 2] rfl)
      · rw [if_pos hc] at hf
        refine lv_iconst (v := (-1)) hx hb dX6_removes_52 (by decide) ?_
        refine lv_goto (tgt := 57) hx hb dX6_removes_53 (by decide) ?_
        exact k_X6_removes_57 E a0 r y0 (f_X6_removes_34 fu) ih v1 v2 ((70 + (5 * v1)) + v2) (-1) x hf _ _ hw _ (lv_sub hl [0, 1, 2] rfl)
set_option maxRecDepth 100000 in
set_option maxHeartbeats 4000000 in
theorem mt_X6_removes (l : Launch) (D : va_G) (I J O : ClassId) (a0 : Nat) (sz : Nat) (p1 : Int32) (x : Fn) (r : Int32) (y0 : Fn) (hf : f_X6_removes p1 x = some (r, y0)) : mM l yX6_removes cX6_removes 3 (some .boolean) 1 23 0 0 D I J O sz [.ref a0, .int p1] (wAr I a0 414 x) (qMi D sz (wAr I a0 414 x) r (fun _ : Unit => wAr I a0 414 y0)) := by
  refine mM_open (own := RX6) rfl (by decide +kernel) (Nat.le_of_ble_eq_true rfl) (fun p e s m below meth c ls E hnm hsz hw hl => ?_)
  obtain ⟨ws0, hws⟩ : ∃ ws0 : va_W, ws0 = wAr I a0 414 x := ⟨_, rfl⟩
  have hw : fy D (va_A ws0 sz) s.heap s.heap [] (wAr I a0 414 x) := by rw [hws]; exact hw
  rw [← hws]
  have hx := E.1
  have hb := E.2.1
  have hl : lv_has ls 3 [(0, .ref a0), (1, .int p1)] := hl
  unfold f_X6_removes at hf
  refine lv_aload_n hx hb dX6_removes_0 rfl (lv_at hl 0 rfl) ?_
  refine lv_aload_n hx hb dX6_removes_1 rfl (lv_at hl 0 rfl) ?_
  refine lv_iload_n hx hb dX6_removes_2 rfl (lv_at hl 1 rfl) ?_
  refine lv_iconst (v := 0) hx hb dX6_removes_3 (by decide) ?_
  obtain ⟨z1, h, hf⟩ := bd_s hf
  refine x_ci (x_rS E (As := [.ref a0, .int p1, .int 0]) (rest := [.ref a0]) (mt_X6_of l D I J O a0 p1 0 x z1 h) blR (x_pcR E hw.1) ok_X6_of q864 rfl hl.1 rfl (Nat.le_of_ble_eq_true rfl) ⟨Nat.le_of_ble_eq_true rfl, Nat.le_of_ble_eq_true rfl⟩ ⟨Nat.le_of_ble_eq_true rfl, Nat.le_of_ble_eq_true rfl⟩ dX6_removes_4) ?_
  obtain ⟨z2, h, hf⟩ := bd_s hf
  refine x_mv0 hw [0] rfl rfl (x_rS E (As := [.ref a0, .int z1]) (rest := []) (mt_X6_leaves l D I J O a0 s.heap.size z1 x z2 h) blM (x_pcMQ0 E hw [0] rfl rfl) ok_X6_leaves q895 rfl hl.1 rfl (Nat.le_of_ble_eq_true rfl) ⟨Nat.le_of_ble_eq_true rfl, Nat.le_of_ble_eq_true rfl⟩ ⟨Nat.le_of_ble_eq_true rfl, Nat.le_of_ble_eq_true rfl⟩ dX6_removes_7) (fun _ => rfl) (fun _ H locs hw => ?_)
  have hw : fy D (va_A ws0 sz) s.heap H locs (wAr I a0 414 z2) := hw
  refine lv_aload_n hx hb dX6_removes_10 rfl (lv_at hl 0 rfl) ?_
  refine lv_iconst (v := 4) hx hb dX6_removes_11 (by decide) ?_
  refine lv_dup2_11 hx hb dX6_removes_12 rfl rfl ?_
  obtain ⟨g, hf⟩ := gi_s hf
  refine x_ald E hw.1 0 rfl g dX6_removes_13 ?_
  refine lv_iconst (v := 1) hx hb dX6_removes_14 (by decide) ?_
  refine lv_iadd hx hb dX6_removes_15 ?_
  obtain ⟨g, hf⟩ := gi_s hf
  refine x_ast E hw 0 rfl g dX6_removes_16 (fun H locs hw => ?_)
  have hw : fy D (va_A ws0 sz) s.heap H locs (wAr I a0 414 (upd z2 (4 : Int32).toNatClampNeg ((z2 (4 : Int32).toNatClampNeg) + 1))) := hw
  refine lv_aload_n hx hb dX6_removes_17 rfl (lv_at hl 0 rfl) ?_
  refine lv_iload_n hx hb dX6_removes_18 rfl (lv_at hl 1 rfl) ?_
  obtain ⟨z3, h, hf⟩ := bd_s hf
  refine x_ci (x_rS E (As := [.ref a0, .int p1]) (rest := []) (mt_X6_standing l D I J O a0 p1 (upd z2 (4 : Int32).toNatClampNeg ((z2 (4 : Int32).toNatClampNeg) + 1)) z3 h) blR (x_pcR E hw.1) ok_X6_standing q898 rfl hl.1 rfl (Nat.le_of_ble_eq_true rfl) ⟨Nat.le_of_ble_eq_true rfl, Nat.le_of_ble_eq_true rfl⟩ ⟨Nat.le_of_ble_eq_true rfl, Nat.le_of_ble_eq_true rfl⟩ dX6_removes_19) ?_
  refine lv_if_ne (tgt := 32) hx hb dX6_removes_22 (by decide) (fun hc => ?_) (fun hc => ?_)
  · rw [if_neg hc] at hf
    refine lv_iconst (v := 0) hx hb dX6_removes_32 (by decide) ?_
    refine lv_istore_n (lv' := [(2, .int 0), (0, .ref a0), (1, .int p1)]) hx hb dX6_removes_33 rfl hl (by decide) rfl (fun ls hl => ?_)
    exact k_X6_removes_34 E a0 r y0 FU p1 0 (upd z2 (4 : Int32).toNatClampNeg ((z2 (4 : Int32).toNatClampNeg) + 1)) hf _ _ hw _ (lv_sub hl [1, 2, 0] rfl)
  · rw [if_pos hc] at hf
    refine lv_aload_n hx hb dX6_removes_25 rfl (lv_at hl 0 rfl) ?_
    refine lv_iload_n hx hb dX6_removes_26 rfl (lv_at hl 1 rfl) ?_
    obtain ⟨z4, h, hf⟩ := bd_s hf
    refine x_mv0 hw [0] rfl rfl (x_rS E (As := [.ref a0, .int p1]) (rest := []) (mt_X6_drops l D I J O a0 H.size p1 (upd z2 (4 : Int32).toNatClampNeg ((z2 (4 : Int32).toNatClampNeg) + 1)) z4 h) blM (x_pcMQ0 E hw [0] rfl rfl) ok_X6_drops q901 rfl hl.1 rfl (Nat.le_of_ble_eq_true rfl) ⟨Nat.le_of_ble_eq_true rfl, Nat.le_of_ble_eq_true rfl⟩ ⟨Nat.le_of_ble_eq_true rfl, Nat.le_of_ble_eq_true rfl⟩ dX6_removes_27) (fun _ => rfl) (fun _ H locs hw => ?_)
    have hw : fy D (va_A ws0 sz) s.heap H locs (wAr I a0 414 z4) := hw
    refine lv_iconst (v := 0) hx hb dX6_removes_30 (by decide) ?_
    obtain ⟨he0, hr⟩ := Prod.mk.inj (Option.some.inj hf)
    have he1 := hr
    subst he1
    exact x_zM E () hw (Or.inl rfl) he0 dX6_removes_31
theorem ok_X6_walks : yS yX6_walks cX6_walks 4 none 3 := ⟨q920, q7, q919, by decide +kernel, by decide +kernel, by decide +kernel⟩
set_option maxRecDepth 100000 in
set_option maxHeartbeats 4000000 in
theorem mt_X6_walks (l : Launch) (D : va_G) (I J O : ClassId) (a0 : Nat) (sz : Nat) (p1 : Int32) (p2 : Int32) (x : Fn) (y0 : Fn) (hf : f_X6_walks p1 p2 x = some y0) : mM l yX6_walks cX6_walks 4 none 2 43 0 0 D I J O sz [.ref a0, .int p1, .int p2] (wAr I a0 414 x) (qMv D sz (wAr I a0 414 x) (fun _ : Unit => wAr I a0 414 y0)) := by
  refine mM_open (own := RX6) rfl (by decide +kernel) (Nat.le_of_ble_eq_true rfl) (fun p e s m below meth c ls E hnm hsz hw hl => ?_)
  obtain ⟨ws0, hws⟩ : ∃ ws0 : va_W, ws0 = wAr I a0 414 x := ⟨_, rfl⟩
  have hw : fy D (va_A ws0 sz) s.heap s.heap [] (wAr I a0 414 x) := by rw [hws]; exact hw
  rw [← hws]
  have hx := E.1
  have hb := E.2.1
  have hl : lv_has ls 4 [(0, .ref a0), (1, .int p1), (2, .int p2)] := hl
  unfold f_X6_walks at hf
  refine lv_aload_n hx hb dX6_walks_0 rfl (lv_at hl 0 rfl) ?_
  refine lv_sipush (v := 410) hx hb dX6_walks_1 (by decide) ?_
  refine lv_iload_n hx hb dX6_walks_4 rfl (lv_at hl 1 rfl) ?_
  refine lv_iadd hx hb dX6_walks_5 ?_
  obtain ⟨g, hf⟩ := gi_s hf
  refine x_ald E hw.1 0 rfl g dX6_walks_6 ?_
  refine lv_istore_n (lv' := [(3, .int (x (410 + p1).toNatClampNeg)), (0, .ref a0), (1, .int p1), (2, .int p2)]) hx hb dX6_walks_7 rfl hl (by decide) rfl (fun ls hl => ?_)
  refine lv_aload_n hx hb dX6_walks_8 rfl (lv_at hl 1 rfl) ?_
  refine lv_sipush (v := 410) hx hb dX6_walks_9 (by decide) ?_
  refine lv_iload_n hx hb dX6_walks_12 rfl (lv_at hl 2 rfl) ?_
  refine lv_iadd hx hb dX6_walks_13 ?_
  refine lv_iload_n hx hb dX6_walks_14 rfl (lv_at hl 3 rfl) ?_
  obtain ⟨g, hf⟩ := gi_s hf
  refine x_ast E hw 0 rfl g dX6_walks_15 (fun H locs hw => ?_)
  have hw : fy D (va_A ws0 sz) s.heap H locs (wAr I a0 414 (upd x (410 + p1).toNatClampNeg p2)) := hw
  refine lv_iload_n hx hb dX6_walks_16 rfl (lv_at hl 0 rfl) ?_
  refine lv_iconst (v := 0) hx hb dX6_walks_17 (by decide) ?_
  refine lv_aload_n hx hb dX6_walks_18 rfl (lv_at hl 1 rfl) ?_
  refine lv_iconst (v := 1) hx hb dX6_walks_19 (by decide) ?_
  obtain ⟨g, hf⟩ := gi_s hf
  refine x_ald E hw.1 0 rfl g dX6_walks_20 ?_
  refine lv_iconst (v := 1) hx hb dX6_walks_21 (by decide) ?_
  refine lv_isub hx hb dX6_walks_22 ?_
  obtain ⟨z1, h, hf⟩ := bd_s hf
  refine x_ci (x_rS E (As := [.int (x (410 + p1).toNatClampNeg), .int 0, .int (((upd x (410 + p1).toNatClampNeg p2) (1 : Int32).toNatClampNeg) - 1)]) (rest := []) (mt_X6_in l D I J O (x (410 + p1).toNatClampNeg) 0 (((upd x (410 + p1).toNatClampNeg p2) (1 : Int32).toNatClampNeg) - 1) z1 h) blR (x_pcR E x_none) ok_X6_in q846 rfl hl.1 rfl (Nat.le_of_ble_eq_true rfl) ⟨Nat.le_of_ble_eq_true rfl, Nat.le_of_ble_eq_true rfl⟩ ⟨Nat.le_of_ble_eq_true rfl, Nat.le_of_ble_eq_true rfl⟩ dX6_walks_23) ?_
  refine lv_if_eq (tgt := 50) hx hb dX6_walks_26 (by decide) (fun hc => ?_) (fun hc => ?_)
  · rw [if_pos hc] at hf
    have he0 := (Option.some.inj hf)
    subst he0
    exact x_vM E () hw dX6_walks_50
  · rw [if_neg hc] at hf
    refine lv_aload_n hx hb dX6_walks_29 rfl (lv_at hl 1 rfl) ?_
    refine lv_iload_n hx hb dX6_walks_30 rfl (lv_at hl 0 rfl) ?_
    obtain ⟨z2, h, hf⟩ := bd_s hf
    refine x_ci (x_rS E (As := [.ref a0, .int (x (410 + p1).toNatClampNeg)]) (rest := []) (mt_X6_isThing l D I J O a0 (x (410 + p1).toNatClampNeg) (upd x (410 + p1).toNatClampNeg p2) z2 h) blR (x_pcR E hw.1) ok_X6_isThing q861 rfl hl.1 rfl (Nat.le_of_ble_eq_true rfl) ⟨Nat.le_of_ble_eq_true rfl, Nat.le_of_ble_eq_true rfl⟩ ⟨Nat.le_of_ble_eq_true rfl, Nat.le_of_ble_eq_true rfl⟩ dX6_walks_31) ?_
    refine lv_if_ne (tgt := 50) hx hb dX6_walks_34 (by decide) (fun hc => ?_) (fun hc => ?_)
    · rw [if_neg hc] at hf
      have he0 := (Option.some.inj hf)
      subst he0
      exact x_vM E () hw dX6_walks_50
    · rw [if_pos hc] at hf
      refine lv_aload_n hx hb dX6_walks_37 rfl (lv_at hl 1 rfl) ?_
      refine lv_iload_n hx hb dX6_walks_38 rfl (lv_at hl 0 rfl) ?_
      obtain ⟨z3, h, hf⟩ := bd_s hf
      refine x_ci (x_rS E (As := [.ref a0, .int (x (410 + p1).toNatClampNeg)]) (rest := []) (mt_X6_standing l D I J O a0 (x (410 + p1).toNatClampNeg) (upd x (410 + p1).toNatClampNeg p2) z3 h) blR (x_pcR E hw.1) ok_X6_standing q898 rfl hl.1 rfl (Nat.le_of_ble_eq_true rfl) ⟨Nat.le_of_ble_eq_true rfl, Nat.le_of_ble_eq_true rfl⟩ ⟨Nat.le_of_ble_eq_true rfl, Nat.le_of_ble_eq_true rfl⟩ dX6_walks_39) ?_
      refine lv_if_ne (tgt := 50) hx hb dX6_walks_42 (by decide) (fun hc => ?_) (fun hc => ?_)
      · rw [if_neg hc] at hf
        have he0 := (Option.some.inj hf)
        subst he0
        exact x_vM E () hw dX6_walks_50
      · rw [if_pos hc] at hf
        refine lv_aload_n hx hb dX6_walks_45 rfl (lv_at hl 1 rfl) ?_
        refine lv_iload_n hx hb dX6_walks_46 rfl (lv_at hl 0 rfl) ?_
        obtain ⟨z4, h, hf⟩ := bd_s hf
        refine x_mv0 hw [0] rfl rfl (x_rS E (As := [.ref a0, .int (x (410 + p1).toNatClampNeg)]) (rest := []) (mt_X6_drops l D I J O a0 H.size (x (410 + p1).toNatClampNeg) (upd x (410 + p1).toNatClampNeg p2) z4 h) blM (x_pcMQ0 E hw [0] rfl rfl) ok_X6_drops q901 rfl hl.1 rfl (Nat.le_of_ble_eq_true rfl) ⟨Nat.le_of_ble_eq_true rfl, Nat.le_of_ble_eq_true rfl⟩ ⟨Nat.le_of_ble_eq_true rfl, Nat.le_of_ble_eq_true rfl⟩ dX6_walks_47) (fun _ => rfl) (fun _ H locs hw => ?_)
        have hw : fy D (va_A ws0 sz) s.heap H locs (wAr I a0 414 z4) := hw
        have he0 := (Option.some.inj hf)
        subst he0
        exact x_vM E () hw dX6_walks_50
theorem ok_X6_nextThing : yS yX6_nextThing cX6_nextThing 3 (some .int) 2 := ⟨q927, q7, q926, by decide +kernel, by decide +kernel, by decide +kernel⟩
set_option maxRecDepth 100000 in
set_option maxHeartbeats 4000000 in
theorem k_X6_nextThing_37 {p : Program} {l : Launch} {e : Env} {s : State} {m : MethodId} {args : Array Value} {below : List Frame} {meth : Method} {c : Code} {D : va_G} {I J O : ClassId} (E : fx p s m args meth c cX6_nextThing RX6 3 (some .int) D I J O) (a0 : Nat)  (r : Int32) : ∀ (v2 : Int32) (x : Fn), f_X6_nextThing_37 v2 x = some r → va_P D vwCl (wAr I a0 414 x) s.heap → ∀ ls : Array Slot, lv_has ls 3 [(0, .ref a0), (2, .int v2)] → W p l e (rmB 2 43 0 0) s m args below meth c s.heap [] 0 0 (MQ below (qRi r) args s 0 0 (fun _ => False)) (F0 m 37 ls []) := by
  have hx := E.1
  have hb := E.2.1
  intro v2 x hf hP ls hl
  unfold f_X6_nextThing_37 at hf
  refine lv_iload_n hx hb dX6_nextThing_37 rfl (lv_at hl 1 rfl) ?_
  refine lv_aload_n hx hb dX6_nextThing_38 rfl (lv_at hl 0 rfl) ?_
  refine lv_iconst (v := 1) hx hb dX6_nextThing_39 (by decide) ?_
  obtain ⟨g, hf⟩ := gi_s hf
  refine x_ald E hP 0 rfl g dX6_nextThing_40 ?_
  refine lv_icmp_ge (tgt := 48) hx hb dX6_nextThing_41 (by decide) (fun hc => ?_) (fun hc => ?_)
  · rw [if_pos hc] at hf
    refine lv_bipush (v := 99) hx hb dX6_nextThing_48 (by decide) ?_
    exact x_iR E (Option.some.inj hf) dX6_nextThing_50
  · rw [if_neg hc] at hf
    refine lv_iload_n hx hb dX6_nextThing_44 rfl (lv_at hl 1 rfl) ?_
    refine lv_goto (tgt := 50) hx hb dX6_nextThing_45 (by decide) ?_
    exact x_iR E (Option.some.inj hf) dX6_nextThing_50
set_option maxRecDepth 100000 in
set_option maxHeartbeats 4000000 in
theorem k_X6_nextThing_16 {p : Program} {l : Launch} {e : Env} {s : State} {m : MethodId} {args : Array Value} {below : List Frame} {meth : Method} {c : Code} {D : va_G} {I J O : ClassId} (E : fx p s m args meth c cX6_nextThing RX6 3 (some .int) D I J O) (a0 : Nat)  (r : Int32) : ∀ fu : Nat, ∀ (v2 : Int32) (x : Fn), f_X6_nextThing_16 fu v2 x = some r → va_P D vwCl (wAr I a0 414 x) s.heap → ∀ ls : Array Slot, lv_has ls 3 [(0, .ref a0), (2, .int v2)] → W p l e (rmB 2 43 0 0) s m args below meth c s.heap [] 0 0 (MQ below (qRi r) args s 0 0 (fun _ => False)) (F0 m 16 ls []) := by
  have hx := E.1
  have hb := E.2.1
  intro fu
  induction fu with
  | zero =>
    intro v2 x hf hP ls hl
    rw [f_X6_nextThing_16.eq_1] at hf
    cases hf
  | succ fu ih =>
    intro v2 x hf hP ls hl
    rw [f_X6_nextThing_16.eq_2] at hf
    refine lv_iload_n hx hb dX6_nextThing_16 rfl (lv_at hl 1 rfl) ?_
    refine lv_aload_n hx hb dX6_nextThing_17 rfl (lv_at hl 0 rfl) ?_
    refine lv_iconst (v := 1) hx hb dX6_nextThing_18 (by decide) ?_
    obtain ⟨g, hf⟩ := gi_s hf
    refine x_ald E hP 0 rfl g dX6_nextThing_19 ?_
    refine lv_icmp_ge (tgt := 37) hx hb dX6_nextThing_20 (by decide) (fun hc => ?_) (fun hc => ?_)
    · rw [if_pos hc] at hf
      exact k_X6_nextThing_37 E a0 r v2 x hf hP _ (lv_sub hl [0, 1] rfl)
    · rw [if_neg hc] at hf
      refine lv_aload_n hx hb dX6_nextThing_23 rfl (lv_at hl 0 rfl) ?_
      refine lv_iload_n hx hb dX6_nextThing_24 rfl (lv_at hl 1 rfl) ?_
      obtain ⟨z1, h, hf⟩ := bd_s hf
      refine x_ci (x_rS E (As := [.ref a0, .int v2]) (rest := []) (mt_X6_isThing l D I J O a0 v2 x z1 h) blR (x_pcR E hP) ok_X6_isThing q861 rfl hl.1 rfl (Nat.le_of_ble_eq_true rfl) ⟨Nat.le_of_ble_eq_true rfl, Nat.le_of_ble_eq_true rfl⟩ ⟨Nat.le_of_ble_eq_true rfl, Nat.le_of_ble_eq_true rfl⟩ dX6_nextThing_25) ?_
      refine lv_if_ne (tgt := 37) hx hb dX6_nextThing_28 (by decide) (fun hc => ?_) (fun hc => ?_)
      · rw [if_neg hc] at hf
        exact k_X6_nextThing_37 E a0 r v2 x hf hP _ (lv_sub hl [0, 1] rfl)
      · rw [if_pos hc] at hf
        refine lv_iinc (v := v2 + 1) (lv' := [(2, .int (v2 + 1)), (0, .ref a0)]) hx hb dX6_nextThing_31 hl (k := 1) rfl rfl (by decide) rfl (fun ls hl => ?_)
        refine lv_goto (tgt := 16) hx hb dX6_nextThing_34 (by decide) ?_
        exact ih (v2 + 1) x hf hP _ (lv_sub hl [1, 0] rfl)
set_option maxRecDepth 100000 in
set_option maxHeartbeats 4000000 in
theorem k_X6_nextThing_15 {p : Program} {l : Launch} {e : Env} {s : State} {m : MethodId} {args : Array Value} {below : List Frame} {meth : Method} {c : Code} {D : va_G} {I J O : ClassId} (E : fx p s m args meth c cX6_nextThing RX6 3 (some .int) D I J O) (a0 : Nat)  (r : Int32) : ∀ (t0 : Int32) (x : Fn), f_X6_nextThing_15 t0 x = some r → va_P D vwCl (wAr I a0 414 x) s.heap → ∀ ls : Array Slot, lv_has ls 3 [(0, .ref a0)] → W p l e (rmB 2 43 0 0) s m args below meth c s.heap [] 0 0 (MQ below (qRi r) args s 0 0 (fun _ => False)) (F0 m 15 ls [.int t0]) := by
  have hx := E.1
  have hb := E.2.1
  intro t0 x hf hP ls hl
  unfold f_X6_nextThing_15 at hf
  refine lv_istore_n (lv' := [(2, .int t0), (0, .ref a0)]) hx hb dX6_nextThing_15 rfl hl (by decide) rfl (fun ls hl => ?_)
  exact k_X6_nextThing_16 E a0 r FU t0 x hf hP _ (lv_sub hl [1, 0] rfl)
set_option maxRecDepth 100000 in
set_option maxHeartbeats 4000000 in
theorem mt_X6_nextThing (l : Launch) (D : va_G) (I J O : ClassId) (a0 : Nat) (p1 : Int32) (x : Fn) (r : Int32) (hf : f_X6_nextThing p1 x = some r) : mR l yX6_nextThing cX6_nextThing 3 (some .int) 2 43 D I J O [.ref a0, .int p1] (wAr I a0 414 x) (qRi r) := by
  refine mR_open (own := RX6) rfl (by decide +kernel) (Nat.le_of_ble_eq_true rfl) (fun p e s m below meth c ls E hP hl => ?_)
  have hx := E.1
  have hb := E.2.1
  have hl : lv_has ls 3 [(0, .ref a0), (1, .int p1)] := hl
  unfold f_X6_nextThing at hf
  refine lv_iload_n hx hb dX6_nextThing_0 rfl (lv_at hl 1 rfl) ?_
  refine lv_bipush (v := 99) hx hb dX6_nextThing_1 (by decide) ?_
  refine lv_icmp_ne (tgt := 12) hx hb dX6_nextThing_3 (by decide) (fun hc => ?_) (fun hc => ?_)
  · rw [if_neg hc] at hf
    refine lv_iload_n hx hb dX6_nextThing_12 rfl (lv_at hl 1 rfl) ?_
    refine lv_iconst (v := 1) hx hb dX6_nextThing_13 (by decide) ?_
    refine lv_iadd hx hb dX6_nextThing_14 ?_
    exact k_X6_nextThing_15 E a0 r (p1 + 1) x hf hP _ (lv_sub hl [0] rfl)
  · rw [if_pos hc] at hf
    refine lv_aload_n hx hb dX6_nextThing_6 rfl (lv_at hl 0 rfl) ?_
    refine lv_iconst (v := 1) hx hb dX6_nextThing_7 (by decide) ?_
    obtain ⟨g, hf⟩ := gi_s hf
    refine x_ald E hP 0 rfl g dX6_nextThing_8 ?_
    refine lv_goto (tgt := 15) hx hb dX6_nextThing_9 (by decide) ?_
    exact k_X6_nextThing_15 E a0 r (x (1 : Int32).toNatClampNeg) x hf hP _ (lv_sub hl [0] rfl)
theorem ok_X6_whyNot : yS yX6_whyNot cX6_whyNot 4 (some .int) 2 := ⟨q887, q7, q886, by decide +kernel, by decide +kernel, by decide +kernel⟩
set_option maxRecDepth 100000 in
set_option maxHeartbeats 4000000 in
theorem k_X6_whyNot_60 {p : Program} {l : Launch} {e : Env} {s : State} {m : MethodId} {args : Array Value} {below : List Frame} {meth : Method} {c : Code} {D : va_G} {I J O : ClassId} (E : fx p s m args meth c cX6_whyNot RX6 4 (some .int) D I J O) (a0 : Nat)  (r : Int32) : ∀ (x : Fn), f_X6_whyNot_60 x = some r → va_P D vwCl (wAr I a0 414 x) s.heap → ∀ ls : Array Slot, lv_has ls 4 [] → W p l e (rmB 3 65 0 0) s m args below meth c s.heap [] 0 0 (MQ below (qRi r) args s 0 0 (fun _ => False)) (F0 m 60 ls []) := by
  have hx := E.1
  have hb := E.2.1
  intro x hf hP ls hl
  unfold f_X6_whyNot_60 at hf
  refine lv_iconst (v := 3) hx hb dX6_whyNot_60 (by decide) ?_
  refine lv_goto (tgt := 65) hx hb dX6_whyNot_61 (by decide) ?_
  exact x_iR E (Option.some.inj hf) dX6_whyNot_65
set_option maxRecDepth 100000 in
set_option maxHeartbeats 4000000 in
theorem mt_X6_whyNot (l : Launch) (D : va_G) (I J O : ClassId) (a0 : Nat) (p1 : Int32) (x : Fn) (r : Int32) (hf : f_X6_whyNot p1 x = some r) : mR l yX6_whyNot cX6_whyNot 4 (some .int) 3 65 D I J O [.ref a0, .int p1] (wAr I a0 414 x) (qRi r) := by
  refine mR_open (own := RX6) rfl (by decide +kernel) (Nat.le_of_ble_eq_true rfl) (fun p e s m below meth c ls E hP hl => ?_)
  have hx := E.1
  have hb := E.2.1
  have hl : lv_has ls 4 [(0, .ref a0), (1, .int p1)] := hl
  unfold f_X6_whyNot at hf
  refine lv_iload_n hx hb dX6_whyNot_0 rfl (lv_at hl 1 rfl) ?_
  refine lv_if_lt (tgt := 15) hx hb dX6_whyNot_1 (by decide) (fun hc => ?_) (fun hc => ?_)
  · rw [if_pos hc] at hf
    refine lv_iconst (v := 1) hx hb dX6_whyNot_15 (by decide) ?_
    exact x_iR E (Option.some.inj hf) dX6_whyNot_16
  · rw [if_neg hc] at hf
    refine lv_iload_n hx hb dX6_whyNot_4 rfl (lv_at hl 1 rfl) ?_
    refine lv_sipush (v := 1000) hx hb dX6_whyNot_5 (by decide) ?_
    refine lv_idiv hx hb dX6_whyNot_8 (by decide) ?_
    refine lv_aload_n hx hb dX6_whyNot_9 rfl (lv_at hl 0 rfl) ?_
    refine lv_iconst (v := 0) hx hb dX6_whyNot_10 (by decide) ?_
    obtain ⟨g, hf⟩ := gi_s hf
    refine x_ald E hP 0 rfl g dX6_whyNot_11 ?_
    refine lv_icmp_lt (tgt := 17) hx hb dX6_whyNot_12 (by decide) (fun hc => ?_) (fun hc => ?_)
    · rw [if_pos hc] at hf
      refine lv_iload_n hx hb dX6_whyNot_17 rfl (lv_at hl 1 rfl) ?_
      refine lv_sipush (v := 1000) hx hb dX6_whyNot_18 (by decide) ?_
      refine lv_idiv hx hb dX6_whyNot_21 (by decide) ?_
      refine lv_istore_n (lv' := [(2, .int (p1 / 1000)), (0, .ref a0), (1, .int p1)]) hx hb dX6_whyNot_22 rfl hl (by decide) rfl (fun ls hl => ?_)
      refine lv_aload_n hx hb dX6_whyNot_23 rfl (lv_at hl 1 rfl) ?_
      refine lv_bipush (v := 6) hx hb dX6_whyNot_24 (by decide) ?_
      refine lv_iload_n hx hb dX6_whyNot_26 rfl (lv_at hl 0 rfl) ?_
      refine lv_iadd hx hb dX6_whyNot_27 ?_
      obtain ⟨g, hf⟩ := gi_s hf
      refine x_ald E hP 0 rfl g dX6_whyNot_28 ?_
      refine lv_iload_n hx hb dX6_whyNot_29 rfl (lv_at hl 2 rfl) ?_
      refine lv_sipush (v := 1000) hx hb dX6_whyNot_30 (by decide) ?_
      refine lv_irem hx hb dX6_whyNot_33 (by decide) ?_
      refine lv_icmp_eq (tgt := 39) hx hb dX6_whyNot_34 (by decide) (fun hc => ?_) (fun hc => ?_)
      · rw [if_pos hc] at hf
        refine lv_aload_n hx hb dX6_whyNot_39 rfl (lv_at hl 1 rfl) ?_
        refine lv_iload_n hx hb dX6_whyNot_40 rfl (lv_at hl 0 rfl) ?_
        obtain ⟨z1, h, hf⟩ := bd_s hf
        refine x_ci (x_rS E (As := [.ref a0, .int (p1 / 1000)]) (rest := []) (mt_X6_entryOf l D I J O a0 (p1 / 1000) x z1 h) blR (x_pcR E hP) ok_X6_entryOf q858 rfl hl.1 rfl (Nat.le_of_ble_eq_true rfl) ⟨Nat.le_of_ble_eq_true rfl, Nat.le_of_ble_eq_true rfl⟩ ⟨Nat.le_of_ble_eq_true rfl, Nat.le_of_ble_eq_true rfl⟩ dX6_whyNot_41) ?_
        refine lv_istore_n (lv' := [(3, .int z1), (2, .int (p1 / 1000)), (0, .ref a0), (1, .int p1)]) hx hb dX6_whyNot_44 rfl hl (by decide) rfl (fun ls hl => ?_)
        refine lv_iload_n hx hb dX6_whyNot_45 rfl (lv_at hl 0 rfl) ?_
        refine lv_iconst (v := (-1)) hx hb dX6_whyNot_46 (by decide) ?_
        refine lv_icmp_eq (tgt := 60) hx hb dX6_whyNot_47 (by decide) (fun hc => ?_) (fun hc => ?_)
        · rw [if_pos hc] at hf
          exact k_X6_whyNot_60 E a0 r x hf hP _ (lv_sub hl [] rfl)
        · rw [if_neg hc] at hf
          refine lv_aload_n hx hb dX6_whyNot_50 rfl (lv_at hl 2 rfl) ?_
          refine lv_iload_n hx hb dX6_whyNot_51 rfl (lv_at hl 0 rfl) ?_
          refine lv_iconst (v := 0) hx hb dX6_whyNot_52 (by decide) ?_
          obtain ⟨z2, h, hf⟩ := bd_s hf
          refine x_ci (x_rS E (As := [.ref a0, .int z1, .int 0]) (rest := []) (mt_X6_of l D I J O a0 z1 0 x z2 h) blR (x_pcR E hP) ok_X6_of q864 rfl hl.1 rfl (Nat.le_of_ble_eq_true rfl) ⟨Nat.le_of_ble_eq_true rfl, Nat.le_of_ble_eq_true rfl⟩ ⟨Nat.le_of_ble_eq_true rfl, Nat.le_of_ble_eq_true rfl⟩ dX6_whyNot_53) ?_
          refine lv_iload_n hx hb dX6_whyNot_56 rfl (lv_at hl 1 rfl) ?_
          refine lv_icmp_eq (tgt := 64) hx hb dX6_whyNot_57 (by decide) (fun hc => ?_) (fun hc => ?_)
          · rw [if_pos hc] at hf
            refine lv_iconst (v := 0) hx hb dX6_whyNot_64 (by decide) ?_
            exact x_iR E (Option.some.inj hf) dX6_whyNot_65
          · rw [if_neg hc] at hf
            exact k_X6_whyNot_60 E a0 r x hf hP _ (lv_sub hl [] rfl)
      · rw [if_neg hc] at hf
        refine lv_iconst (v := 2) hx hb dX6_whyNot_37 (by decide) ?_
        exact x_iR E (Option.some.inj hf) dX6_whyNot_38
    · rw [if_neg hc] at hf
      refine lv_iconst (v := 1) hx hb dX6_whyNot_15 (by decide) ?_
      exact x_iR E (Option.some.inj hf) dX6_whyNot_16
theorem ok_X6_isNew : yS yX6_isNew cX6_isNew 3 (some .boolean) 3 := ⟨q845, q7, q844, by decide +kernel, by decide +kernel, by decide +kernel⟩
set_option maxRecDepth 100000 in
set_option maxHeartbeats 4000000 in
theorem mt_X6_isNew (l : Launch) (D : va_G) (I J O : ClassId) (p0 : Int32) (p1 : Int32) (p2 : Int32)  (r : Int32) (hf : f_X6_isNew p0 p1 p2 = some r) : mR l yX6_isNew cX6_isNew 3 (some .boolean) 1 22 D I J O [.int p0, .int p1, .int p2] ([]) (qRi r) := by
  refine mR_open (own := RX6) rfl (by decide +kernel) (Nat.le_of_ble_eq_true rfl) (fun p e s m below meth c ls E hP hl => ?_)
  have hx := E.1
  have hb := E.2.1
  have hl : lv_has ls 3 [(0, .int p0), (1, .int p1), (2, .int p2)] := hl
  unfold f_X6_isNew at hf
  refine lv_iload_n hx hb dX6_isNew_0 rfl (lv_at hl 0 rfl) ?_
  refine lv_iconst (v := 0) hx hb dX6_isNew_1 (by decide) ?_
  refine lv_sipush (v := 999) hx hb dX6_isNew_2 (by decide) ?_
  obtain ⟨z1, h, hf⟩ := bd_s hf
  refine x_ci (x_rS E (As := [.int p0, .int 0, .int 999]) (rest := []) (mt_X6_in l D I J O p0 0 999 z1 h) blR (x_pcR E x_none) ok_X6_in q846 rfl hl.1 rfl (Nat.le_of_ble_eq_true rfl) ⟨Nat.le_of_ble_eq_true rfl, Nat.le_of_ble_eq_true rfl⟩ ⟨Nat.le_of_ble_eq_true rfl, Nat.le_of_ble_eq_true rfl⟩ dX6_isNew_5) ?_
  refine lv_if_eq (tgt := 33) hx hb dX6_isNew_8 (by decide) (fun hc => ?_) (fun hc => ?_)
  · rw [if_pos hc] at hf
    refine lv_iconst (v := 0) hx hb dX6_isNew_33 (by decide) ?_
    exact x_zR E (Or.inl rfl) (Option.some.inj hf) dX6_isNew_34
  · rw [if_neg hc] at hf
    refine lv_iload_n hx hb dX6_isNew_11 rfl (lv_at hl 1 rfl) ?_
    refine lv_iconst (v := 1) hx hb dX6_isNew_12 (by decide) ?_
    refine lv_iconst (v := 4) hx hb dX6_isNew_13 (by decide) ?_
    obtain ⟨z2, h, hf⟩ := bd_s hf
    refine x_ci (x_rS E (As := [.int p1, .int 1, .int 4]) (rest := []) (mt_X6_in l D I J O p1 1 4 z2 h) blR (x_pcR E x_none) ok_X6_in q846 rfl hl.1 rfl (Nat.le_of_ble_eq_true rfl) ⟨Nat.le_of_ble_eq_true rfl, Nat.le_of_ble_eq_true rfl⟩ ⟨Nat.le_of_ble_eq_true rfl, Nat.le_of_ble_eq_true rfl⟩ dX6_isNew_14) ?_
    refine lv_if_eq (tgt := 33) hx hb dX6_isNew_17 (by decide) (fun hc => ?_) (fun hc => ?_)
    · rw [if_pos hc] at hf
      refine lv_iconst (v := 0) hx hb dX6_isNew_33 (by decide) ?_
      exact x_zR E (Or.inl rfl) (Option.some.inj hf) dX6_isNew_34
    · rw [if_neg hc] at hf
      refine lv_iload_n hx hb dX6_isNew_20 rfl (lv_at hl 2 rfl) ?_
      refine lv_iconst (v := 0) hx hb dX6_isNew_21 (by decide) ?_
      refine lv_iconst (v := 2) hx hb dX6_isNew_22 (by decide) ?_
      obtain ⟨z3, h, hf⟩ := bd_s hf
      refine x_ci (x_rS E (As := [.int p2, .int 0, .int 2]) (rest := []) (mt_X6_in l D I J O p2 0 2 z3 h) blR (x_pcR E x_none) ok_X6_in q846 rfl hl.1 rfl (Nat.le_of_ble_eq_true rfl) ⟨Nat.le_of_ble_eq_true rfl, Nat.le_of_ble_eq_true rfl⟩ ⟨Nat.le_of_ble_eq_true rfl, Nat.le_of_ble_eq_true rfl⟩ dX6_isNew_23) ?_
      refine lv_if_eq (tgt := 33) hx hb dX6_isNew_26 (by decide) (fun hc => ?_) (fun hc => ?_)
      · rw [if_pos hc] at hf
        refine lv_iconst (v := 0) hx hb dX6_isNew_33 (by decide) ?_
        exact x_zR E (Or.inl rfl) (Option.some.inj hf) dX6_isNew_34
      · rw [if_neg hc] at hf
        refine lv_iconst (v := 1) hx hb dX6_isNew_29 (by decide) ?_
        refine lv_goto (tgt := 34) hx hb dX6_isNew_30 (by decide) ?_
        exact x_zR E (Or.inr rfl) (Option.some.inj hf) dX6_isNew_34
theorem ok_X6_put : yV yX6_put cX6_put 6 (some .int) 3 := ⟨q842, q7, q840, q841, by decide +kernel, by decide +kernel, by decide +kernel⟩
set_option maxRecDepth 100000 in
set_option maxHeartbeats 4000000 in
theorem k_X6_put_31 {p : Program} {l : Launch} {e : Env} {s : State} {m : MethodId} {args : Array Value} {below : List Frame} {meth : Method} {c : Code} {D : va_G} {I J O : ClassId} (E : fx p s m args meth c cX6_put RX6 6 (some .int) D I J O) (a0 a1 a2 a3 a4 a5 : Nat)  {ws0 : va_W} {sz : Nat} (r : Int32) (y0 : MdC) : ∀ (v1 : Int32) (v2 : Int32) (v3 : Int32) (t1 : Int32) (x : MdC), f_X6_put_31 v1 v2 v3 t1 x = some (r, y0) → ∀ (H : Heap) (locs : List Loc), fy D (va_A ws0 sz) s.heap H locs (wMd I a0 a1 a2 a3 a4 a5 x) → ∀ ls : Array Slot, lv_has ls 6 [(0, .ref a0), (1, .int v1), (2, .int v2), (3, .int v3)] → W p l e (rmB 7 161 0 0) s m args below meth c H locs 0 0 (MQ below (qMi D sz ws0 r (fun _ : Unit => wMd I a0 a1 a2 a3 a4 a5 y0)) args s 0 0 (va_A ws0 sz)) (F0 m 31 ls [.int t1, .ref a0]) := by
  have hx := E.1
  have hb := E.2.1
  intro v1 v2 v3 t1 x hf H locs hw ls hl
  unfold f_X6_put_31 at hf
  obtain ⟨z3, h, hf⟩ := bd_s hf
  refine x_mi0 hw [0, 1, 2, 3, 4, 5] rfl rfl (x_rV E (As := [.int t1]) (rest := []) (mt_X6_refuses l D I J O a0 a1 a2 a3 a4 a5 H.size t1 x z3.1 z3.2 h) blM (x_recv E hw.1 0 6 rfl rfl rfl) (x_pcMQ0 E hw [0, 1, 2, 3, 4, 5] rfl rfl) ok_X6_refuses q867 rfl hl.1 rfl (Nat.le_of_ble_eq_true rfl) ⟨Nat.le_of_ble_eq_true rfl, Nat.le_of_ble_eq_true rfl⟩ ⟨Nat.le_of_ble_eq_true rfl, Nat.le_of_ble_eq_true rfl⟩ dX6_put_31) (fun _ => rfl) (fun _ H locs hw => ?_)
  have hw : fy D (va_A ws0 sz) s.heap H locs (wMd I a0 a1 a2 a3 a4 a5 z3.2) := hw
  refine lv_if_eq (tgt := 39) hx hb dX6_put_34 (by decide) (fun hc => ?_) (fun hc => ?_)
  · rw [if_pos hc] at hf
    refine lv_aload_n hx hb dX6_put_39 rfl (lv_at hl 0 rfl) ?_
    obtain ⟨z4, h, hf⟩ := bd_s hf
    refine x_mv0 hw [0, 1, 2, 3, 4, 5] rfl rfl (x_rV E (As := []) (rest := []) (mt_X6_saves l D I J O a0 a1 a2 a3 a4 a5 H.size z3.2 z4 h) blM (x_recv E hw.1 0 6 rfl rfl rfl) (x_pcMQ0 E hw [0, 1, 2, 3, 4, 5] rfl rfl) ok_X6_saves q871 rfl hl.1 rfl (Nat.le_of_ble_eq_true rfl) ⟨Nat.le_of_ble_eq_true rfl, Nat.le_of_ble_eq_true rfl⟩ ⟨Nat.le_of_ble_eq_true rfl, Nat.le_of_ble_eq_true rfl⟩ dX6_put_40) (fun _ => rfl) (fun _ H locs hw => ?_)
    have hw : fy D (va_A ws0 sz) s.heap H locs (wMd I a0 a1 a2 a3 a4 a5 z4) := hw
    refine lv_aload_n hx hb dX6_put_43 rfl (lv_at hl 0 rfl) ?_
    refine x_get E hw.1 0 rfl rfl in6 1 (by decide) q802 rfl rfl dX6_put_44 ?_
    refine lv_iconst (v := 1) hx hb dX6_put_47 (by decide) ?_
    obtain ⟨g, hf⟩ := gi_s hf
    refine x_ald E hw.1 1 rfl g dX6_put_48 ?_
    refine lv_istore (lv' := [(4, .int (z4.2.1 (1 : Int32).toNatClampNeg)), (0, .ref a0), (1, .int v1), (2, .int v2), (3, .int v3)]) hx hb dX6_put_49 hl (by decide) rfl (fun ls hl => ?_)
    refine lv_aload_n hx hb dX6_put_51 rfl (lv_at hl 1 rfl) ?_
    refine x_get E hw.1 0 rfl rfl in6 1 (by decide) q802 rfl rfl dX6_put_52 ?_
    refine lv_iload hx hb dX6_put_55 (lv_at hl 0 rfl) ?_
    refine lv_iload_n hx hb dX6_put_57 rfl (lv_at hl 2 rfl) ?_
    refine lv_iload_n hx hb dX6_put_58 rfl (lv_at hl 3 rfl) ?_
    refine lv_iload_n hx hb dX6_put_59 rfl (lv_at hl 4 rfl) ?_
    obtain ⟨z5, h, hf⟩ := bd_s hf
    refine x_mi0 hw [1] rfl rfl (x_rS E (As := [.ref a1, .int (z4.2.1 (1 : Int32).toNatClampNeg), .int v1, .int v2, .int v3]) (rest := []) (mt_X6_comes l D I J O a1 H.size (z4.2.1 (1 : Int32).toNatClampNeg) v1 v2 v3 z4.2.1 z5.1 z5.2 h) blM (x_pcMQ0 E hw [1] rfl rfl) ok_X6_comes q878 rfl hl.1 rfl (Nat.le_of_ble_eq_true rfl) ⟨Nat.le_of_ble_eq_true rfl, Nat.le_of_ble_eq_true rfl⟩ ⟨Nat.le_of_ble_eq_true rfl, Nat.le_of_ble_eq_true rfl⟩ dX6_put_60) (fun _ => rfl) (fun _ H locs hw => ?_)
    have hw : fy D (va_A ws0 sz) s.heap H locs (wMd I a0 a1 a2 a3 a4 a5 (z4.1, z5.2, z4.2.2)) := hw
    refine lv_istore (lv' := [(5, .int z5.1), (4, .int (z4.2.1 (1 : Int32).toNatClampNeg)), (0, .ref a0), (1, .int v1), (2, .int v2), (3, .int v3)]) hx hb dX6_put_63 hl (by decide) rfl (fun ls hl => ?_)
    refine lv_sipush (v := 1000) hx hb dX6_put_65 (by decide) ?_
    refine lv_iload hx hb dX6_put_68 (lv_at hl 0 rfl) ?_
    refine lv_imul hx hb dX6_put_70 ?_
    refine lv_aload_n hx hb dX6_put_71 rfl (lv_at hl 2 rfl) ?_
    refine x_get E hw.1 0 rfl rfl in6 1 (by decide) q802 rfl rfl dX6_put_72 ?_
    refine lv_bipush (v := 6) hx hb dX6_put_75 (by decide) ?_
    refine lv_iload hx hb dX6_put_77 (lv_at hl 0 rfl) ?_
    refine lv_iadd hx hb dX6_put_79 ?_
    obtain ⟨g, hf⟩ := gi_s hf
    refine x_ald E hw.1 1 rfl g dX6_put_80 ?_
    refine lv_iadd hx hb dX6_put_81 ?_
    obtain ⟨he0, hr⟩ := Prod.mk.inj (Option.some.inj hf)
    have he1 := hr
    subst he1
    exact x_iM E () hw he0 dX6_put_82
  · rw [if_neg hc] at hf
    refine lv_iconst (v := 0) hx hb dX6_put_37 (by decide) ?_
    obtain ⟨he0, hr⟩ := Prod.mk.inj (Option.some.inj hf)
    have he1 := hr
    subst he1
    exact x_iM E () hw he0 dX6_put_38
set_option maxRecDepth 100000 in
set_option maxHeartbeats 4000000 in
theorem mt_X6_put (l : Launch) (D : va_G) (I J O : ClassId) (a0 a1 a2 a3 a4 a5 : Nat) (sz : Nat) (p0 : Int32) (p1 : Int32) (p2 : Int32) (x : MdC) (r : Int32) (y0 : MdC) (hf : f_X6_put p0 p1 p2 x = some (r, y0)) : mM l yX6_put cX6_put 6 (some .int) 7 161 0 0 D I J O sz [.ref a0, .int p0, .int p1, .int p2] (wMd I a0 a1 a2 a3 a4 a5 x) (qMi D sz (wMd I a0 a1 a2 a3 a4 a5 x) r (fun _ : Unit => wMd I a0 a1 a2 a3 a4 a5 y0)) := by
  refine mM_open (own := RX6) rfl (by decide +kernel) (Nat.le_of_ble_eq_true rfl) (fun p e s m below meth c ls E hnm hsz hw hl => ?_)
  obtain ⟨ws0, hws⟩ : ∃ ws0 : va_W, ws0 = wMd I a0 a1 a2 a3 a4 a5 x := ⟨_, rfl⟩
  have hw : fy D (va_A ws0 sz) s.heap s.heap [] (wMd I a0 a1 a2 a3 a4 a5 x) := by rw [hws]; exact hw
  rw [← hws]
  have hx := E.1
  have hb := E.2.1
  have hl : lv_has ls 6 [(0, .ref a0), (1, .int p0), (2, .int p1), (3, .int p2)] := hl
  unfold f_X6_put at hf
  refine lv_aload_n hx hb dX6_put_0 rfl (lv_at hl 0 rfl) ?_
  refine lv_iload_n hx hb dX6_put_1 rfl (lv_at hl 1 rfl) ?_
  refine lv_iload_n hx hb dX6_put_2 rfl (lv_at hl 2 rfl) ?_
  refine lv_iload_n hx hb dX6_put_3 rfl (lv_at hl 3 rfl) ?_
  obtain ⟨z1, h, hf⟩ := bd_s hf
  refine x_ci (x_rS E (As := [.int p0, .int p1, .int p2]) (rest := [.ref a0]) (mt_X6_isNew l D I J O p0 p1 p2 z1 h) blR (x_pcR E x_none) ok_X6_isNew q843 rfl hl.1 rfl (Nat.le_of_ble_eq_true rfl) ⟨Nat.le_of_ble_eq_true rfl, Nat.le_of_ble_eq_true rfl⟩ ⟨Nat.le_of_ble_eq_true rfl, Nat.le_of_ble_eq_true rfl⟩ dX6_put_4) ?_
  refine lv_if_ne (tgt := 14) hx hb dX6_put_7 (by decide) (fun hc => ?_) (fun hc => ?_)
  · rw [if_neg hc] at hf
    refine lv_aload_n hx hb dX6_put_14 rfl (lv_at hl 0 rfl) ?_
    refine x_get E hw.1 0 rfl rfl in6 1 (by decide) q802 rfl rfl dX6_put_15 ?_
    refine lv_iload_n hx hb dX6_put_18 rfl (lv_at hl 2 rfl) ?_
    obtain ⟨z2, h, hf⟩ := bd_s hf
    refine x_ci (x_rS E (As := [.ref a1, .int p1]) (rest := [.ref a0]) (mt_X6_cellsFor l D I J O a1 p1 x.2.1 z2 h) blR (x_pcR E (x_pick0 hw.1 [1] rfl)) ok_X6_cellsFor q849 rfl hl.1 rfl (Nat.le_of_ble_eq_true rfl) ⟨Nat.le_of_ble_eq_true rfl, Nat.le_of_ble_eq_true rfl⟩ ⟨Nat.le_of_ble_eq_true rfl, Nat.le_of_ble_eq_true rfl⟩ dX6_put_19) ?_
    refine lv_iconst (v := (-1)) hx hb dX6_put_22 (by decide) ?_
    refine lv_icmp_ne (tgt := 30) hx hb dX6_put_23 (by decide) (fun hc => ?_) (fun hc => ?_)
    · rw [if_neg hc] at hf
      refine lv_iconst (v := 0) hx hb dX6_put_30 (by decide) ?_
      exact k_X6_put_31 E a0 a1 a2 a3 a4 a5 r y0 p0 p1 p2 0 x hf _ _ hw _ (lv_sub hl [0, 1, 2, 3] rfl)
    · rw [if_pos hc] at hf
      refine lv_iconst (v := 2) hx hb dX6_put_26 (by decide) ?_
      refine lv_goto (tgt := 31) hx hb dX6_put_27 (by decide) ?_
      exact k_X6_put_31 E a0 a1 a2 a3 a4 a5 r y0 p0 p1 p2 2 x hf _ _ hw _ (lv_sub hl [0, 1, 2, 3] rfl)
  · rw [if_pos hc] at hf
    refine lv_iconst (v := 1) hx hb dX6_put_10 (by decide) ?_
    refine lv_goto (tgt := 31) hx hb dX6_put_11 (by decide) ?_
    exact k_X6_put_31 E a0 a1 a2 a3 a4 a5 r y0 p0 p1 p2 1 x hf _ _ hw _ (lv_sub hl [0, 1, 2, 3] rfl)
theorem ok_X6_putBehind : yV yX6_putBehind cX6_putBehind 6 (some .int) 4 := ⟨q884, q7, q882, q883, by decide +kernel, by decide +kernel, by decide +kernel⟩
set_option maxRecDepth 100000 in
set_option maxHeartbeats 4000000 in
theorem k_X6_putBehind_47 {p : Program} {l : Launch} {e : Env} {s : State} {m : MethodId} {args : Array Value} {below : List Frame} {meth : Method} {c : Code} {D : va_G} {I J O : ClassId} (E : fx p s m args meth c cX6_putBehind RX6 6 (some .int) D I J O) (a0 a1 a2 a3 a4 a5 : Nat)  {ws0 : va_W} {sz : Nat} (r : Int32) (y0 : MdC) : ∀ (v1 : Int32) (v2 : Int32) (v3 : Int32) (v4 : Int32) (t1 : Int32) (x : MdC), f_X6_putBehind_47 v1 v2 v3 v4 t1 x = some (r, y0) → ∀ (H : Heap) (locs : List Loc), fy D (va_A ws0 sz) s.heap H locs (wMd I a0 a1 a2 a3 a4 a5 x) → ∀ ls : Array Slot, lv_has ls 6 [(0, .ref a0), (1, .int v1), (2, .int v2), (3, .int v3), (4, .int v4)] → W p l e (rmB 7 161 0 0) s m args below meth c H locs 0 0 (MQ below (qMi D sz ws0 r (fun _ : Unit => wMd I a0 a1 a2 a3 a4 a5 y0)) args s 0 0 (va_A ws0 sz)) (F0 m 47 ls [.int t1, .ref a0]) := by
  have hx := E.1
  have hb := E.2.1
  intro v1 v2 v3 v4 t1 x hf H locs hw ls hl
  unfold f_X6_putBehind_47 at hf
  obtain ⟨z4, h, hf⟩ := bd_s hf
  refine x_mi0 hw [0, 1, 2, 3, 4, 5] rfl rfl (x_rV E (As := [.int t1]) (rest := []) (mt_X6_refuses l D I J O a0 a1 a2 a3 a4 a5 H.size t1 x z4.1 z4.2 h) blM (x_recv E hw.1 0 6 rfl rfl rfl) (x_pcMQ0 E hw [0, 1, 2, 3, 4, 5] rfl rfl) ok_X6_refuses q867 rfl hl.1 rfl (Nat.le_of_ble_eq_true rfl) ⟨Nat.le_of_ble_eq_true rfl, Nat.le_of_ble_eq_true rfl⟩ ⟨Nat.le_of_ble_eq_true rfl, Nat.le_of_ble_eq_true rfl⟩ dX6_putBehind_47) (fun _ => rfl) (fun _ H locs hw => ?_)
  have hw : fy D (va_A ws0 sz) s.heap H locs (wMd I a0 a1 a2 a3 a4 a5 z4.2) := hw
  refine lv_if_eq (tgt := 55) hx hb dX6_putBehind_50 (by decide) (fun hc => ?_) (fun hc => ?_)
  · rw [if_pos hc] at hf
    refine lv_aload_n hx hb dX6_putBehind_55 rfl (lv_at hl 0 rfl) ?_
    obtain ⟨z5, h, hf⟩ := bd_s hf
    refine x_mv0 hw [0, 1, 2, 3, 4, 5] rfl rfl (x_rV E (As := []) (rest := []) (mt_X6_saves l D I J O a0 a1 a2 a3 a4 a5 H.size z4.2 z5 h) blM (x_recv E hw.1 0 6 rfl rfl rfl) (x_pcMQ0 E hw [0, 1, 2, 3, 4, 5] rfl rfl) ok_X6_saves q871 rfl hl.1 rfl (Nat.le_of_ble_eq_true rfl) ⟨Nat.le_of_ble_eq_true rfl, Nat.le_of_ble_eq_true rfl⟩ ⟨Nat.le_of_ble_eq_true rfl, Nat.le_of_ble_eq_true rfl⟩ dX6_putBehind_56) (fun _ => rfl) (fun _ H locs hw => ?_)
    have hw : fy D (va_A ws0 sz) s.heap H locs (wMd I a0 a1 a2 a3 a4 a5 z5) := hw
    refine lv_aload_n hx hb dX6_putBehind_59 rfl (lv_at hl 0 rfl) ?_
    refine x_get E hw.1 0 rfl rfl in6 1 (by decide) q802 rfl rfl dX6_putBehind_60 ?_
    refine lv_aload_n hx hb dX6_putBehind_63 rfl (lv_at hl 0 rfl) ?_
    refine x_get E hw.1 0 rfl rfl in6 1 (by decide) q802 rfl rfl dX6_putBehind_64 ?_
    refine lv_iload_n hx hb dX6_putBehind_67 rfl (lv_at hl 1 rfl) ?_
    refine lv_sipush (v := 1000) hx hb dX6_putBehind_68 (by decide) ?_
    refine lv_idiv hx hb dX6_putBehind_71 (by decide) ?_
    obtain ⟨z6, h, hf⟩ := bd_s hf
    refine x_ci (x_rS E (As := [.ref a1, .int (v1 / 1000)]) (rest := [.ref a1]) (mt_X6_entryOf l D I J O a1 (v1 / 1000) z5.2.1 z6 h) blR (x_pcR E (x_pick0 hw.1 [1] rfl)) ok_X6_entryOf q858 rfl hl.1 rfl (Nat.le_of_ble_eq_true rfl) ⟨Nat.le_of_ble_eq_true rfl, Nat.le_of_ble_eq_true rfl⟩ ⟨Nat.le_of_ble_eq_true rfl, Nat.le_of_ble_eq_true rfl⟩ dX6_putBehind_72) ?_
    refine lv_iconst (v := 1) hx hb dX6_putBehind_75 (by decide) ?_
    refine lv_iadd hx hb dX6_putBehind_76 ?_
    refine lv_iload_n hx hb dX6_putBehind_77 rfl (lv_at hl 2 rfl) ?_
    refine lv_iload_n hx hb dX6_putBehind_78 rfl (lv_at hl 3 rfl) ?_
    refine lv_iload hx hb dX6_putBehind_79 (lv_at hl 4 rfl) ?_
    obtain ⟨z7, h, hf⟩ := bd_s hf
    refine x_mi0 hw [1] rfl rfl (x_rS E (As := [.ref a1, .int (z6 + 1), .int v2, .int v3, .int v4]) (rest := []) (mt_X6_comes l D I J O a1 H.size (z6 + 1) v2 v3 v4 z5.2.1 z7.1 z7.2 h) blM (x_pcMQ0 E hw [1] rfl rfl) ok_X6_comes q878 rfl hl.1 rfl (Nat.le_of_ble_eq_true rfl) ⟨Nat.le_of_ble_eq_true rfl, Nat.le_of_ble_eq_true rfl⟩ ⟨Nat.le_of_ble_eq_true rfl, Nat.le_of_ble_eq_true rfl⟩ dX6_putBehind_81) (fun _ => rfl) (fun _ H locs hw => ?_)
    have hw : fy D (va_A ws0 sz) s.heap H locs (wMd I a0 a1 a2 a3 a4 a5 (z5.1, z7.2, z5.2.2)) := hw
    refine lv_istore (lv' := [(5, .int z7.1), (0, .ref a0), (1, .int v1), (2, .int v2), (3, .int v3), (4, .int v4)]) hx hb dX6_putBehind_84 hl (by decide) rfl (fun ls hl => ?_)
    refine lv_sipush (v := 1000) hx hb dX6_putBehind_86 (by decide) ?_
    refine lv_iload hx hb dX6_putBehind_89 (lv_at hl 0 rfl) ?_
    refine lv_imul hx hb dX6_putBehind_91 ?_
    refine lv_aload_n hx hb dX6_putBehind_92 rfl (lv_at hl 1 rfl) ?_
    refine x_get E hw.1 0 rfl rfl in6 1 (by decide) q802 rfl rfl dX6_putBehind_93 ?_
    refine lv_bipush (v := 6) hx hb dX6_putBehind_96 (by decide) ?_
    refine lv_iload hx hb dX6_putBehind_98 (lv_at hl 0 rfl) ?_
    refine lv_iadd hx hb dX6_putBehind_100 ?_
    obtain ⟨g, hf⟩ := gi_s hf
    refine x_ald E hw.1 1 rfl g dX6_putBehind_101 ?_
    refine lv_iadd hx hb dX6_putBehind_102 ?_
    obtain ⟨he0, hr⟩ := Prod.mk.inj (Option.some.inj hf)
    have he1 := hr
    subst he1
    exact x_iM E () hw he0 dX6_putBehind_103
  · rw [if_neg hc] at hf
    refine lv_iconst (v := 0) hx hb dX6_putBehind_53 (by decide) ?_
    obtain ⟨he0, hr⟩ := Prod.mk.inj (Option.some.inj hf)
    have he1 := hr
    subst he1
    exact x_iM E () hw he0 dX6_putBehind_54
set_option maxRecDepth 100000 in
set_option maxHeartbeats 4000000 in
theorem mt_X6_putBehind (l : Launch) (D : va_G) (I J O : ClassId) (a0 a1 a2 a3 a4 a5 : Nat) (sz : Nat) (p0 : Int32) (p1 : Int32) (p2 : Int32) (p3 : Int32) (x : MdC) (r : Int32) (y0 : MdC) (hf : f_X6_putBehind p0 p1 p2 p3 x = some (r, y0)) : mM l yX6_putBehind cX6_putBehind 6 (some .int) 7 161 0 0 D I J O sz [.ref a0, .int p0, .int p1, .int p2, .int p3] (wMd I a0 a1 a2 a3 a4 a5 x) (qMi D sz (wMd I a0 a1 a2 a3 a4 a5 x) r (fun _ : Unit => wMd I a0 a1 a2 a3 a4 a5 y0)) := by
  refine mM_open (own := RX6) rfl (by decide +kernel) (Nat.le_of_ble_eq_true rfl) (fun p e s m below meth c ls E hnm hsz hw hl => ?_)
  obtain ⟨ws0, hws⟩ : ∃ ws0 : va_W, ws0 = wMd I a0 a1 a2 a3 a4 a5 x := ⟨_, rfl⟩
  have hw : fy D (va_A ws0 sz) s.heap s.heap [] (wMd I a0 a1 a2 a3 a4 a5 x) := by rw [hws]; exact hw
  rw [← hws]
  have hx := E.1
  have hb := E.2.1
  have hl : lv_has ls 6 [(0, .ref a0), (1, .int p0), (2, .int p1), (3, .int p2), (4, .int p3)] := hl
  unfold f_X6_putBehind at hf
  refine lv_aload_n hx hb dX6_putBehind_0 rfl (lv_at hl 0 rfl) ?_
  refine lv_aload_n hx hb dX6_putBehind_1 rfl (lv_at hl 0 rfl) ?_
  refine x_get E hw.1 0 rfl rfl in6 1 (by decide) q802 rfl rfl dX6_putBehind_2 ?_
  refine lv_iload_n hx hb dX6_putBehind_5 rfl (lv_at hl 1 rfl) ?_
  obtain ⟨z1, h, hf⟩ := bd_s hf
  refine x_ci (x_rS E (As := [.ref a1, .int p0]) (rest := [.ref a0]) (mt_X6_whyNot l D I J O a1 p0 x.2.1 z1 h) blR (x_pcR E (x_pick0 hw.1 [1] rfl)) ok_X6_whyNot q885 rfl hl.1 rfl (Nat.le_of_ble_eq_true rfl) ⟨Nat.le_of_ble_eq_true rfl, Nat.le_of_ble_eq_true rfl⟩ ⟨Nat.le_of_ble_eq_true rfl, Nat.le_of_ble_eq_true rfl⟩ dX6_putBehind_6) ?_
  refine lv_if_eq (tgt := 16) hx hb dX6_putBehind_9 (by decide) (fun hc => ?_) (fun hc => ?_)
  · rw [if_pos hc] at hf
    refine lv_iload_n hx hb dX6_putBehind_16 rfl (lv_at hl 2 rfl) ?_
    refine lv_iload_n hx hb dX6_putBehind_17 rfl (lv_at hl 3 rfl) ?_
    refine lv_iload hx hb dX6_putBehind_18 (lv_at hl 4 rfl) ?_
    obtain ⟨z2, h, hf⟩ := bd_s hf
    refine x_ci (x_rS E (As := [.int p1, .int p2, .int p3]) (rest := [.ref a0]) (mt_X6_isNew l D I J O p1 p2 p3 z2 h) blR (x_pcR E x_none) ok_X6_isNew q843 rfl hl.1 rfl (Nat.le_of_ble_eq_true rfl) ⟨Nat.le_of_ble_eq_true rfl, Nat.le_of_ble_eq_true rfl⟩ ⟨Nat.le_of_ble_eq_true rfl, Nat.le_of_ble_eq_true rfl⟩ dX6_putBehind_20) ?_
    refine lv_if_ne (tgt := 30) hx hb dX6_putBehind_23 (by decide) (fun hc => ?_) (fun hc => ?_)
    · rw [if_neg hc] at hf
      refine lv_aload_n hx hb dX6_putBehind_30 rfl (lv_at hl 0 rfl) ?_
      refine x_get E hw.1 0 rfl rfl in6 1 (by decide) q802 rfl rfl dX6_putBehind_31 ?_
      refine lv_iload_n hx hb dX6_putBehind_34 rfl (lv_at hl 3 rfl) ?_
      obtain ⟨z3, h, hf⟩ := bd_s hf
      refine x_ci (x_rS E (As := [.ref a1, .int p2]) (rest := [.ref a0]) (mt_X6_cellsFor l D I J O a1 p2 x.2.1 z3 h) blR (x_pcR E (x_pick0 hw.1 [1] rfl)) ok_X6_cellsFor q849 rfl hl.1 rfl (Nat.le_of_ble_eq_true rfl) ⟨Nat.le_of_ble_eq_true rfl, Nat.le_of_ble_eq_true rfl⟩ ⟨Nat.le_of_ble_eq_true rfl, Nat.le_of_ble_eq_true rfl⟩ dX6_putBehind_35) ?_
      refine lv_iconst (v := (-1)) hx hb dX6_putBehind_38 (by decide) ?_
      refine lv_icmp_ne (tgt := 46) hx hb dX6_putBehind_39 (by decide) (fun hc => ?_) (fun hc => ?_)
      · rw [if_neg hc] at hf
        refine lv_iconst (v := 0) hx hb dX6_putBehind_46 (by decide) ?_
        exact k_X6_putBehind_47 E a0 a1 a2 a3 a4 a5 r y0 p0 p1 p2 p3 0 x hf _ _ hw _ (lv_sub hl [0, 1, 2, 3, 4] rfl)
      · rw [if_pos hc] at hf
        refine lv_iconst (v := 3) hx hb dX6_putBehind_42 (by decide) ?_
        refine lv_goto (tgt := 47) hx hb dX6_putBehind_43 (by decide) ?_
        exact k_X6_putBehind_47 E a0 a1 a2 a3 a4 a5 r y0 p0 p1 p2 p3 3 x hf _ _ hw _ (lv_sub hl [0, 1, 2, 3, 4] rfl)
    · rw [if_pos hc] at hf
      refine lv_iconst (v := 2) hx hb dX6_putBehind_26 (by decide) ?_
      refine lv_goto (tgt := 47) hx hb dX6_putBehind_27 (by decide) ?_
      exact k_X6_putBehind_47 E a0 a1 a2 a3 a4 a5 r y0 p0 p1 p2 p3 2 x hf _ _ hw _ (lv_sub hl [0, 1, 2, 3, 4] rfl)
  · rw [if_neg hc] at hf
    refine lv_iconst (v := 1) hx hb dX6_putBehind_12 (by decide) ?_
    refine lv_goto (tgt := 47) hx hb dX6_putBehind_13 (by decide) ?_
    exact k_X6_putBehind_47 E a0 a1 a2 a3 a4 a5 r y0 p0 p1 p2 p3 1 x hf _ _ hw _ (lv_sub hl [0, 1, 2, 3, 4] rfl)
theorem ok_X6_remove : yV yX6_remove cX6_remove 4 (some .int) 1 := ⟨q891, q7, q889, q890, by decide +kernel, by decide +kernel, by decide +kernel⟩
set_option maxRecDepth 100000 in
set_option maxHeartbeats 4000000 in
theorem k_X6_remove_17 {p : Program} {l : Launch} {e : Env} {s : State} {m : MethodId} {args : Array Value} {below : List Frame} {meth : Method} {c : Code} {D : va_G} {I J O : ClassId} (E : fx p s m args meth c cX6_remove RX6 4 (some .int) D I J O) (a0 a1 a2 a3 a4 a5 : Nat)  {ws0 : va_W} {sz : Nat} (r : Int32) (y0 : MdC) : ∀ (v1 : Int32) (t1 : Int32) (x : MdC), f_X6_remove_17 v1 t1 x = some (r, y0) → ∀ (H : Heap) (locs : List Loc), fy D (va_A ws0 sz) s.heap H locs (wMd I a0 a1 a2 a3 a4 a5 x) → ∀ ls : Array Slot, lv_has ls 4 [(0, .ref a0), (1, .int v1)] → W p l e (rmB 4 88 0 0) s m args below meth c H locs 0 0 (MQ below (qMi D sz ws0 r (fun _ : Unit => wMd I a0 a1 a2 a3 a4 a5 y0)) args s 0 0 (va_A ws0 sz)) (F0 m 17 ls [.int t1, .ref a0]) := by
  have hx := E.1
  have hb := E.2.1
  intro v1 t1 x hf H locs hw ls hl
  unfold f_X6_remove_17 at hf
  obtain ⟨z2, h, hf⟩ := bd_s hf
  refine x_mi0 hw [0, 1, 2, 3, 4, 5] rfl rfl (x_rV E (As := [.int t1]) (rest := []) (mt_X6_refuses l D I J O a0 a1 a2 a3 a4 a5 H.size t1 x z2.1 z2.2 h) blM (x_recv E hw.1 0 6 rfl rfl rfl) (x_pcMQ0 E hw [0, 1, 2, 3, 4, 5] rfl rfl) ok_X6_refuses q867 rfl hl.1 rfl (Nat.le_of_ble_eq_true rfl) ⟨Nat.le_of_ble_eq_true rfl, Nat.le_of_ble_eq_true rfl⟩ ⟨Nat.le_of_ble_eq_true rfl, Nat.le_of_ble_eq_true rfl⟩ dX6_remove_17) (fun _ => rfl) (fun _ H locs hw => ?_)
  have hw : fy D (va_A ws0 sz) s.heap H locs (wMd I a0 a1 a2 a3 a4 a5 z2.2) := hw
  refine lv_if_eq (tgt := 25) hx hb dX6_remove_20 (by decide) (fun hc => ?_) (fun hc => ?_)
  · rw [if_pos hc] at hf
    refine lv_aload_n hx hb dX6_remove_25 rfl (lv_at hl 0 rfl) ?_
    obtain ⟨z3, h, hf⟩ := bd_s hf
    refine x_mv0 hw [0, 1, 2, 3, 4, 5] rfl rfl (x_rV E (As := []) (rest := []) (mt_X6_saves l D I J O a0 a1 a2 a3 a4 a5 H.size z2.2 z3 h) blM (x_recv E hw.1 0 6 rfl rfl rfl) (x_pcMQ0 E hw [0, 1, 2, 3, 4, 5] rfl rfl) ok_X6_saves q871 rfl hl.1 rfl (Nat.le_of_ble_eq_true rfl) ⟨Nat.le_of_ble_eq_true rfl, Nat.le_of_ble_eq_true rfl⟩ ⟨Nat.le_of_ble_eq_true rfl, Nat.le_of_ble_eq_true rfl⟩ dX6_remove_26) (fun _ => rfl) (fun _ H locs hw => ?_)
    have hw : fy D (va_A ws0 sz) s.heap H locs (wMd I a0 a1 a2 a3 a4 a5 z3) := hw
    refine lv_aload_n hx hb dX6_remove_29 rfl (lv_at hl 0 rfl) ?_
    refine x_get E hw.1 0 rfl rfl in6 1 (by decide) q802 rfl rfl dX6_remove_30 ?_
    refine lv_iload_n hx hb dX6_remove_33 rfl (lv_at hl 1 rfl) ?_
    refine lv_sipush (v := 1000) hx hb dX6_remove_34 (by decide) ?_
    refine lv_idiv hx hb dX6_remove_37 (by decide) ?_
    obtain ⟨z4, h, hf⟩ := bd_s hf
    refine x_ci (x_rS E (As := [.ref a1, .int (v1 / 1000)]) (rest := []) (mt_X6_entryOf l D I J O a1 (v1 / 1000) z3.2.1 z4 h) blR (x_pcR E (x_pick0 hw.1 [1] rfl)) ok_X6_entryOf q858 rfl hl.1 rfl (Nat.le_of_ble_eq_true rfl) ⟨Nat.le_of_ble_eq_true rfl, Nat.le_of_ble_eq_true rfl⟩ ⟨Nat.le_of_ble_eq_true rfl, Nat.le_of_ble_eq_true rfl⟩ dX6_remove_38) ?_
    refine lv_istore_n (lv' := [(2, .int z4), (0, .ref a0), (1, .int v1)]) hx hb dX6_remove_41 rfl hl (by decide) rfl (fun ls hl => ?_)
    refine lv_aload_n hx hb dX6_remove_42 rfl (lv_at hl 1 rfl) ?_
    refine x_get E hw.1 0 rfl rfl in6 1 (by decide) q802 rfl rfl dX6_remove_43 ?_
    refine lv_iload_n hx hb dX6_remove_46 rfl (lv_at hl 0 rfl) ?_
    refine lv_iconst (v := 2) hx hb dX6_remove_47 (by decide) ?_
    obtain ⟨z5, h, hf⟩ := bd_s hf
    refine x_ci (x_rS E (As := [.ref a1, .int z4, .int 2]) (rest := []) (mt_X6_of l D I J O a1 z4 2 z3.2.1 z5 h) blR (x_pcR E (x_pick0 hw.1 [1] rfl)) ok_X6_of q864 rfl hl.1 rfl (Nat.le_of_ble_eq_true rfl) ⟨Nat.le_of_ble_eq_true rfl, Nat.le_of_ble_eq_true rfl⟩ ⟨Nat.le_of_ble_eq_true rfl, Nat.le_of_ble_eq_true rfl⟩ dX6_remove_48) ?_
    refine lv_istore_n (lv' := [(3, .int z5), (2, .int z4), (0, .ref a0), (1, .int v1)]) hx hb dX6_remove_51 rfl hl (by decide) rfl (fun ls hl => ?_)
    refine lv_aload_n hx hb dX6_remove_52 rfl (lv_at hl 2 rfl) ?_
    refine x_get E hw.1 0 rfl rfl in6 1 (by decide) q802 rfl rfl dX6_remove_53 ?_
    refine lv_iload_n hx hb dX6_remove_56 rfl (lv_at hl 1 rfl) ?_
    obtain ⟨z6, h, hf⟩ := bd_s hf
    refine x_mi0 hw [1] rfl rfl (x_rS E (As := [.ref a1, .int z4]) (rest := []) (mt_X6_removes l D I J O a1 H.size z4 z3.2.1 z6.1 z6.2 h) blM (x_pcMQ0 E hw [1] rfl rfl) ok_X6_removes q892 rfl hl.1 rfl (Nat.le_of_ble_eq_true rfl) ⟨Nat.le_of_ble_eq_true rfl, Nat.le_of_ble_eq_true rfl⟩ ⟨Nat.le_of_ble_eq_true rfl, Nat.le_of_ble_eq_true rfl⟩ dX6_remove_57) (fun _ => rfl) (fun _ H locs hw => ?_)
    have hw : fy D (va_A ws0 sz) s.heap H locs (wMd I a0 a1 a2 a3 a4 a5 (z3.1, z6.2, z3.2.2)) := hw
    refine lv_if_eq (tgt := 67) hx hb dX6_remove_60 (by decide) (fun hc => ?_) (fun hc => ?_)
    · rw [if_pos hc] at hf
      refine lv_iload_n hx hb dX6_remove_67 rfl (lv_at hl 0 rfl) ?_
      obtain ⟨he0, hr⟩ := Prod.mk.inj (Option.some.inj hf)
      have he1 := hr
      subst he1
      exact x_iM E () hw he0 dX6_remove_68
    · rw [if_neg hc] at hf
      refine lv_iload_n hx hb dX6_remove_63 rfl (lv_at hl 0 rfl) ?_
      refine lv_goto (tgt := 68) hx hb dX6_remove_64 (by decide) ?_
      obtain ⟨he0, hr⟩ := Prod.mk.inj (Option.some.inj hf)
      have he1 := hr
      subst he1
      exact x_iM E () hw he0 dX6_remove_68
  · rw [if_neg hc] at hf
    refine lv_iconst (v := 0) hx hb dX6_remove_23 (by decide) ?_
    obtain ⟨he0, hr⟩ := Prod.mk.inj (Option.some.inj hf)
    have he1 := hr
    subst he1
    exact x_iM E () hw he0 dX6_remove_24
set_option maxRecDepth 100000 in
set_option maxHeartbeats 4000000 in
theorem mt_X6_remove (l : Launch) (D : va_G) (I J O : ClassId) (a0 a1 a2 a3 a4 a5 : Nat) (sz : Nat) (p0 : Int32) (x : MdC) (r : Int32) (y0 : MdC) (hf : f_X6_remove p0 x = some (r, y0)) : mM l yX6_remove cX6_remove 4 (some .int) 4 88 0 0 D I J O sz [.ref a0, .int p0] (wMd I a0 a1 a2 a3 a4 a5 x) (qMi D sz (wMd I a0 a1 a2 a3 a4 a5 x) r (fun _ : Unit => wMd I a0 a1 a2 a3 a4 a5 y0)) := by
  refine mM_open (own := RX6) rfl (by decide +kernel) (Nat.le_of_ble_eq_true rfl) (fun p e s m below meth c ls E hnm hsz hw hl => ?_)
  obtain ⟨ws0, hws⟩ : ∃ ws0 : va_W, ws0 = wMd I a0 a1 a2 a3 a4 a5 x := ⟨_, rfl⟩
  have hw : fy D (va_A ws0 sz) s.heap s.heap [] (wMd I a0 a1 a2 a3 a4 a5 x) := by rw [hws]; exact hw
  rw [← hws]
  have hx := E.1
  have hb := E.2.1
  have hl : lv_has ls 4 [(0, .ref a0), (1, .int p0)] := hl
  unfold f_X6_remove at hf
  refine lv_aload_n hx hb dX6_remove_0 rfl (lv_at hl 0 rfl) ?_
  refine lv_aload_n hx hb dX6_remove_1 rfl (lv_at hl 0 rfl) ?_
  refine x_get E hw.1 0 rfl rfl in6 1 (by decide) q802 rfl rfl dX6_remove_2 ?_
  refine lv_iload_n hx hb dX6_remove_5 rfl (lv_at hl 1 rfl) ?_
  obtain ⟨z1, h, hf⟩ := bd_s hf
  refine x_ci (x_rS E (As := [.ref a1, .int p0]) (rest := [.ref a0]) (mt_X6_whyNot l D I J O a1 p0 x.2.1 z1 h) blR (x_pcR E (x_pick0 hw.1 [1] rfl)) ok_X6_whyNot q885 rfl hl.1 rfl (Nat.le_of_ble_eq_true rfl) ⟨Nat.le_of_ble_eq_true rfl, Nat.le_of_ble_eq_true rfl⟩ ⟨Nat.le_of_ble_eq_true rfl, Nat.le_of_ble_eq_true rfl⟩ dX6_remove_6) ?_
  refine lv_if_eq (tgt := 16) hx hb dX6_remove_9 (by decide) (fun hc => ?_) (fun hc => ?_)
  · rw [if_pos hc] at hf
    refine lv_iconst (v := 0) hx hb dX6_remove_16 (by decide) ?_
    exact k_X6_remove_17 E a0 a1 a2 a3 a4 a5 r y0 p0 0 x hf _ _ hw _ (lv_sub hl [0, 1] rfl)
  · rw [if_neg hc] at hf
    refine lv_iconst (v := 1) hx hb dX6_remove_12 (by decide) ?_
    refine lv_goto (tgt := 17) hx hb dX6_remove_13 (by decide) ?_
    exact k_X6_remove_17 E a0 a1 a2 a3 a4 a5 r y0 p0 1 x hf _ _ hw _ (lv_sub hl [0, 1] rfl)
theorem ok_X6_change : yV yX6_change cX6_change 5 (some .int) 2 := ⟨q907, q7, q905, q906, by decide +kernel, by decide +kernel, by decide +kernel⟩
set_option maxRecDepth 100000 in
set_option maxHeartbeats 4000000 in
theorem k_X6_change_32 {p : Program} {l : Launch} {e : Env} {s : State} {m : MethodId} {args : Array Value} {below : List Frame} {meth : Method} {c : Code} {D : va_G} {I J O : ClassId} (E : fx p s m args meth c cX6_change RX6 5 (some .int) D I J O) (a0 a1 a2 a3 a4 a5 : Nat)  {ws0 : va_W} {sz : Nat} (r : Int32) (y0 : MdC) : ∀ (v1 : Int32) (v2 : Int32) (t1 : Int32) (x : MdC), f_X6_change_32 v1 v2 t1 x = some (r, y0) → ∀ (H : Heap) (locs : List Loc), fy D (va_A ws0 sz) s.heap H locs (wMd I a0 a1 a2 a3 a4 a5 x) → ∀ ls : Array Slot, lv_has ls 5 [(0, .ref a0), (1, .int v1), (2, .int v2)] → W p l e (rmB 4 88 0 0) s m args below meth c H locs 0 0 (MQ below (qMi D sz ws0 r (fun _ : Unit => wMd I a0 a1 a2 a3 a4 a5 y0)) args s 0 0 (va_A ws0 sz)) (F0 m 32 ls [.int t1, .ref a0]) := by
  have hx := E.1
  have hb := E.2.1
  intro v1 v2 t1 x hf H locs hw ls hl
  unfold f_X6_change_32 at hf
  obtain ⟨z3, h, hf⟩ := bd_s hf
  refine x_mi0 hw [0, 1, 2, 3, 4, 5] rfl rfl (x_rV E (As := [.int t1]) (rest := []) (mt_X6_refuses l D I J O a0 a1 a2 a3 a4 a5 H.size t1 x z3.1 z3.2 h) blM (x_recv E hw.1 0 6 rfl rfl rfl) (x_pcMQ0 E hw [0, 1, 2, 3, 4, 5] rfl rfl) ok_X6_refuses q867 rfl hl.1 rfl (Nat.le_of_ble_eq_true rfl) ⟨Nat.le_of_ble_eq_true rfl, Nat.le_of_ble_eq_true rfl⟩ ⟨Nat.le_of_ble_eq_true rfl, Nat.le_of_ble_eq_true rfl⟩ dX6_change_32) (fun _ => rfl) (fun _ H locs hw => ?_)
  have hw : fy D (va_A ws0 sz) s.heap H locs (wMd I a0 a1 a2 a3 a4 a5 z3.2) := hw
  refine lv_if_eq (tgt := 40) hx hb dX6_change_35 (by decide) (fun hc => ?_) (fun hc => ?_)
  · rw [if_pos hc] at hf
    refine lv_aload_n hx hb dX6_change_40 rfl (lv_at hl 0 rfl) ?_
    obtain ⟨z4, h, hf⟩ := bd_s hf
    refine x_mv0 hw [0, 1, 2, 3, 4, 5] rfl rfl (x_rV E (As := []) (rest := []) (mt_X6_saves l D I J O a0 a1 a2 a3 a4 a5 H.size z3.2 z4 h) blM (x_recv E hw.1 0 6 rfl rfl rfl) (x_pcMQ0 E hw [0, 1, 2, 3, 4, 5] rfl rfl) ok_X6_saves q871 rfl hl.1 rfl (Nat.le_of_ble_eq_true rfl) ⟨Nat.le_of_ble_eq_true rfl, Nat.le_of_ble_eq_true rfl⟩ ⟨Nat.le_of_ble_eq_true rfl, Nat.le_of_ble_eq_true rfl⟩ dX6_change_41) (fun _ => rfl) (fun _ H locs hw => ?_)
    have hw : fy D (va_A ws0 sz) s.heap H locs (wMd I a0 a1 a2 a3 a4 a5 z4) := hw
    refine lv_bipush (v := 70) hx hb dX6_change_44 (by decide) ?_
    refine lv_iconst (v := 5) hx hb dX6_change_46 (by decide) ?_
    refine lv_aload_n hx hb dX6_change_47 rfl (lv_at hl 0 rfl) ?_
    refine x_get E hw.1 0 rfl rfl in6 1 (by decide) q802 rfl rfl dX6_change_48 ?_
    refine lv_iload_n hx hb dX6_change_51 rfl (lv_at hl 1 rfl) ?_
    refine lv_sipush (v := 1000) hx hb dX6_change_52 (by decide) ?_
    refine lv_idiv hx hb dX6_change_55 (by decide) ?_
    obtain ⟨z5, h, hf⟩ := bd_s hf
    refine x_ci (x_rS E (As := [.ref a1, .int (v1 / 1000)]) (rest := [.int 5, .int 70]) (mt_X6_entryOf l D I J O a1 (v1 / 1000) z4.2.1 z5 h) blR (x_pcR E (x_pick0 hw.1 [1] rfl)) ok_X6_entryOf q858 rfl hl.1 rfl (Nat.le_of_ble_eq_true rfl) ⟨Nat.le_of_ble_eq_true rfl, Nat.le_of_ble_eq_true rfl⟩ ⟨Nat.le_of_ble_eq_true rfl, Nat.le_of_ble_eq_true rfl⟩ dX6_change_56) ?_
    refine lv_imul hx hb dX6_change_59 ?_
    refine lv_iadd hx hb dX6_change_60 ?_
    refine lv_iconst (v := 2) hx hb dX6_change_61 (by decide) ?_
    refine lv_iadd hx hb dX6_change_62 ?_
    refine lv_istore_n (lv' := [(3, .int ((70 + (5 * z5)) + 2)), (0, .ref a0), (1, .int v1), (2, .int v2)]) hx hb dX6_change_63 rfl hl (by decide) rfl (fun ls hl => ?_)
    refine lv_aload_n hx hb dX6_change_64 rfl (lv_at hl 1 rfl) ?_
    refine x_get E hw.1 0 rfl rfl in6 1 (by decide) q802 rfl rfl dX6_change_65 ?_
    refine lv_iload_n hx hb dX6_change_68 rfl (lv_at hl 0 rfl) ?_
    obtain ⟨g, hf⟩ := gi_s hf
    refine x_ald E hw.1 1 rfl g dX6_change_69 ?_
    refine lv_istore (lv' := [(4, .int (z4.2.1 ((70 + (5 * z5)) + 2).toNatClampNeg)), (3, .int ((70 + (5 * z5)) + 2)), (0, .ref a0), (1, .int v1), (2, .int v2)]) hx hb dX6_change_70 hl (by decide) rfl (fun ls hl => ?_)
    refine lv_aload_n hx hb dX6_change_72 rfl (lv_at hl 2 rfl) ?_
    refine x_get E hw.1 0 rfl rfl in6 1 (by decide) q802 rfl rfl dX6_change_73 ?_
    refine lv_iload_n hx hb dX6_change_76 rfl (lv_at hl 1 rfl) ?_
    refine lv_iload_n hx hb dX6_change_77 rfl (lv_at hl 4 rfl) ?_
    obtain ⟨g, hf⟩ := gi_s hf
    refine x_ast E hw 1 rfl g dX6_change_78 (fun H locs hw => ?_)
    have hw : fy D (va_A ws0 sz) s.heap H locs (wMd I a0 a1 a2 a3 a4 a5 (z4.1, (upd z4.2.1 ((70 + (5 * z5)) + 2).toNatClampNeg v2), z4.2.2)) := hw
    refine lv_iload hx hb dX6_change_79 (lv_at hl 0 rfl) ?_
    obtain ⟨he0, hr⟩ := Prod.mk.inj (Option.some.inj hf)
    have he1 := hr
    subst he1
    exact x_iM E () hw he0 dX6_change_81
  · rw [if_neg hc] at hf
    refine lv_iconst (v := 0) hx hb dX6_change_38 (by decide) ?_
    obtain ⟨he0, hr⟩ := Prod.mk.inj (Option.some.inj hf)
    have he1 := hr
    subst he1
    exact x_iM E () hw he0 dX6_change_39
set_option maxRecDepth 100000 in
set_option maxHeartbeats 4000000 in
theorem mt_X6_change (l : Launch) (D : va_G) (I J O : ClassId) (a0 a1 a2 a3 a4 a5 : Nat) (sz : Nat) (p0 : Int32) (p1 : Int32) (x : MdC) (r : Int32) (y0 : MdC) (hf : f_X6_change p0 p1 x = some (r, y0)) : mM l yX6_change cX6_change 5 (some .int) 4 88 0 0 D I J O sz [.ref a0, .int p0, .int p1] (wMd I a0 a1 a2 a3 a4 a5 x) (qMi D sz (wMd I a0 a1 a2 a3 a4 a5 x) r (fun _ : Unit => wMd I a0 a1 a2 a3 a4 a5 y0)) := by
  refine mM_open (own := RX6) rfl (by decide +kernel) (Nat.le_of_ble_eq_true rfl) (fun p e s m below meth c ls E hnm hsz hw hl => ?_)
  obtain ⟨ws0, hws⟩ : ∃ ws0 : va_W, ws0 = wMd I a0 a1 a2 a3 a4 a5 x := ⟨_, rfl⟩
  have hw : fy D (va_A ws0 sz) s.heap s.heap [] (wMd I a0 a1 a2 a3 a4 a5 x) := by rw [hws]; exact hw
  rw [← hws]
  have hx := E.1
  have hb := E.2.1
  have hl : lv_has ls 5 [(0, .ref a0), (1, .int p0), (2, .int p1)] := hl
  unfold f_X6_change at hf
  refine lv_aload_n hx hb dX6_change_0 rfl (lv_at hl 0 rfl) ?_
  refine lv_aload_n hx hb dX6_change_1 rfl (lv_at hl 0 rfl) ?_
  refine x_get E hw.1 0 rfl rfl in6 1 (by decide) q802 rfl rfl dX6_change_2 ?_
  refine lv_iload_n hx hb dX6_change_5 rfl (lv_at hl 1 rfl) ?_
  obtain ⟨z1, h, hf⟩ := bd_s hf
  refine x_ci (x_rS E (As := [.ref a1, .int p0]) (rest := [.ref a0]) (mt_X6_whyNot l D I J O a1 p0 x.2.1 z1 h) blR (x_pcR E (x_pick0 hw.1 [1] rfl)) ok_X6_whyNot q885 rfl hl.1 rfl (Nat.le_of_ble_eq_true rfl) ⟨Nat.le_of_ble_eq_true rfl, Nat.le_of_ble_eq_true rfl⟩ ⟨Nat.le_of_ble_eq_true rfl, Nat.le_of_ble_eq_true rfl⟩ dX6_change_6) ?_
  refine lv_if_eq (tgt := 16) hx hb dX6_change_9 (by decide) (fun hc => ?_) (fun hc => ?_)
  · rw [if_pos hc] at hf
    refine lv_iload_n hx hb dX6_change_16 rfl (lv_at hl 2 rfl) ?_
    refine lv_iconst (v := 0) hx hb dX6_change_17 (by decide) ?_
    refine lv_sipush (v := 999) hx hb dX6_change_18 (by decide) ?_
    obtain ⟨z2, h, hf⟩ := bd_s hf
    refine x_ci (x_rS E (As := [.int p1, .int 0, .int 999]) (rest := [.ref a0]) (mt_X6_in l D I J O p1 0 999 z2 h) blR (x_pcR E x_none) ok_X6_in q846 rfl hl.1 rfl (Nat.le_of_ble_eq_true rfl) ⟨Nat.le_of_ble_eq_true rfl, Nat.le_of_ble_eq_true rfl⟩ ⟨Nat.le_of_ble_eq_true rfl, Nat.le_of_ble_eq_true rfl⟩ dX6_change_21) ?_
    refine lv_if_ne (tgt := 31) hx hb dX6_change_24 (by decide) (fun hc => ?_) (fun hc => ?_)
    · rw [if_neg hc] at hf
      refine lv_iconst (v := 0) hx hb dX6_change_31 (by decide) ?_
      exact k_X6_change_32 E a0 a1 a2 a3 a4 a5 r y0 p0 p1 0 x hf _ _ hw _ (lv_sub hl [0, 1, 2] rfl)
    · rw [if_pos hc] at hf
      refine lv_iconst (v := 2) hx hb dX6_change_27 (by decide) ?_
      refine lv_goto (tgt := 32) hx hb dX6_change_28 (by decide) ?_
      exact k_X6_change_32 E a0 a1 a2 a3 a4 a5 r y0 p0 p1 2 x hf _ _ hw _ (lv_sub hl [0, 1, 2] rfl)
  · rw [if_neg hc] at hf
    refine lv_iconst (v := 1) hx hb dX6_change_12 (by decide) ?_
    refine lv_goto (tgt := 32) hx hb dX6_change_13 (by decide) ?_
    exact k_X6_change_32 E a0 a1 a2 a3 a4 a5 r y0 p0 p1 1 x hf _ _ hw _ (lv_sub hl [0, 1, 2] rfl)
theorem ok_X6_isWalker : yS yX6_isWalker cX6_isWalker 1 (some .boolean) 1 := ⟨q914, q7, q913, by decide +kernel, by decide +kernel, by decide +kernel⟩
set_option maxRecDepth 100000 in
set_option maxHeartbeats 4000000 in
theorem mt_X6_isWalker (l : Launch) (D : va_G) (I J O : ClassId) (p0 : Int32)  (r : Int32) (hf : f_X6_isWalker p0 = some r) : mR l yX6_isWalker cX6_isWalker 1 (some .boolean) 1 22 D I J O [.int p0] ([]) (qRi r) := by
  refine mR_open (own := RX6) rfl (by decide +kernel) (Nat.le_of_ble_eq_true rfl) (fun p e s m below meth c ls E hP hl => ?_)
  have hx := E.1
  have hb := E.2.1
  have hl : lv_has ls 1 [(0, .int p0)] := hl
  unfold f_X6_isWalker at hf
  refine lv_iload_n hx hb dX6_isWalker_0 rfl (lv_at hl 0 rfl) ?_
  refine lv_iconst (v := 0) hx hb dX6_isWalker_1 (by decide) ?_
  refine lv_iconst (v := 3) hx hb dX6_isWalker_2 (by decide) ?_
  obtain ⟨z1, h, hf⟩ := bd_s hf
  refine x_ci (x_rS E (As := [.int p0, .int 0, .int 3]) (rest := []) (mt_X6_in l D I J O p0 0 3 z1 h) blR (x_pcR E x_none) ok_X6_in q846 rfl hl.1 rfl (Nat.le_of_ble_eq_true rfl) ⟨Nat.le_of_ble_eq_true rfl, Nat.le_of_ble_eq_true rfl⟩ ⟨Nat.le_of_ble_eq_true rfl, Nat.le_of_ble_eq_true rfl⟩ dX6_isWalker_3) ?_
  obtain ⟨g, hf⟩ := gz_s hf
  exact x_zR E g (Option.some.inj hf) dX6_isWalker_6
theorem ok_X6_stands : yS yX6_stands cX6_stands 3 (some .int) 2 := ⟨q917, q7, q916, by decide +kernel, by decide +kernel, by decide +kernel⟩
set_option maxRecDepth 100000 in
set_option maxHeartbeats 4000000 in
theorem mt_X6_stands (l : Launch) (D : va_G) (I J O : ClassId) (a0 : Nat) (p1 : Int32) (x : Fn) (r : Int32) (hf : f_X6_stands p1 x = some r) : mR l yX6_stands cX6_stands 3 (some .int) 2 43 D I J O [.ref a0, .int p1] (wAr I a0 414 x) (qRi r) := by
  refine mR_open (own := RX6) rfl (by decide +kernel) (Nat.le_of_ble_eq_true rfl) (fun p e s m below meth c ls E hP hl => ?_)
  have hx := E.1
  have hb := E.2.1
  have hl : lv_has ls 3 [(0, .ref a0), (1, .int p1)] := hl
  unfold f_X6_stands at hf
  refine lv_aload_n hx hb dX6_stands_0 rfl (lv_at hl 0 rfl) ?_
  refine lv_sipush (v := 410) hx hb dX6_stands_1 (by decide) ?_
  refine lv_iload_n hx hb dX6_stands_4 rfl (lv_at hl 1 rfl) ?_
  refine lv_iadd hx hb dX6_stands_5 ?_
  obtain ⟨g, hf⟩ := gi_s hf
  refine x_ald E hP 0 rfl g dX6_stands_6 ?_
  refine lv_istore_n (lv' := [(2, .int (x (410 + p1).toNatClampNeg)), (0, .ref a0), (1, .int p1)]) hx hb dX6_stands_7 rfl hl (by decide) rfl (fun ls hl => ?_)
  refine lv_iload_n hx hb dX6_stands_8 rfl (lv_at hl 0 rfl) ?_
  refine lv_if_ge (tgt := 16) hx hb dX6_stands_9 (by decide) (fun hc => ?_) (fun hc => ?_)
  · rw [if_pos hc] at hf
    refine lv_iload_n hx hb dX6_stands_16 rfl (lv_at hl 0 rfl) ?_
    refine lv_bipush (v := 99) hx hb dX6_stands_17 (by decide) ?_
    refine lv_icmp_ne (tgt := 26) hx hb dX6_stands_19 (by decide) (fun hc => ?_) (fun hc => ?_)
    · rw [if_neg hc] at hf
      refine lv_aload_n hx hb dX6_stands_26 rfl (lv_at hl 1 rfl) ?_
      refine lv_iload_n hx hb dX6_stands_27 rfl (lv_at hl 0 rfl) ?_
      obtain ⟨z1, h, hf⟩ := bd_s hf
      refine x_ci (x_rS E (As := [.ref a0, .int (x (410 + p1).toNatClampNeg)]) (rest := []) (mt_X6_isThing l D I J O a0 (x (410 + p1).toNatClampNeg) x z1 h) blR (x_pcR E hP) ok_X6_isThing q861 rfl hl.1 rfl (Nat.le_of_ble_eq_true rfl) ⟨Nat.le_of_ble_eq_true rfl, Nat.le_of_ble_eq_true rfl⟩ ⟨Nat.le_of_ble_eq_true rfl, Nat.le_of_ble_eq_true rfl⟩ dX6_stands_28) ?_
      refine lv_if_eq (tgt := 38) hx hb dX6_stands_31 (by decide) (fun hc => ?_) (fun hc => ?_)
      · rw [if_pos hc] at hf
        refine lv_iconst (v := 2) hx hb dX6_stands_38 (by decide) ?_
        exact x_iR E (Option.some.inj hf) dX6_stands_39
      · rw [if_neg hc] at hf
        refine lv_iconst (v := 1) hx hb dX6_stands_34 (by decide) ?_
        refine lv_goto (tgt := 39) hx hb dX6_stands_35 (by decide) ?_
        exact x_iR E (Option.some.inj hf) dX6_stands_39
    · rw [if_pos hc] at hf
      refine lv_iconst (v := 3) hx hb dX6_stands_22 (by decide) ?_
      refine lv_goto (tgt := 39) hx hb dX6_stands_23 (by decide) ?_
      exact x_iR E (Option.some.inj hf) dX6_stands_39
  · rw [if_neg hc] at hf
    refine lv_iconst (v := 0) hx hb dX6_stands_12 (by decide) ?_
    refine lv_goto (tgt := 39) hx hb dX6_stands_13 (by decide) ?_
    exact x_iR E (Option.some.inj hf) dX6_stands_39
theorem ok_X6_restart : yV yX6_restart cX6_restart 3 (some .int) 1 := ⟨q911, q7, q909, q910, by decide +kernel, by decide +kernel, by decide +kernel⟩
set_option maxRecDepth 100000 in
set_option maxHeartbeats 4000000 in
theorem k_X6_restart_13 {p : Program} {l : Launch} {e : Env} {s : State} {m : MethodId} {args : Array Value} {below : List Frame} {meth : Method} {c : Code} {D : va_G} {I J O : ClassId} (E : fx p s m args meth c cX6_restart RX6 3 (some .int) D I J O) (a0 a1 a2 a3 a4 a5 : Nat)  {ws0 : va_W} {sz : Nat} (r : Int32) (y0 : MdC) : ∀ (v1 : Int32) (t1 : Int32) (x : MdC), f_X6_restart_13 v1 t1 x = some (r, y0) → ∀ (H : Heap) (locs : List Loc), fy D (va_A ws0 sz) s.heap H locs (wMd I a0 a1 a2 a3 a4 a5 x) → ∀ ls : Array Slot, lv_has ls 3 [(0, .ref a0), (1, .int v1)] → W p l e (rmB 3 66 0 0) s m args below meth c H locs 0 0 (MQ below (qMi D sz ws0 r (fun _ : Unit => wMd I a0 a1 a2 a3 a4 a5 y0)) args s 0 0 (va_A ws0 sz)) (F0 m 13 ls [.int t1, .ref a0]) := by
  have hx := E.1
  have hb := E.2.1
  intro v1 t1 x hf H locs hw ls hl
  unfold f_X6_restart_13 at hf
  obtain ⟨z2, h, hf⟩ := bd_s hf
  refine x_mi0 hw [0, 1, 2, 3, 4, 5] rfl rfl (x_rV E (As := [.int t1]) (rest := []) (mt_X6_refuses l D I J O a0 a1 a2 a3 a4 a5 H.size t1 x z2.1 z2.2 h) blM (x_recv E hw.1 0 6 rfl rfl rfl) (x_pcMQ0 E hw [0, 1, 2, 3, 4, 5] rfl rfl) ok_X6_refuses q867 rfl hl.1 rfl (Nat.le_of_ble_eq_true rfl) ⟨Nat.le_of_ble_eq_true rfl, Nat.le_of_ble_eq_true rfl⟩ ⟨Nat.le_of_ble_eq_true rfl, Nat.le_of_ble_eq_true rfl⟩ dX6_restart_13) (fun _ => rfl) (fun _ H locs hw => ?_)
  have hw : fy D (va_A ws0 sz) s.heap H locs (wMd I a0 a1 a2 a3 a4 a5 z2.2) := hw
  refine lv_if_eq (tgt := 21) hx hb dX6_restart_16 (by decide) (fun hc => ?_) (fun hc => ?_)
  · rw [if_pos hc] at hf
    refine lv_aload_n hx hb dX6_restart_21 rfl (lv_at hl 0 rfl) ?_
    obtain ⟨z3, h, hf⟩ := bd_s hf
    refine x_mv0 hw [0, 1, 2, 3, 4, 5] rfl rfl (x_rV E (As := []) (rest := []) (mt_X6_saves l D I J O a0 a1 a2 a3 a4 a5 H.size z2.2 z3 h) blM (x_recv E hw.1 0 6 rfl rfl rfl) (x_pcMQ0 E hw [0, 1, 2, 3, 4, 5] rfl rfl) ok_X6_saves q871 rfl hl.1 rfl (Nat.le_of_ble_eq_true rfl) ⟨Nat.le_of_ble_eq_true rfl, Nat.le_of_ble_eq_true rfl⟩ ⟨Nat.le_of_ble_eq_true rfl, Nat.le_of_ble_eq_true rfl⟩ dX6_restart_22) (fun _ => rfl) (fun _ H locs hw => ?_)
    have hw : fy D (va_A ws0 sz) s.heap H locs (wMd I a0 a1 a2 a3 a4 a5 z3) := hw
    refine lv_aload_n hx hb dX6_restart_25 rfl (lv_at hl 0 rfl) ?_
    refine x_get E hw.1 0 rfl rfl in6 1 (by decide) q802 rfl rfl dX6_restart_26 ?_
    refine lv_iload_n hx hb dX6_restart_29 rfl (lv_at hl 1 rfl) ?_
    obtain ⟨z4, h, hf⟩ := bd_s hf
    refine x_ci (x_rS E (As := [.ref a1, .int v1]) (rest := []) (mt_X6_stands l D I J O a1 v1 z3.2.1 z4 h) blR (x_pcR E (x_pick0 hw.1 [1] rfl)) ok_X6_stands q915 rfl hl.1 rfl (Nat.le_of_ble_eq_true rfl) ⟨Nat.le_of_ble_eq_true rfl, Nat.le_of_ble_eq_true rfl⟩ ⟨Nat.le_of_ble_eq_true rfl, Nat.le_of_ble_eq_true rfl⟩ dX6_restart_30) ?_
    refine lv_istore_n (lv' := [(2, .int z4), (0, .ref a0), (1, .int v1)]) hx hb dX6_restart_33 rfl hl (by decide) rfl (fun ls hl => ?_)
    refine lv_aload_n hx hb dX6_restart_34 rfl (lv_at hl 1 rfl) ?_
    refine x_get E hw.1 0 rfl rfl in6 1 (by decide) q802 rfl rfl dX6_restart_35 ?_
    refine lv_iload_n hx hb dX6_restart_38 rfl (lv_at hl 2 rfl) ?_
    refine lv_iconst (v := (-1)) hx hb dX6_restart_39 (by decide) ?_
    obtain ⟨z5, h, hf⟩ := bd_s hf
    refine x_mv0 hw [1] rfl rfl (x_rS E (As := [.ref a1, .int v1, .int (-1)]) (rest := []) (mt_X6_walks l D I J O a1 H.size v1 (-1) z3.2.1 z5 h) blM (x_pcMQ0 E hw [1] rfl rfl) ok_X6_walks q918 rfl hl.1 rfl (Nat.le_of_ble_eq_true rfl) ⟨Nat.le_of_ble_eq_true rfl, Nat.le_of_ble_eq_true rfl⟩ ⟨Nat.le_of_ble_eq_true rfl, Nat.le_of_ble_eq_true rfl⟩ dX6_restart_40) (fun _ => rfl) (fun _ H locs hw => ?_)
    have hw : fy D (va_A ws0 sz) s.heap H locs (wMd I a0 a1 a2 a3 a4 a5 (z3.1, z5, z3.2.2)) := hw
    refine lv_iload_n hx hb dX6_restart_43 rfl (lv_at hl 0 rfl) ?_
    obtain ⟨he0, hr⟩ := Prod.mk.inj (Option.some.inj hf)
    have he1 := hr
    subst he1
    exact x_iM E () hw he0 dX6_restart_44
  · rw [if_neg hc] at hf
    refine lv_iconst (v := 0) hx hb dX6_restart_19 (by decide) ?_
    obtain ⟨he0, hr⟩ := Prod.mk.inj (Option.some.inj hf)
    have he1 := hr
    subst he1
    exact x_iM E () hw he0 dX6_restart_20
set_option maxRecDepth 100000 in
set_option maxHeartbeats 4000000 in
theorem mt_X6_restart (l : Launch) (D : va_G) (I J O : ClassId) (a0 a1 a2 a3 a4 a5 : Nat) (sz : Nat) (p0 : Int32) (x : MdC) (r : Int32) (y0 : MdC) (hf : f_X6_restart p0 x = some (r, y0)) : mM l yX6_restart cX6_restart 3 (some .int) 3 66 0 0 D I J O sz [.ref a0, .int p0] (wMd I a0 a1 a2 a3 a4 a5 x) (qMi D sz (wMd I a0 a1 a2 a3 a4 a5 x) r (fun _ : Unit => wMd I a0 a1 a2 a3 a4 a5 y0)) := by
  refine mM_open (own := RX6) rfl (by decide +kernel) (Nat.le_of_ble_eq_true rfl) (fun p e s m below meth c ls E hnm hsz hw hl => ?_)
  obtain ⟨ws0, hws⟩ : ∃ ws0 : va_W, ws0 = wMd I a0 a1 a2 a3 a4 a5 x := ⟨_, rfl⟩
  have hw : fy D (va_A ws0 sz) s.heap s.heap [] (wMd I a0 a1 a2 a3 a4 a5 x) := by rw [hws]; exact hw
  rw [← hws]
  have hx := E.1
  have hb := E.2.1
  have hl : lv_has ls 3 [(0, .ref a0), (1, .int p0)] := hl
  unfold f_X6_restart at hf
  refine lv_aload_n hx hb dX6_restart_0 rfl (lv_at hl 0 rfl) ?_
  refine lv_iload_n hx hb dX6_restart_1 rfl (lv_at hl 1 rfl) ?_
  obtain ⟨z1, h, hf⟩ := bd_s hf
  refine x_ci (x_rS E (As := [.int p0]) (rest := [.ref a0]) (mt_X6_isWalker l D I J O p0 z1 h) blR (x_pcR E x_none) ok_X6_isWalker q912 rfl hl.1 rfl (Nat.le_of_ble_eq_true rfl) ⟨Nat.le_of_ble_eq_true rfl, Nat.le_of_ble_eq_true rfl⟩ ⟨Nat.le_of_ble_eq_true rfl, Nat.le_of_ble_eq_true rfl⟩ dX6_restart_2) ?_
  refine lv_if_eq (tgt := 12) hx hb dX6_restart_5 (by decide) (fun hc => ?_) (fun hc => ?_)
  · rw [if_pos hc] at hf
    refine lv_iconst (v := 1) hx hb dX6_restart_12 (by decide) ?_
    exact k_X6_restart_13 E a0 a1 a2 a3 a4 a5 r y0 p0 1 x hf _ _ hw _ (lv_sub hl [0, 1] rfl)
  · rw [if_neg hc] at hf
    refine lv_iconst (v := 0) hx hb dX6_restart_8 (by decide) ?_
    refine lv_goto (tgt := 13) hx hb dX6_restart_9 (by decide) ?_
    exact k_X6_restart_13 E a0 a1 a2 a3 a4 a5 r y0 p0 0 x hf _ _ hw _ (lv_sub hl [0, 1] rfl)
theorem ok_X6_underHandle : yV yX6_underHandle cX6_underHandle 2 (some .int) 1 := ⟨q931, q7, q930, qs20, by decide +kernel, by decide +kernel, by decide +kernel⟩
set_option maxRecDepth 100000 in
set_option maxHeartbeats 4000000 in
theorem mt_X6_underHandle (l : Launch) (D : va_G) (I J O : ClassId) (a0 a1 a2 a3 a4 a5 : Nat) (p0 : Int32) (x : MdC) (r : Int32) (hf : f_X6_underHandle p0 x = some r) : mR l yX6_underHandle cX6_underHandle 2 (some .int) 3 65 D I J O [.ref a0, .int p0] (wMd I a0 a1 a2 a3 a4 a5 x) (qRi r) := by
  refine mR_open (own := RX6) rfl (by decide +kernel) (Nat.le_of_ble_eq_true rfl) (fun p e s m below meth c ls E hP hl => ?_)
  have hx := E.1
  have hb := E.2.1
  have hl : lv_has ls 2 [(0, .ref a0), (1, .int p0)] := hl
  unfold f_X6_underHandle at hf
  refine lv_aload_n hx hb dX6_underHandle_0 rfl (lv_at hl 0 rfl) ?_
  refine x_get E hP 0 rfl rfl in6 1 (by decide) q802 rfl rfl dX6_underHandle_1 ?_
  refine lv_iload_n hx hb dX6_underHandle_4 rfl (lv_at hl 1 rfl) ?_
  obtain ⟨z1, h, hf⟩ := bd_s hf
  refine x_ci (x_rS E (As := [.ref a1, .int p0]) (rest := []) (mt_X6_stands l D I J O a1 p0 x.2.1 z1 h) blR (x_pcR E (x_pick0 hP [1] rfl)) ok_X6_stands q915 rfl hl.1 rfl (Nat.le_of_ble_eq_true rfl) ⟨Nat.le_of_ble_eq_true rfl, Nat.le_of_ble_eq_true rfl⟩ ⟨Nat.le_of_ble_eq_true rfl, Nat.le_of_ble_eq_true rfl⟩ dX6_underHandle_5) ?_
  refine lv_iconst (v := 1) hx hb dX6_underHandle_8 (by decide) ?_
  refine lv_icmp_ne (tgt := 32) hx hb dX6_underHandle_9 (by decide) (fun hc => ?_) (fun hc => ?_)
  · rw [if_neg hc] at hf
    refine lv_iconst (v := (-1)) hx hb dX6_underHandle_32 (by decide) ?_
    exact x_iR E (Option.some.inj hf) dX6_underHandle_33
  · rw [if_pos hc] at hf
    refine lv_aload_n hx hb dX6_underHandle_12 rfl (lv_at hl 0 rfl) ?_
    refine x_get E hP 0 rfl rfl in6 1 (by decide) q802 rfl rfl dX6_underHandle_13 ?_
    refine lv_aload_n hx hb dX6_underHandle_16 rfl (lv_at hl 0 rfl) ?_
    refine x_get E hP 0 rfl rfl in6 1 (by decide) q802 rfl rfl dX6_underHandle_17 ?_
    refine lv_sipush (v := 410) hx hb dX6_underHandle_20 (by decide) ?_
    refine lv_iload_n hx hb dX6_underHandle_23 rfl (lv_at hl 1 rfl) ?_
    refine lv_iadd hx hb dX6_underHandle_24 ?_
    obtain ⟨g, hf⟩ := gi_s hf
    refine x_ald E hP 1 rfl g dX6_underHandle_25 ?_
    obtain ⟨z2, h, hf⟩ := bd_s hf
    refine x_ci (x_rS E (As := [.ref a1, .int (x.2.1 (410 + p0).toNatClampNeg)]) (rest := []) (mt_X6_handleOf l D I J O a1 (x.2.1 (410 + p0).toNatClampNeg) x.2.1 z2 h) blR (x_pcR E (x_pick0 hP [1] rfl)) ok_X6_handleOf q932 rfl hl.1 rfl (Nat.le_of_ble_eq_true rfl) ⟨Nat.le_of_ble_eq_true rfl, Nat.le_of_ble_eq_true rfl⟩ ⟨Nat.le_of_ble_eq_true rfl, Nat.le_of_ble_eq_true rfl⟩ dX6_underHandle_26) ?_
    refine lv_goto (tgt := 33) hx hb dX6_underHandle_29 (by decide) ?_
    exact x_iR E (Option.some.inj hf) dX6_underHandle_33
theorem ok_X6_goOn : yV yX6_goOn cX6_goOn 2 (some .int) 1 := ⟨q924, q7, q922, q923, by decide +kernel, by decide +kernel, by decide +kernel⟩
set_option maxRecDepth 100000 in
set_option maxHeartbeats 4000000 in
theorem k_X6_goOn_13 {p : Program} {l : Launch} {e : Env} {s : State} {m : MethodId} {args : Array Value} {below : List Frame} {meth : Method} {c : Code} {D : va_G} {I J O : ClassId} (E : fx p s m args meth c cX6_goOn RX6 2 (some .int) D I J O) (a0 a1 a2 a3 a4 a5 : Nat)  {ws0 : va_W} {sz : Nat} (r : Int32) (y0 : MdC) : ∀ (v1 : Int32) (t1 : Int32) (x : MdC), f_X6_goOn_13 v1 t1 x = some (r, y0) → ∀ (H : Heap) (locs : List Loc), fy D (va_A ws0 sz) s.heap H locs (wMd I a0 a1 a2 a3 a4 a5 x) → ∀ ls : Array Slot, lv_has ls 2 [(0, .ref a0), (1, .int v1)] → W p l e (rmB 4 86 0 0) s m args below meth c H locs 0 0 (MQ below (qMi D sz ws0 r (fun _ : Unit => wMd I a0 a1 a2 a3 a4 a5 y0)) args s 0 0 (va_A ws0 sz)) (F0 m 13 ls [.int t1, .ref a0]) := by
  have hx := E.1
  have hb := E.2.1
  intro v1 t1 x hf H locs hw ls hl
  unfold f_X6_goOn_13 at hf
  obtain ⟨z2, h, hf⟩ := bd_s hf
  refine x_mi0 hw [0, 1, 2, 3, 4, 5] rfl rfl (x_rV E (As := [.int t1]) (rest := []) (mt_X6_refuses l D I J O a0 a1 a2 a3 a4 a5 H.size t1 x z2.1 z2.2 h) blM (x_recv E hw.1 0 6 rfl rfl rfl) (x_pcMQ0 E hw [0, 1, 2, 3, 4, 5] rfl rfl) ok_X6_refuses q867 rfl hl.1 rfl (Nat.le_of_ble_eq_true rfl) ⟨Nat.le_of_ble_eq_true rfl, Nat.le_of_ble_eq_true rfl⟩ ⟨Nat.le_of_ble_eq_true rfl, Nat.le_of_ble_eq_true rfl⟩ dX6_goOn_13) (fun _ => rfl) (fun _ H locs hw => ?_)
  have hw : fy D (va_A ws0 sz) s.heap H locs (wMd I a0 a1 a2 a3 a4 a5 z2.2) := hw
  refine lv_if_eq (tgt := 21) hx hb dX6_goOn_16 (by decide) (fun hc => ?_) (fun hc => ?_)
  · rw [if_pos hc] at hf
    refine lv_aload_n hx hb dX6_goOn_21 rfl (lv_at hl 0 rfl) ?_
    obtain ⟨z3, h, hf⟩ := bd_s hf
    refine x_mv0 hw [0, 1, 2, 3, 4, 5] rfl rfl (x_rV E (As := []) (rest := []) (mt_X6_saves l D I J O a0 a1 a2 a3 a4 a5 H.size z2.2 z3 h) blM (x_recv E hw.1 0 6 rfl rfl rfl) (x_pcMQ0 E hw [0, 1, 2, 3, 4, 5] rfl rfl) ok_X6_saves q871 rfl hl.1 rfl (Nat.le_of_ble_eq_true rfl) ⟨Nat.le_of_ble_eq_true rfl, Nat.le_of_ble_eq_true rfl⟩ ⟨Nat.le_of_ble_eq_true rfl, Nat.le_of_ble_eq_true rfl⟩ dX6_goOn_22) (fun _ => rfl) (fun _ H locs hw => ?_)
    have hw : fy D (va_A ws0 sz) s.heap H locs (wMd I a0 a1 a2 a3 a4 a5 z3) := hw
    refine lv_aload_n hx hb dX6_goOn_25 rfl (lv_at hl 0 rfl) ?_
    refine x_get E hw.1 0 rfl rfl in6 1 (by decide) q802 rfl rfl dX6_goOn_26 ?_
    refine lv_iload_n hx hb dX6_goOn_29 rfl (lv_at hl 1 rfl) ?_
    refine lv_aload_n hx hb dX6_goOn_30 rfl (lv_at hl 0 rfl) ?_
    refine x_get E hw.1 0 rfl rfl in6 1 (by decide) q802 rfl rfl dX6_goOn_31 ?_
    refine lv_aload_n hx hb dX6_goOn_34 rfl (lv_at hl 0 rfl) ?_
    refine x_get E hw.1 0 rfl rfl in6 1 (by decide) q802 rfl rfl dX6_goOn_35 ?_
    refine lv_sipush (v := 410) hx hb dX6_goOn_38 (by decide) ?_
    refine lv_iload_n hx hb dX6_goOn_41 rfl (lv_at hl 1 rfl) ?_
    refine lv_iadd hx hb dX6_goOn_42 ?_
    obtain ⟨g, hf⟩ := gi_s hf
    refine x_ald E hw.1 1 rfl g dX6_goOn_43 ?_
    obtain ⟨z4, h, hf⟩ := bd_s hf
    refine x_ci (x_rS E (As := [.ref a1, .int (z3.2.1 (410 + v1).toNatClampNeg)]) (rest := [.int v1, .ref a1]) (mt_X6_nextThing l D I J O a1 (z3.2.1 (410 + v1).toNatClampNeg) z3.2.1 z4 h) blR (x_pcR E (x_pick0 hw.1 [1] rfl)) ok_X6_nextThing q925 rfl hl.1 rfl (Nat.le_of_ble_eq_true rfl) ⟨Nat.le_of_ble_eq_true rfl, Nat.le_of_ble_eq_true rfl⟩ ⟨Nat.le_of_ble_eq_true rfl, Nat.le_of_ble_eq_true rfl⟩ dX6_goOn_44) ?_
    obtain ⟨z5, h, hf⟩ := bd_s hf
    refine x_mv0 hw [1] rfl rfl (x_rS E (As := [.ref a1, .int v1, .int z4]) (rest := []) (mt_X6_walks l D I J O a1 H.size v1 z4 z3.2.1 z5 h) blM (x_pcMQ0 E hw [1] rfl rfl) ok_X6_walks q918 rfl hl.1 rfl (Nat.le_of_ble_eq_true rfl) ⟨Nat.le_of_ble_eq_true rfl, Nat.le_of_ble_eq_true rfl⟩ ⟨Nat.le_of_ble_eq_true rfl, Nat.le_of_ble_eq_true rfl⟩ dX6_goOn_47) (fun _ => rfl) (fun _ H locs hw => ?_)
    have hw : fy D (va_A ws0 sz) s.heap H locs (wMd I a0 a1 a2 a3 a4 a5 (z3.1, z5, z3.2.2)) := hw
    refine lv_aload_n hx hb dX6_goOn_50 rfl (lv_at hl 0 rfl) ?_
    refine lv_iload_n hx hb dX6_goOn_51 rfl (lv_at hl 1 rfl) ?_
    obtain ⟨z6, h, hf⟩ := bd_s hf
    refine x_ci (x_rV E (As := [.int v1]) (rest := []) (mt_X6_underHandle l D I J O a0 a1 a2 a3 a4 a5 v1 (z3.1, z5, z3.2.2) z6 h) blR (x_recv E hw.1 0 6 rfl rfl rfl) (x_pcR E hw.1) ok_X6_underHandle q928 rfl hl.1 rfl (Nat.le_of_ble_eq_true rfl) ⟨Nat.le_of_ble_eq_true rfl, Nat.le_of_ble_eq_true rfl⟩ ⟨Nat.le_of_ble_eq_true rfl, Nat.le_of_ble_eq_true rfl⟩ dX6_goOn_52) ?_
    obtain ⟨he0, hr⟩ := Prod.mk.inj (Option.some.inj hf)
    have he1 := hr
    subst he1
    exact x_iM E () hw he0 dX6_goOn_55
  · rw [if_neg hc] at hf
    refine lv_iconst (v := 0) hx hb dX6_goOn_19 (by decide) ?_
    obtain ⟨he0, hr⟩ := Prod.mk.inj (Option.some.inj hf)
    have he1 := hr
    subst he1
    exact x_iM E () hw he0 dX6_goOn_20
set_option maxRecDepth 100000 in
set_option maxHeartbeats 4000000 in
theorem mt_X6_goOn (l : Launch) (D : va_G) (I J O : ClassId) (a0 a1 a2 a3 a4 a5 : Nat) (sz : Nat) (p0 : Int32) (x : MdC) (r : Int32) (y0 : MdC) (hf : f_X6_goOn p0 x = some (r, y0)) : mM l yX6_goOn cX6_goOn 2 (some .int) 4 86 0 0 D I J O sz [.ref a0, .int p0] (wMd I a0 a1 a2 a3 a4 a5 x) (qMi D sz (wMd I a0 a1 a2 a3 a4 a5 x) r (fun _ : Unit => wMd I a0 a1 a2 a3 a4 a5 y0)) := by
  refine mM_open (own := RX6) rfl (by decide +kernel) (Nat.le_of_ble_eq_true rfl) (fun p e s m below meth c ls E hnm hsz hw hl => ?_)
  obtain ⟨ws0, hws⟩ : ∃ ws0 : va_W, ws0 = wMd I a0 a1 a2 a3 a4 a5 x := ⟨_, rfl⟩
  have hw : fy D (va_A ws0 sz) s.heap s.heap [] (wMd I a0 a1 a2 a3 a4 a5 x) := by rw [hws]; exact hw
  rw [← hws]
  have hx := E.1
  have hb := E.2.1
  have hl : lv_has ls 2 [(0, .ref a0), (1, .int p0)] := hl
  unfold f_X6_goOn at hf
  refine lv_aload_n hx hb dX6_goOn_0 rfl (lv_at hl 0 rfl) ?_
  refine lv_iload_n hx hb dX6_goOn_1 rfl (lv_at hl 1 rfl) ?_
  obtain ⟨z1, h, hf⟩ := bd_s hf
  refine x_ci (x_rS E (As := [.int p0]) (rest := [.ref a0]) (mt_X6_isWalker l D I J O p0 z1 h) blR (x_pcR E x_none) ok_X6_isWalker q912 rfl hl.1 rfl (Nat.le_of_ble_eq_true rfl) ⟨Nat.le_of_ble_eq_true rfl, Nat.le_of_ble_eq_true rfl⟩ ⟨Nat.le_of_ble_eq_true rfl, Nat.le_of_ble_eq_true rfl⟩ dX6_goOn_2) ?_
  refine lv_if_eq (tgt := 12) hx hb dX6_goOn_5 (by decide) (fun hc => ?_) (fun hc => ?_)
  · rw [if_pos hc] at hf
    refine lv_iconst (v := 1) hx hb dX6_goOn_12 (by decide) ?_
    exact k_X6_goOn_13 E a0 a1 a2 a3 a4 a5 r y0 p0 1 x hf _ _ hw _ (lv_sub hl [0, 1] rfl)
  · rw [if_neg hc] at hf
    refine lv_iconst (v := 0) hx hb dX6_goOn_8 (by decide) ?_
    refine lv_goto (tgt := 13) hx hb dX6_goOn_9 (by decide) ?_
    exact k_X6_goOn_13 E a0 a1 a2 a3 a4 a5 r y0 p0 0 x hf _ _ hw _ (lv_sub hl [0, 1] rfl)
theorem ok_X6_take : yV yX6_take cX6_take 4 (some .int) 1 := ⟨q938, q7, q936, q937, by decide +kernel, by decide +kernel, by decide +kernel⟩
set_option maxRecDepth 100000 in
set_option maxHeartbeats 4000000 in
theorem k_X6_take_29 {p : Program} {l : Launch} {e : Env} {s : State} {m : MethodId} {args : Array Value} {below : List Frame} {meth : Method} {c : Code} {D : va_G} {I J O : ClassId} (E : fx p s m args meth c cX6_take RX6 4 (some .int) D I J O) (a0 a1 a2 a3 a4 a5 : Nat)  {ws0 : va_W} {sz : Nat} (r : Int32) (y0 : MdC) : ∀ (v1 : Int32) (t1 : Int32) (x : MdC), f_X6_take_29 v1 t1 x = some (r, y0) → ∀ (H : Heap) (locs : List Loc), fy D (va_A ws0 sz) s.heap H locs (wMd I a0 a1 a2 a3 a4 a5 x) → ∀ ls : Array Slot, lv_has ls 4 [(0, .ref a0), (1, .int v1)] → W p l e (rmB 3 65 0 0) s m args below meth c H locs 0 0 (MQ below (qMi D sz ws0 r (fun _ : Unit => wMd I a0 a1 a2 a3 a4 a5 y0)) args s 0 0 (va_A ws0 sz)) (F0 m 29 ls [.int t1, .ref a0]) := by
  have hx := E.1
  have hb := E.2.1
  intro v1 t1 x hf H locs hw ls hl
  unfold f_X6_take_29 at hf
  obtain ⟨z3, h, hf⟩ := bd_s hf
  refine x_mi0 hw [0, 1, 2, 3, 4, 5] rfl rfl (x_rV E (As := [.int t1]) (rest := []) (mt_X6_refuses l D I J O a0 a1 a2 a3 a4 a5 H.size t1 x z3.1 z3.2 h) blM (x_recv E hw.1 0 6 rfl rfl rfl) (x_pcMQ0 E hw [0, 1, 2, 3, 4, 5] rfl rfl) ok_X6_refuses q867 rfl hl.1 rfl (Nat.le_of_ble_eq_true rfl) ⟨Nat.le_of_ble_eq_true rfl, Nat.le_of_ble_eq_true rfl⟩ ⟨Nat.le_of_ble_eq_true rfl, Nat.le_of_ble_eq_true rfl⟩ dX6_take_29) (fun _ => rfl) (fun _ H locs hw => ?_)
  have hw : fy D (va_A ws0 sz) s.heap H locs (wMd I a0 a1 a2 a3 a4 a5 z3.2) := hw
  refine lv_if_eq (tgt := 37) hx hb dX6_take_32 (by decide) (fun hc => ?_) (fun hc => ?_)
  · rw [if_pos hc] at hf
    refine lv_aload_n hx hb dX6_take_37 rfl (lv_at hl 0 rfl) ?_
    obtain ⟨z4, h, hf⟩ := bd_s hf
    refine x_mv0 hw [0, 1, 2, 3, 4, 5] rfl rfl (x_rV E (As := []) (rest := []) (mt_X6_saves l D I J O a0 a1 a2 a3 a4 a5 H.size z3.2 z4 h) blM (x_recv E hw.1 0 6 rfl rfl rfl) (x_pcMQ0 E hw [0, 1, 2, 3, 4, 5] rfl rfl) ok_X6_saves q871 rfl hl.1 rfl (Nat.le_of_ble_eq_true rfl) ⟨Nat.le_of_ble_eq_true rfl, Nat.le_of_ble_eq_true rfl⟩ ⟨Nat.le_of_ble_eq_true rfl, Nat.le_of_ble_eq_true rfl⟩ dX6_take_38) (fun _ => rfl) (fun _ H locs hw => ?_)
    have hw : fy D (va_A ws0 sz) s.heap H locs (wMd I a0 a1 a2 a3 a4 a5 z4) := hw
    refine lv_aload_n hx hb dX6_take_41 rfl (lv_at hl 0 rfl) ?_
    refine x_get E hw.1 0 rfl rfl in6 1 (by decide) q802 rfl rfl dX6_take_42 ?_
    refine lv_sipush (v := 410) hx hb dX6_take_45 (by decide) ?_
    refine lv_iload_n hx hb dX6_take_48 rfl (lv_at hl 1 rfl) ?_
    refine lv_iadd hx hb dX6_take_49 ?_
    obtain ⟨g, hf⟩ := gi_s hf
    refine x_ald E hw.1 1 rfl g dX6_take_50 ?_
    refine lv_istore_n (lv' := [(2, .int (z4.2.1 (410 + v1).toNatClampNeg)), (0, .ref a0), (1, .int v1)]) hx hb dX6_take_51 rfl hl (by decide) rfl (fun ls hl => ?_)
    refine lv_aload_n hx hb dX6_take_52 rfl (lv_at hl 1 rfl) ?_
    refine x_get E hw.1 0 rfl rfl in6 1 (by decide) q802 rfl rfl dX6_take_53 ?_
    refine lv_iload_n hx hb dX6_take_56 rfl (lv_at hl 0 rfl) ?_
    refine lv_iconst (v := 2) hx hb dX6_take_57 (by decide) ?_
    obtain ⟨z5, h, hf⟩ := bd_s hf
    refine x_ci (x_rS E (As := [.ref a1, .int (z4.2.1 (410 + v1).toNatClampNeg), .int 2]) (rest := []) (mt_X6_of l D I J O a1 (z4.2.1 (410 + v1).toNatClampNeg) 2 z4.2.1 z5 h) blR (x_pcR E (x_pick0 hw.1 [1] rfl)) ok_X6_of q864 rfl hl.1 rfl (Nat.le_of_ble_eq_true rfl) ⟨Nat.le_of_ble_eq_true rfl, Nat.le_of_ble_eq_true rfl⟩ ⟨Nat.le_of_ble_eq_true rfl, Nat.le_of_ble_eq_true rfl⟩ dX6_take_58) ?_
    refine lv_istore_n (lv' := [(3, .int z5), (2, .int (z4.2.1 (410 + v1).toNatClampNeg)), (0, .ref a0), (1, .int v1)]) hx hb dX6_take_61 rfl hl (by decide) rfl (fun ls hl => ?_)
    refine lv_aload_n hx hb dX6_take_62 rfl (lv_at hl 2 rfl) ?_
    refine x_get E hw.1 0 rfl rfl in6 1 (by decide) q802 rfl rfl dX6_take_63 ?_
    refine lv_iload_n hx hb dX6_take_66 rfl (lv_at hl 1 rfl) ?_
    obtain ⟨z6, h, hf⟩ := bd_s hf
    refine x_mi0 hw [1] rfl rfl (x_rS E (As := [.ref a1, .int (z4.2.1 (410 + v1).toNatClampNeg)]) (rest := []) (mt_X6_removes l D I J O a1 H.size (z4.2.1 (410 + v1).toNatClampNeg) z4.2.1 z6.1 z6.2 h) blM (x_pcMQ0 E hw [1] rfl rfl) ok_X6_removes q892 rfl hl.1 rfl (Nat.le_of_ble_eq_true rfl) ⟨Nat.le_of_ble_eq_true rfl, Nat.le_of_ble_eq_true rfl⟩ ⟨Nat.le_of_ble_eq_true rfl, Nat.le_of_ble_eq_true rfl⟩ dX6_take_67) (fun _ => rfl) (fun _ H locs hw => ?_)
    have hw : fy D (va_A ws0 sz) s.heap H locs (wMd I a0 a1 a2 a3 a4 a5 (z4.1, z6.2, z4.2.2)) := hw
    refine lv_if_eq (tgt := 77) hx hb dX6_take_70 (by decide) (fun hc => ?_) (fun hc => ?_)
    · rw [if_pos hc] at hf
      refine lv_iload_n hx hb dX6_take_77 rfl (lv_at hl 0 rfl) ?_
      obtain ⟨he0, hr⟩ := Prod.mk.inj (Option.some.inj hf)
      have he1 := hr
      subst he1
      exact x_iM E () hw he0 dX6_take_78
    · rw [if_neg hc] at hf
      refine lv_iload_n hx hb dX6_take_73 rfl (lv_at hl 0 rfl) ?_
      refine lv_goto (tgt := 78) hx hb dX6_take_74 (by decide) ?_
      obtain ⟨he0, hr⟩ := Prod.mk.inj (Option.some.inj hf)
      have he1 := hr
      subst he1
      exact x_iM E () hw he0 dX6_take_78
  · rw [if_neg hc] at hf
    refine lv_iconst (v := 0) hx hb dX6_take_35 (by decide) ?_
    obtain ⟨he0, hr⟩ := Prod.mk.inj (Option.some.inj hf)
    have he1 := hr
    subst he1
    exact x_iM E () hw he0 dX6_take_36
set_option maxRecDepth 100000 in
set_option maxHeartbeats 4000000 in
theorem mt_X6_take (l : Launch) (D : va_G) (I J O : ClassId) (a0 a1 a2 a3 a4 a5 : Nat) (sz : Nat) (p0 : Int32) (x : MdC) (r : Int32) (y0 : MdC) (hf : f_X6_take p0 x = some (r, y0)) : mM l yX6_take cX6_take 4 (some .int) 3 65 0 0 D I J O sz [.ref a0, .int p0] (wMd I a0 a1 a2 a3 a4 a5 x) (qMi D sz (wMd I a0 a1 a2 a3 a4 a5 x) r (fun _ : Unit => wMd I a0 a1 a2 a3 a4 a5 y0)) := by
  refine mM_open (own := RX6) rfl (by decide +kernel) (Nat.le_of_ble_eq_true rfl) (fun p e s m below meth c ls E hnm hsz hw hl => ?_)
  obtain ⟨ws0, hws⟩ : ∃ ws0 : va_W, ws0 = wMd I a0 a1 a2 a3 a4 a5 x := ⟨_, rfl⟩
  have hw : fy D (va_A ws0 sz) s.heap s.heap [] (wMd I a0 a1 a2 a3 a4 a5 x) := by rw [hws]; exact hw
  rw [← hws]
  have hx := E.1
  have hb := E.2.1
  have hl : lv_has ls 4 [(0, .ref a0), (1, .int p0)] := hl
  unfold f_X6_take at hf
  refine lv_aload_n hx hb dX6_take_0 rfl (lv_at hl 0 rfl) ?_
  refine lv_iload_n hx hb dX6_take_1 rfl (lv_at hl 1 rfl) ?_
  obtain ⟨z1, h, hf⟩ := bd_s hf
  refine x_ci (x_rS E (As := [.int p0]) (rest := [.ref a0]) (mt_X6_isWalker l D I J O p0 z1 h) blR (x_pcR E x_none) ok_X6_isWalker q912 rfl hl.1 rfl (Nat.le_of_ble_eq_true rfl) ⟨Nat.le_of_ble_eq_true rfl, Nat.le_of_ble_eq_true rfl⟩ ⟨Nat.le_of_ble_eq_true rfl, Nat.le_of_ble_eq_true rfl⟩ dX6_take_2) ?_
  refine lv_if_ne (tgt := 12) hx hb dX6_take_5 (by decide) (fun hc => ?_) (fun hc => ?_)
  · rw [if_neg hc] at hf
    refine lv_aload_n hx hb dX6_take_12 rfl (lv_at hl 0 rfl) ?_
    refine x_get E hw.1 0 rfl rfl in6 1 (by decide) q802 rfl rfl dX6_take_13 ?_
    refine lv_iload_n hx hb dX6_take_16 rfl (lv_at hl 1 rfl) ?_
    obtain ⟨z2, h, hf⟩ := bd_s hf
    refine x_ci (x_rS E (As := [.ref a1, .int p0]) (rest := [.ref a0]) (mt_X6_stands l D I J O a1 p0 x.2.1 z2 h) blR (x_pcR E (x_pick0 hw.1 [1] rfl)) ok_X6_stands q915 rfl hl.1 rfl (Nat.le_of_ble_eq_true rfl) ⟨Nat.le_of_ble_eq_true rfl, Nat.le_of_ble_eq_true rfl⟩ ⟨Nat.le_of_ble_eq_true rfl, Nat.le_of_ble_eq_true rfl⟩ dX6_take_17) ?_
    refine lv_iconst (v := 1) hx hb dX6_take_20 (by decide) ?_
    refine lv_icmp_eq (tgt := 28) hx hb dX6_take_21 (by decide) (fun hc => ?_) (fun hc => ?_)
    · rw [if_pos hc] at hf
      refine lv_iconst (v := 0) hx hb dX6_take_28 (by decide) ?_
      exact k_X6_take_29 E a0 a1 a2 a3 a4 a5 r y0 p0 0 x hf _ _ hw _ (lv_sub hl [0, 1] rfl)
    · rw [if_neg hc] at hf
      refine lv_iconst (v := 2) hx hb dX6_take_24 (by decide) ?_
      refine lv_goto (tgt := 29) hx hb dX6_take_25 (by decide) ?_
      exact k_X6_take_29 E a0 a1 a2 a3 a4 a5 r y0 p0 2 x hf _ _ hw _ (lv_sub hl [0, 1] rfl)
  · rw [if_pos hc] at hf
    refine lv_iconst (v := 1) hx hb dX6_take_8 (by decide) ?_
    refine lv_goto (tgt := 29) hx hb dX6_take_9 (by decide) ?_
    exact k_X6_take_29 E a0 a1 a2 a3 a4 a5 r y0 p0 1 x hf _ _ hw _ (lv_sub hl [0, 1] rfl)
theorem ok_X6_firesOne : yS yX6_firesOne cX6_firesOne 3 (some .int) 2 := ⟨q951, q7, q950, by decide +kernel, by decide +kernel, by decide +kernel⟩
set_option maxRecDepth 100000 in
set_option maxHeartbeats 4000000 in
theorem k_X6_firesOne_74 {p : Program} {l : Launch} {e : Env} {s : State} {m : MethodId} {args : Array Value} {below : List Frame} {meth : Method} {c : Code} {D : va_G} {I J O : ClassId} (E : fx p s m args meth c cX6_firesOne RX6 3 (some .int) D I J O) (a0 : Nat)  {ws0 : va_W} {sz : Nat} (r : Int32) (y0 : Fn) : ∀ (v1 : Int32) (t0 : Int32) (x : Fn), f_X6_firesOne_74 v1 t0 x = some (r, y0) → ∀ (H : Heap) (locs : List Loc), fy D (va_A ws0 sz) s.heap H locs (wAr I a0 414 x) → ∀ ls : Array Slot, lv_has ls 3 [(1, .int v1)] → W p l e (rmB 7 161 0 0) s m args below meth c H locs 0 0 (MQ below (qMi D sz ws0 r (fun _ : Unit => wAr I a0 414 y0)) args s 0 0 (va_A ws0 sz)) (F0 m 74 ls [.int t0]) := by
  have hx := E.1
  have hb := E.2.1
  intro v1 t0 x hf H locs hw ls hl
  unfold f_X6_firesOne_74 at hf
  refine lv_istore_n (lv' := [(2, .int t0), (1, .int v1)]) hx hb dX6_firesOne_74 rfl hl (by decide) rfl (fun ls hl => ?_)
  refine lv_iload_n hx hb dX6_firesOne_75 rfl (lv_at hl 0 rfl) ?_
  refine lv_iconst (v := (-1)) hx hb dX6_firesOne_76 (by decide) ?_
  refine lv_icmp_ge (tgt := 84) hx hb dX6_firesOne_77 (by decide) (fun hc => ?_) (fun hc => ?_)
  · rw [if_pos hc] at hf
    refine lv_iload_n hx hb dX6_firesOne_84 rfl (lv_at hl 1 rfl) ?_
    refine lv_iconst (v := 1) hx hb dX6_firesOne_85 (by decide) ?_
    refine lv_iadd hx hb dX6_firesOne_86 ?_
    obtain ⟨he0, hr⟩ := Prod.mk.inj (Option.some.inj hf)
    have he1 := hr
    subst he1
    exact x_iM E () hw he0 dX6_firesOne_87
  · rw [if_neg hc] at hf
    refine lv_iload_n hx hb dX6_firesOne_80 rfl (lv_at hl 1 rfl) ?_
    refine lv_goto (tgt := 87) hx hb dX6_firesOne_81 (by decide) ?_
    obtain ⟨he0, hr⟩ := Prod.mk.inj (Option.some.inj hf)
    have he1 := hr
    subst he1
    exact x_iM E () hw he0 dX6_firesOne_87
set_option maxRecDepth 100000 in
set_option maxHeartbeats 4000000 in
theorem mt_X6_firesOne (l : Launch) (D : va_G) (I J O : ClassId) (a0 : Nat) (sz : Nat) (p1 : Int32) (x : Fn) (r : Int32) (y0 : Fn) (hf : f_X6_firesOne p1 x = some (r, y0)) : mM l yX6_firesOne cX6_firesOne 3 (some .int) 7 161 0 0 D I J O sz [.ref a0, .int p1] (wAr I a0 414 x) (qMi D sz (wAr I a0 414 x) r (fun _ : Unit => wAr I a0 414 y0)) := by
  refine mM_open (own := RX6) rfl (by decide +kernel) (Nat.le_of_ble_eq_true rfl) (fun p e s m below meth c ls E hnm hsz hw hl => ?_)
  obtain ⟨ws0, hws⟩ : ∃ ws0 : va_W, ws0 = wAr I a0 414 x := ⟨_, rfl⟩
  have hw : fy D (va_A ws0 sz) s.heap s.heap [] (wAr I a0 414 x) := by rw [hws]; exact hw
  rw [← hws]
  have hx := E.1
  have hb := E.2.1
  have hl : lv_has ls 3 [(0, .ref a0), (1, .int p1)] := hl
  unfold f_X6_firesOne at hf
  refine lv_aload_n hx hb dX6_firesOne_0 rfl (lv_at hl 0 rfl) ?_
  refine lv_bipush (v := 70) hx hb dX6_firesOne_1 (by decide) ?_
  refine lv_iconst (v := 5) hx hb dX6_firesOne_3 (by decide) ?_
  refine lv_iload_n hx hb dX6_firesOne_4 rfl (lv_at hl 1 rfl) ?_
  refine lv_imul hx hb dX6_firesOne_5 ?_
  refine lv_iadd hx hb dX6_firesOne_6 ?_
  refine lv_iconst (v := 4) hx hb dX6_firesOne_7 (by decide) ?_
  refine lv_iadd hx hb dX6_firesOne_8 ?_
  refine lv_dup2_11 hx hb dX6_firesOne_9 rfl rfl ?_
  obtain ⟨g, hf⟩ := gi_s hf
  refine x_ald E hw.1 0 rfl g dX6_firesOne_10 ?_
  refine lv_iconst (v := 1) hx hb dX6_firesOne_11 (by decide) ?_
  refine lv_iadd hx hb dX6_firesOne_12 ?_
  obtain ⟨g, hf⟩ := gi_s hf
  refine x_ast E hw 0 rfl g dX6_firesOne_13 (fun H locs hw => ?_)
  have hw : fy D (va_A ws0 sz) s.heap H locs (wAr I a0 414 (upd x ((70 + (5 * p1)) + 4).toNatClampNeg ((x ((70 + (5 * p1)) + 4).toNatClampNeg) + 1))) := hw
  refine lv_aload_n hx hb dX6_firesOne_14 rfl (lv_at hl 0 rfl) ?_
  refine lv_iload_n hx hb dX6_firesOne_15 rfl (lv_at hl 1 rfl) ?_
  refine lv_iconst (v := 3) hx hb dX6_firesOne_16 (by decide) ?_
  obtain ⟨z1, h, hf⟩ := bd_s hf
  refine x_ci (x_rS E (As := [.ref a0, .int p1, .int 3]) (rest := []) (mt_X6_of l D I J O a0 p1 3 (upd x ((70 + (5 * p1)) + 4).toNatClampNeg ((x ((70 + (5 * p1)) + 4).toNatClampNeg) + 1)) z1 h) blR (x_pcR E hw.1) ok_X6_of q864 rfl hl.1 rfl (Nat.le_of_ble_eq_true rfl) ⟨Nat.le_of_ble_eq_true rfl, Nat.le_of_ble_eq_true rfl⟩ ⟨Nat.le_of_ble_eq_true rfl, Nat.le_of_ble_eq_true rfl⟩ dX6_firesOne_17) ?_
  refine lv_iconst (v := 1) hx hb dX6_firesOne_20 (by decide) ?_
  refine lv_icmp_ne (tgt := 40) hx hb dX6_firesOne_21 (by decide) (fun hc => ?_) (fun hc => ?_)
  · rw [if_neg hc] at hf
    refine lv_aload_n hx hb dX6_firesOne_40 rfl (lv_at hl 0 rfl) ?_
    refine lv_iload_n hx hb dX6_firesOne_41 rfl (lv_at hl 1 rfl) ?_
    refine lv_iconst (v := 3) hx hb dX6_firesOne_42 (by decide) ?_
    obtain ⟨z2, h, hf⟩ := bd_s hf
    refine x_ci (x_rS E (As := [.ref a0, .int p1, .int 3]) (rest := []) (mt_X6_of l D I J O a0 p1 3 (upd x ((70 + (5 * p1)) + 4).toNatClampNeg ((x ((70 + (5 * p1)) + 4).toNatClampNeg) + 1)) z2 h) blR (x_pcR E hw.1) ok_X6_of q864 rfl hl.1 rfl (Nat.le_of_ble_eq_true rfl) ⟨Nat.le_of_ble_eq_true rfl, Nat.le_of_ble_eq_true rfl⟩ ⟨Nat.le_of_ble_eq_true rfl, Nat.le_of_ble_eq_true rfl⟩ dX6_firesOne_43) ?_
    refine lv_iconst (v := 2) hx hb dX6_firesOne_46 (by decide) ?_
    refine lv_icmp_ne (tgt := 73) hx hb dX6_firesOne_47 (by decide) (fun hc => ?_) (fun hc => ?_)
    · rw [if_neg hc] at hf
      refine lv_iconst (v := 0) hx hb dX6_firesOne_73 (by decide) ?_
      exact k_X6_firesOne_74 E a0 r y0 p1 0 (upd x ((70 + (5 * p1)) + 4).toNatClampNeg ((x ((70 + (5 * p1)) + 4).toNatClampNeg) + 1)) hf _ _ hw _ (lv_sub hl [1] rfl)
    · rw [if_pos hc] at hf
      refine lv_aload_n hx hb dX6_firesOne_50 rfl (lv_at hl 0 rfl) ?_
      refine lv_aload_n hx hb dX6_firesOne_51 rfl (lv_at hl 0 rfl) ?_
      refine lv_iconst (v := 1) hx hb dX6_firesOne_52 (by decide) ?_
      obtain ⟨g, hf⟩ := gi_s hf
      refine x_ald E hw.1 0 rfl g dX6_firesOne_53 ?_
      refine lv_aload_n hx hb dX6_firesOne_54 rfl (lv_at hl 0 rfl) ?_
      refine lv_iload_n hx hb dX6_firesOne_55 rfl (lv_at hl 1 rfl) ?_
      refine lv_iconst (v := 2) hx hb dX6_firesOne_56 (by decide) ?_
      obtain ⟨z3, h, hf⟩ := bd_s hf
      refine x_ci (x_rS E (As := [.ref a0, .int p1, .int 2]) (rest := [.int ((upd x ((70 + (5 * p1)) + 4).toNatClampNeg ((x ((70 + (5 * p1)) + 4).toNatClampNeg) + 1)) (1 : Int32).toNatClampNeg), .ref a0]) (mt_X6_of l D I J O a0 p1 2 (upd x ((70 + (5 * p1)) + 4).toNatClampNeg ((x ((70 + (5 * p1)) + 4).toNatClampNeg) + 1)) z3 h) blR (x_pcR E hw.1) ok_X6_of q864 rfl hl.1 rfl (Nat.le_of_ble_eq_true rfl) ⟨Nat.le_of_ble_eq_true rfl, Nat.le_of_ble_eq_true rfl⟩ ⟨Nat.le_of_ble_eq_true rfl, Nat.le_of_ble_eq_true rfl⟩ dX6_firesOne_57) ?_
      refine lv_aload_n hx hb dX6_firesOne_60 rfl (lv_at hl 0 rfl) ?_
      refine lv_iload_n hx hb dX6_firesOne_61 rfl (lv_at hl 1 rfl) ?_
      refine lv_iconst (v := 1) hx hb dX6_firesOne_62 (by decide) ?_
      obtain ⟨z4, h, hf⟩ := bd_s hf
      refine x_ci (x_rS E (As := [.ref a0, .int p1, .int 1]) (rest := [.int z3, .int ((upd x ((70 + (5 * p1)) + 4).toNatClampNeg ((x ((70 + (5 * p1)) + 4).toNatClampNeg) + 1)) (1 : Int32).toNatClampNeg), .ref a0]) (mt_X6_of l D I J O a0 p1 1 (upd x ((70 + (5 * p1)) + 4).toNatClampNeg ((x ((70 + (5 * p1)) + 4).toNatClampNeg) + 1)) z4 h) blR (x_pcR E hw.1) ok_X6_of q864 rfl hl.1 rfl (Nat.le_of_ble_eq_true rfl) ⟨Nat.le_of_ble_eq_true rfl, Nat.le_of_ble_eq_true rfl⟩ ⟨Nat.le_of_ble_eq_true rfl, Nat.le_of_ble_eq_true rfl⟩ dX6_firesOne_63) ?_
      refine lv_iconst (v := 0) hx hb dX6_firesOne_66 (by decide) ?_
      obtain ⟨z5, h, hf⟩ := bd_s hf
      refine x_mi0 hw [0] rfl rfl (x_rS E (As := [.ref a0, .int ((upd x ((70 + (5 * p1)) + 4).toNatClampNeg ((x ((70 + (5 * p1)) + 4).toNatClampNeg) + 1)) (1 : Int32).toNatClampNeg), .int z3, .int z4, .int 0]) (rest := []) (mt_X6_comes l D I J O a0 H.size ((upd x ((70 + (5 * p1)) + 4).toNatClampNeg ((x ((70 + (5 * p1)) + 4).toNatClampNeg) + 1)) (1 : Int32).toNatClampNeg) z3 z4 0 (upd x ((70 + (5 * p1)) + 4).toNatClampNeg ((x ((70 + (5 * p1)) + 4).toNatClampNeg) + 1)) z5.1 z5.2 h) blM (x_pcMQ0 E hw [0] rfl rfl) ok_X6_comes q878 rfl hl.1 rfl (Nat.le_of_ble_eq_true rfl) ⟨Nat.le_of_ble_eq_true rfl, Nat.le_of_ble_eq_true rfl⟩ ⟨Nat.le_of_ble_eq_true rfl, Nat.le_of_ble_eq_true rfl⟩ dX6_firesOne_67) (fun _ => rfl) (fun _ H locs hw => ?_)
      have hw : fy D (va_A ws0 sz) s.heap H locs (wAr I a0 414 z5.2) := hw
      refine lv_goto (tgt := 74) hx hb dX6_firesOne_70 (by decide) ?_
      exact k_X6_firesOne_74 E a0 r y0 p1 z5.1 z5.2 hf _ _ hw _ (lv_sub hl [1] rfl)
  · rw [if_pos hc] at hf
    refine lv_aload_n hx hb dX6_firesOne_24 rfl (lv_at hl 0 rfl) ?_
    refine lv_iload_n hx hb dX6_firesOne_25 rfl (lv_at hl 1 rfl) ?_
    obtain ⟨z6, h, hf⟩ := bd_s hf
    refine x_mi0 hw [0] rfl rfl (x_rS E (As := [.ref a0, .int p1]) (rest := []) (mt_X6_removes l D I J O a0 H.size p1 (upd x ((70 + (5 * p1)) + 4).toNatClampNeg ((x ((70 + (5 * p1)) + 4).toNatClampNeg) + 1)) z6.1 z6.2 h) blM (x_pcMQ0 E hw [0] rfl rfl) ok_X6_removes q892 rfl hl.1 rfl (Nat.le_of_ble_eq_true rfl) ⟨Nat.le_of_ble_eq_true rfl, Nat.le_of_ble_eq_true rfl⟩ ⟨Nat.le_of_ble_eq_true rfl, Nat.le_of_ble_eq_true rfl⟩ dX6_firesOne_26) (fun _ => rfl) (fun _ H locs hw => ?_)
    have hw : fy D (va_A ws0 sz) s.heap H locs (wAr I a0 414 z6.2) := hw
    refine lv_if_eq (tgt := 38) hx hb dX6_firesOne_29 (by decide) (fun hc => ?_) (fun hc => ?_)
    · rw [if_pos hc] at hf
      refine lv_iload_n hx hb dX6_firesOne_38 rfl (lv_at hl 1 rfl) ?_
      obtain ⟨he0, hr⟩ := Prod.mk.inj (Option.some.inj hf)
      have he1 := hr
      subst he1
      exact x_iM E () hw he0 dX6_firesOne_39
    · rw [if_neg hc] at hf
      refine lv_iload_n hx hb dX6_firesOne_32 rfl (lv_at hl 1 rfl) ?_
      refine lv_iconst (v := 1) hx hb dX6_firesOne_33 (by decide) ?_
      refine lv_iadd hx hb dX6_firesOne_34 ?_
      refine lv_goto (tgt := 39) hx hb dX6_firesOne_35 (by decide) ?_
      obtain ⟨he0, hr⟩ := Prod.mk.inj (Option.some.inj hf)
      have he1 := hr
      subst he1
      exact x_iM E () hw he0 dX6_firesOne_39
theorem ok_X6_fires : yS yX6_fires cX6_fires 4 (some .int) 1 := ⟨q945, q7, q944, by decide +kernel, by decide +kernel, by decide +kernel⟩
set_option maxRecDepth 100000 in
set_option maxHeartbeats 4000000 in
theorem k_X6_fires_9 {p : Program} {l : Launch} {e : Env} {s : State} {m : MethodId} {args : Array Value} {below : List Frame} {meth : Method} {c : Code} {D : va_G} {I J O : ClassId} (E : fx p s m args meth c cX6_fires RX6 4 (some .int) D I J O) (a0 : Nat)  {ws0 : va_W} {sz : Nat} (r : Int32) (y0 : Fn) : ∀ fu : Nat, ∀ (v1 : Int32) (v2 : Int32) (v3 : Int32) (x : Fn), f_X6_fires_9 fu v1 v2 v3 x = some (r, y0) → ∀ (H : Heap) (locs : List Loc), fy D (va_A ws0 sz) s.heap H locs (wAr I a0 414 x) → ∀ ls : Array Slot, lv_has ls 4 [(0, .ref a0), (1, .int v1), (2, .int v2), (3, .int v3)] → W p l e (rmB 8 183 0 0) s m args below meth c H locs 0 0 (MQ below (qMi D sz ws0 r (fun _ : Unit => wAr I a0 414 y0)) args s 0 0 (va_A ws0 sz)) (F0 m 9 ls []) := by
  have hx := E.1
  have hb := E.2.1
  intro fu
  induction fu with
  | zero =>
    intro v1 v2 v3 x hf H locs hw ls hl
    rw [f_X6_fires_9.eq_1] at hf
    cases hf
  | succ fu ih =>
    intro v1 v2 v3 x hf H locs hw ls hl
    rw [f_X6_fires_9.eq_2] at hf
    refine lv_iload_n hx hb dX6_fires_9 rfl (lv_at hl 1 rfl) ?_
    refine lv_if_le (tgt := 48) hx hb dX6_fires_10 (by decide) (fun hc => ?_) (fun hc => ?_)
    · rw [if_pos hc] at hf
      refine lv_aload_n hx hb dX6_fires_48 rfl (lv_at hl 0 rfl) ?_
      refine lv_iconst (v := 2) hx hb dX6_fires_49 (by decide) ?_
      refine lv_dup2_11 hx hb dX6_fires_50 rfl rfl ?_
      obtain ⟨g, hf⟩ := gi_s hf
      refine x_ald E hw.1 0 rfl g dX6_fires_51 ?_
      refine lv_iconst (v := 1) hx hb dX6_fires_52 (by decide) ?_
      refine lv_iadd hx hb dX6_fires_53 ?_
      obtain ⟨g, hf⟩ := gi_s hf
      refine x_ast E hw 0 rfl g dX6_fires_54 (fun H locs hw => ?_)
      have hw : fy D (va_A ws0 sz) s.heap H locs (wAr I a0 414 (upd x (2 : Int32).toNatClampNeg ((x (2 : Int32).toNatClampNeg) + 1))) := hw
      refine lv_iload_n hx hb dX6_fires_55 rfl (lv_at hl 2 rfl) ?_
      obtain ⟨he0, hr⟩ := Prod.mk.inj (Option.some.inj hf)
      have he1 := hr
      subst he1
      exact x_iM E () hw he0 dX6_fires_56
    · rw [if_neg hc] at hf
      refine lv_aload_n hx hb dX6_fires_13 rfl (lv_at hl 0 rfl) ?_
      refine lv_iload_n hx hb dX6_fires_14 rfl (lv_at hl 3 rfl) ?_
      obtain ⟨z2, h, hf⟩ := bd_s hf
      refine x_ci (x_rS E (As := [.ref a0, .int v3]) (rest := []) (mt_X6_isThing l D I J O a0 v3 x z2 h) blR (x_pcR E hw.1) ok_X6_isThing q861 rfl hl.1 rfl (Nat.le_of_ble_eq_true rfl) ⟨Nat.le_of_ble_eq_true rfl, Nat.le_of_ble_eq_true rfl⟩ ⟨Nat.le_of_ble_eq_true rfl, Nat.le_of_ble_eq_true rfl⟩ dX6_fires_15) ?_
      refine lv_if_eq (tgt := 42) hx hb dX6_fires_18 (by decide) (fun hc => ?_) (fun hc => ?_)
      · rw [if_pos hc] at hf
        refine lv_iinc (v := v3 + 1) (lv' := [(3, .int (v3 + 1)), (0, .ref a0), (1, .int v1), (2, .int v2)]) hx hb dX6_fires_42 hl (k := 3) rfl rfl (by decide) rfl (fun ls hl => ?_)
        refine lv_goto (tgt := 9) hx hb dX6_fires_45 (by decide) ?_
        exact ih v1 v2 (v3 + 1) x hf _ _ hw _ (lv_sub hl [1, 2, 3, 0] rfl)
      · rw [if_neg hc] at hf
        refine lv_iload_n hx hb dX6_fires_21 rfl (lv_at hl 2 rfl) ?_
        refine lv_aload_n hx hb dX6_fires_22 rfl (lv_at hl 0 rfl) ?_
        refine lv_iload_n hx hb dX6_fires_23 rfl (lv_at hl 3 rfl) ?_
        refine lv_iconst (v := 2) hx hb dX6_fires_24 (by decide) ?_
        obtain ⟨z3, h, hf⟩ := bd_s hf
        refine x_ci (x_rS E (As := [.ref a0, .int v3, .int 2]) (rest := [.int v2]) (mt_X6_of l D I J O a0 v3 2 x z3 h) blR (x_pcR E hw.1) ok_X6_of q864 rfl hl.1 rfl (Nat.le_of_ble_eq_true rfl) ⟨Nat.le_of_ble_eq_true rfl, Nat.le_of_ble_eq_true rfl⟩ ⟨Nat.le_of_ble_eq_true rfl, Nat.le_of_ble_eq_true rfl⟩ dX6_fires_25) ?_
        refine lv_iadd hx hb dX6_fires_28 ?_
        refine lv_istore_n (lv' := [(2, .int (v2 + z3)), (0, .ref a0), (1, .int v1), (3, .int v3)]) hx hb dX6_fires_29 rfl hl (by decide) rfl (fun ls hl => ?_)
        refine lv_aload_n hx hb dX6_fires_30 rfl (lv_at hl 1 rfl) ?_
        refine lv_iload_n hx hb dX6_fires_31 rfl (lv_at hl 3 rfl) ?_
        obtain ⟨z4, h, hf⟩ := bd_s hf
        refine x_mi0 hw [0] rfl rfl (x_rS E (As := [.ref a0, .int v3]) (rest := []) (mt_X6_firesOne l D I J O a0 H.size v3 x z4.1 z4.2 h) blM (x_pcMQ0 E hw [0] rfl rfl) ok_X6_firesOne q949 rfl hl.1 rfl (Nat.le_of_ble_eq_true rfl) ⟨Nat.le_of_ble_eq_true rfl, Nat.le_of_ble_eq_true rfl⟩ ⟨Nat.le_of_ble_eq_true rfl, Nat.le_of_ble_eq_true rfl⟩ dX6_fires_32) (fun _ => rfl) (fun _ H locs hw => ?_)
        have hw : fy D (va_A ws0 sz) s.heap H locs (wAr I a0 414 z4.2) := hw
        refine lv_istore_n (lv' := [(3, .int z4.1), (2, .int (v2 + z3)), (0, .ref a0), (1, .int v1)]) hx hb dX6_fires_35 rfl hl (by decide) rfl (fun ls hl => ?_)
        refine lv_iinc (v := v1 + (-1)) (lv' := [(1, .int (v1 + (-1))), (3, .int z4.1), (2, .int (v2 + z3)), (0, .ref a0)]) hx hb dX6_fires_36 hl (k := 3) rfl rfl (by decide) rfl (fun ls hl => ?_)
        refine lv_goto (tgt := 9) hx hb dX6_fires_39 (by decide) ?_
        exact ih (v1 + (-1)) (v2 + z3) z4.1 z4.2 hf _ _ hw _ (lv_sub hl [3, 0, 2, 1] rfl)
set_option maxRecDepth 100000 in
set_option maxHeartbeats 4000000 in
theorem mt_X6_fires (l : Launch) (D : va_G) (I J O : ClassId) (a0 : Nat) (sz : Nat)  (x : Fn) (r : Int32) (y0 : Fn) (hf : f_X6_fires x = some (r, y0)) : mM l yX6_fires cX6_fires 4 (some .int) 8 183 0 0 D I J O sz [.ref a0] (wAr I a0 414 x) (qMi D sz (wAr I a0 414 x) r (fun _ : Unit => wAr I a0 414 y0)) := by
  refine mM_open (own := RX6) rfl (by decide +kernel) (Nat.le_of_ble_eq_true rfl) (fun p e s m below meth c ls E hnm hsz hw hl => ?_)
  obtain ⟨ws0, hws⟩ : ∃ ws0 : va_W, ws0 = wAr I a0 414 x := ⟨_, rfl⟩
  have hw : fy D (va_A ws0 sz) s.heap s.heap [] (wAr I a0 414 x) := by rw [hws]; exact hw
  rw [← hws]
  have hx := E.1
  have hb := E.2.1
  have hl : lv_has ls 4 [(0, .ref a0)] := hl
  unfold f_X6_fires at hf
  refine lv_aload_n hx hb dX6_fires_0 rfl (lv_at hl 0 rfl) ?_
  obtain ⟨z1, h, hf⟩ := bd_s hf
  refine x_ci (x_rS E (As := [.ref a0]) (rest := []) (mt_X6_things l D I J O a0 x z1 h) blR (x_pcR E hw.1) ok_X6_things q946 rfl hl.1 rfl (Nat.le_of_ble_eq_true rfl) ⟨Nat.le_of_ble_eq_true rfl, Nat.le_of_ble_eq_true rfl⟩ ⟨Nat.le_of_ble_eq_true rfl, Nat.le_of_ble_eq_true rfl⟩ dX6_fires_1) ?_
  refine lv_istore_n (lv' := [(1, .int z1), (0, .ref a0)]) hx hb dX6_fires_4 rfl hl (by decide) rfl (fun ls hl => ?_)
  refine lv_iconst (v := 0) hx hb dX6_fires_5 (by decide) ?_
  refine lv_istore_n (lv' := [(2, .int 0), (1, .int z1), (0, .ref a0)]) hx hb dX6_fires_6 rfl hl (by decide) rfl (fun ls hl => ?_)
  refine lv_iconst (v := 0) hx hb dX6_fires_7 (by decide) ?_
  refine lv_istore_n (lv' := [(3, .int 0), (2, .int 0), (1, .int z1), (0, .ref a0)]) hx hb dX6_fires_8 rfl hl (by decide) rfl (fun ls hl => ?_)
  exact k_X6_fires_9 E a0 r y0 FU z1 0 0 x hf _ _ hw _ (lv_sub hl [3, 2, 1, 0] rfl)
theorem ok_X6_fire : yV yX6_fire cX6_fire 1 (some .int) 0 := ⟨q942, q7, q940, q941, by decide +kernel, by decide +kernel, by decide +kernel⟩
set_option maxRecDepth 100000 in
set_option maxHeartbeats 4000000 in
theorem mt_X6_fire (l : Launch) (D : va_G) (I J O : ClassId) (a0 a1 a2 a3 a4 a5 : Nat) (sz : Nat)  (x : MdC) (r : Int32) (y0 : MdC) (hf : f_X6_fire x = some (r, y0)) : mM l yX6_fire cX6_fire 1 (some .int) 9 206 0 0 D I J O sz [.ref a0] (wMd I a0 a1 a2 a3 a4 a5 x) (qMi D sz (wMd I a0 a1 a2 a3 a4 a5 x) r (fun _ : Unit => wMd I a0 a1 a2 a3 a4 a5 y0)) := by
  refine mM_open (own := RX6) rfl (by decide +kernel) (Nat.le_of_ble_eq_true rfl) (fun p e s m below meth c ls E hnm hsz hw hl => ?_)
  obtain ⟨ws0, hws⟩ : ∃ ws0 : va_W, ws0 = wMd I a0 a1 a2 a3 a4 a5 x := ⟨_, rfl⟩
  have hw : fy D (va_A ws0 sz) s.heap s.heap [] (wMd I a0 a1 a2 a3 a4 a5 x) := by rw [hws]; exact hw
  rw [← hws]
  have hx := E.1
  have hb := E.2.1
  have hl : lv_has ls 1 [(0, .ref a0)] := hl
  unfold f_X6_fire at hf
  refine lv_aload_n hx hb dX6_fire_0 rfl (lv_at hl 0 rfl) ?_
  refine lv_iconst (v := 0) hx hb dX6_fire_1 (by decide) ?_
  refine x_put E hw 0 rfl rfl in6 tyX6_ok nmX6 0 (by decide) q801 rfl rfl rfl rfl (Nat.le_of_ble_eq_true rfl) dX6_fire_2 (fun H locs hw => ?_)
  have hw : fy D (va_A ws0 sz) s.heap H locs (wMd I a0 a1 a2 a3 a4 a5 (0, x.2)) := hw
  refine lv_aload_n hx hb dX6_fire_5 rfl (lv_at hl 0 rfl) ?_
  obtain ⟨z1, h, hf⟩ := bd_s hf
  refine x_mv0 hw [0, 1, 2, 3, 4, 5] rfl rfl (x_rV E (As := []) (rest := []) (mt_X6_saves l D I J O a0 a1 a2 a3 a4 a5 H.size (0, x.2) z1 h) blM (x_recv E hw.1 0 6 rfl rfl rfl) (x_pcMQ0 E hw [0, 1, 2, 3, 4, 5] rfl rfl) ok_X6_saves q871 rfl hl.1 rfl (Nat.le_of_ble_eq_true rfl) ⟨Nat.le_of_ble_eq_true rfl, Nat.le_of_ble_eq_true rfl⟩ ⟨Nat.le_of_ble_eq_true rfl, Nat.le_of_ble_eq_true rfl⟩ dX6_fire_6) (fun _ => rfl) (fun _ H locs hw => ?_)
  have hw : fy D (va_A ws0 sz) s.heap H locs (wMd I a0 a1 a2 a3 a4 a5 z1) := hw
  refine lv_aload_n hx hb dX6_fire_9 rfl (lv_at hl 0 rfl) ?_
  refine x_get E hw.1 0 rfl rfl in6 1 (by decide) q802 rfl rfl dX6_fire_10 ?_
  obtain ⟨z2, h, hf⟩ := bd_s hf
  refine x_mi0 hw [1] rfl rfl (x_rS E (As := [.ref a1]) (rest := []) (mt_X6_fires l D I J O a1 H.size z1.2.1 z2.1 z2.2 h) blM (x_pcMQ0 E hw [1] rfl rfl) ok_X6_fires q943 rfl hl.1 rfl (Nat.le_of_ble_eq_true rfl) ⟨Nat.le_of_ble_eq_true rfl, Nat.le_of_ble_eq_true rfl⟩ ⟨Nat.le_of_ble_eq_true rfl, Nat.le_of_ble_eq_true rfl⟩ dX6_fire_13) (fun _ => rfl) (fun _ H locs hw => ?_)
  have hw : fy D (va_A ws0 sz) s.heap H locs (wMd I a0 a1 a2 a3 a4 a5 (z1.1, z2.2, z1.2.2)) := hw
  obtain ⟨he0, hr⟩ := Prod.mk.inj (Option.some.inj hf)
  have he1 := hr
  subst he1
  exact x_iM E () hw he0 dX6_fire_16
theorem ok_X6_lowestFrom : yS yX6_lowestFrom cX6_lowestFrom 5 (some .int) 2 := ⟨q958, q7, q957, by decide +kernel, by decide +kernel, by decide +kernel⟩
set_option maxRecDepth 100000 in
set_option maxHeartbeats 4000000 in
theorem k_X6_lowestFrom_66 {p : Program} {l : Launch} {e : Env} {s : State} {m : MethodId} {args : Array Value} {below : List Frame} {meth : Method} {c : Code} {D : va_G} {I J O : ClassId} (E : fx p s m args meth c cX6_lowestFrom RX6 5 (some .int) D I J O) (a0 : Nat)  (r : Int32) (k4 : Int32 → Int32 → Int32 → Fn → Option (Int32)) (hk4 : ∀ (v1 : Int32) (v2 : Int32) (v3 : Int32) (x : Fn), k4 v1 v2 v3 x = some r → va_P D vwCl (wAr I a0 414 x) s.heap → ∀ ls : Array Slot, lv_has ls 5 [(0, .ref a0), (1, .int v1), (2, .int v2), (3, .int v3)] → W p l e (rmB 2 43 0 0) s m args below meth c s.heap [] 0 0 (MQ below (qRi r) args s 0 0 (fun _ => False)) (F0 m 4 ls [])) : ∀ (v1 : Int32) (v3 : Int32) (t0 : Int32) (x : Fn), f_X6_lowestFrom_66 k4 v1 v3 t0 x = some r → va_P D vwCl (wAr I a0 414 x) s.heap → ∀ ls : Array Slot, lv_has ls 5 [(0, .ref a0), (1, .int v1), (3, .int v3)] → W p l e (rmB 2 43 0 0) s m args below meth c s.heap [] 0 0 (MQ below (qRi r) args s 0 0 (fun _ => False)) (F0 m 66 ls [.int t0]) := by
  have hx := E.1
  have hb := E.2.1
  intro v1 v3 t0 x hf hP ls hl
  unfold f_X6_lowestFrom_66 at hf
  refine lv_istore_n (lv' := [(2, .int t0), (0, .ref a0), (1, .int v1), (3, .int v3)]) hx hb dX6_lowestFrom_66 rfl hl (by decide) rfl (fun ls hl => ?_)
  refine lv_iinc (v := v3 + 1) (lv' := [(3, .int (v3 + 1)), (2, .int t0), (0, .ref a0), (1, .int v1)]) hx hb dX6_lowestFrom_67 hl (k := 3) rfl rfl (by decide) rfl (fun ls hl => ?_)
  refine lv_goto (tgt := 4) hx hb dX6_lowestFrom_70 (by decide) ?_
  exact hk4 v1 t0 (v3 + 1) x hf hP _ (lv_sub hl [2, 3, 1, 0] rfl)
set_option maxRecDepth 100000 in
set_option maxHeartbeats 4000000 in
theorem k_X6_lowestFrom_61 {p : Program} {l : Launch} {e : Env} {s : State} {m : MethodId} {args : Array Value} {below : List Frame} {meth : Method} {c : Code} {D : va_G} {I J O : ClassId} (E : fx p s m args meth c cX6_lowestFrom RX6 5 (some .int) D I J O) (a0 : Nat)  (r : Int32) (k4 : Int32 → Int32 → Int32 → Fn → Option (Int32)) (hk4 : ∀ (v1 : Int32) (v2 : Int32) (v3 : Int32) (x : Fn), k4 v1 v2 v3 x = some r → va_P D vwCl (wAr I a0 414 x) s.heap → ∀ ls : Array Slot, lv_has ls 5 [(0, .ref a0), (1, .int v1), (2, .int v2), (3, .int v3)] → W p l e (rmB 2 43 0 0) s m args below meth c s.heap [] 0 0 (MQ below (qRi r) args s 0 0 (fun _ => False)) (F0 m 4 ls [])) : ∀ (v1 : Int32) (v3 : Int32) (x : Fn), f_X6_lowestFrom_61 k4 v1 v3 x = some r → va_P D vwCl (wAr I a0 414 x) s.heap → ∀ ls : Array Slot, lv_has ls 5 [(0, .ref a0), (1, .int v1), (3, .int v3)] → W p l e (rmB 2 43 0 0) s m args below meth c s.heap [] 0 0 (MQ below (qRi r) args s 0 0 (fun _ => False)) (F0 m 61 ls []) := by
  have hx := E.1
  have hb := E.2.1
  intro v1 v3 x hf hP ls hl
  unfold f_X6_lowestFrom_61 at hf
  refine lv_iload_n hx hb dX6_lowestFrom_61 rfl (lv_at hl 2 rfl) ?_
  refine lv_goto (tgt := 66) hx hb dX6_lowestFrom_62 (by decide) ?_
  exact k_X6_lowestFrom_66 E a0 r k4 hk4 v1 v3 v3 x hf hP _ (lv_sub hl [0, 1, 2] rfl)
set_option maxRecDepth 100000 in
set_option maxHeartbeats 4000000 in
theorem k_X6_lowestFrom_65 {p : Program} {l : Launch} {e : Env} {s : State} {m : MethodId} {args : Array Value} {below : List Frame} {meth : Method} {c : Code} {D : va_G} {I J O : ClassId} (E : fx p s m args meth c cX6_lowestFrom RX6 5 (some .int) D I J O) (a0 : Nat)  (r : Int32) (k4 : Int32 → Int32 → Int32 → Fn → Option (Int32)) (hk4 : ∀ (v1 : Int32) (v2 : Int32) (v3 : Int32) (x : Fn), k4 v1 v2 v3 x = some r → va_P D vwCl (wAr I a0 414 x) s.heap → ∀ ls : Array Slot, lv_has ls 5 [(0, .ref a0), (1, .int v1), (2, .int v2), (3, .int v3)] → W p l e (rmB 2 43 0 0) s m args below meth c s.heap [] 0 0 (MQ below (qRi r) args s 0 0 (fun _ => False)) (F0 m 4 ls [])) : ∀ (v1 : Int32) (v2 : Int32) (v3 : Int32) (x : Fn), f_X6_lowestFrom_65 k4 v1 v2 v3 x = some r → va_P D vwCl (wAr I a0 414 x) s.heap → ∀ ls : Array Slot, lv_has ls 5 [(0, .ref a0), (1, .int v1), (2, .int v2), (3, .int v3)] → W p l e (rmB 2 43 0 0) s m args below meth c s.heap [] 0 0 (MQ below (qRi r) args s 0 0 (fun _ => False)) (F0 m 65 ls []) := by
  have hx := E.1
  have hb := E.2.1
  intro v1 v2 v3 x hf hP ls hl
  unfold f_X6_lowestFrom_65 at hf
  refine lv_iload_n hx hb dX6_lowestFrom_65 rfl (lv_at hl 2 rfl) ?_
  exact k_X6_lowestFrom_66 E a0 r k4 hk4 v1 v3 v2 x hf hP _ (lv_sub hl [0, 1, 3] rfl)
set_option maxRecDepth 100000 in
set_option maxHeartbeats 4000000 in
theorem k_X6_lowestFrom_34 {p : Program} {l : Launch} {e : Env} {s : State} {m : MethodId} {args : Array Value} {below : List Frame} {meth : Method} {c : Code} {D : va_G} {I J O : ClassId} (E : fx p s m args meth c cX6_lowestFrom RX6 5 (some .int) D I J O) (a0 : Nat)  (r : Int32) (k4 : Int32 → Int32 → Int32 → Fn → Option (Int32)) (hk4 : ∀ (v1 : Int32) (v2 : Int32) (v3 : Int32) (x : Fn), k4 v1 v2 v3 x = some r → va_P D vwCl (wAr I a0 414 x) s.heap → ∀ ls : Array Slot, lv_has ls 5 [(0, .ref a0), (1, .int v1), (2, .int v2), (3, .int v3)] → W p l e (rmB 2 43 0 0) s m args below meth c s.heap [] 0 0 (MQ below (qRi r) args s 0 0 (fun _ => False)) (F0 m 4 ls [])) : ∀ (v1 : Int32) (v2 : Int32) (v3 : Int32) (t0 : Int32) (x : Fn), f_X6_lowestFrom_34 k4 v1 v2 v3 t0 x = some r → va_P D vwCl (wAr I a0 414 x) s.heap → ∀ ls : Array Slot, lv_has ls 5 [(0, .ref a0), (1, .int v1), (2, .int v2), (3, .int v3)] → W p l e (rmB 2 43 0 0) s m args below meth c s.heap [] 0 0 (MQ below (qRi r) args s 0 0 (fun _ => False)) (F0 m 34 ls [.int t0]) := by
  have hx := E.1
  have hb := E.2.1
  intro v1 v2 v3 t0 x hf hP ls hl
  unfold f_X6_lowestFrom_34 at hf
  refine lv_istore (lv' := [(4, .int t0), (0, .ref a0), (1, .int v1), (2, .int v2), (3, .int v3)]) hx hb dX6_lowestFrom_34 hl (by decide) rfl (fun ls hl => ?_)
  refine lv_iload hx hb dX6_lowestFrom_36 (lv_at hl 0 rfl) ?_
  refine lv_if_eq (tgt := 65) hx hb dX6_lowestFrom_38 (by decide) (fun hc => ?_) (fun hc => ?_)
  · rw [if_pos hc] at hf
    exact k_X6_lowestFrom_65 E a0 r k4 hk4 v1 v2 v3 x hf hP _ (lv_sub hl [1, 2, 3, 4] rfl)
  · rw [if_neg hc] at hf
    refine lv_iload_n hx hb dX6_lowestFrom_41 rfl (lv_at hl 3 rfl) ?_
    refine lv_iconst (v := (-1)) hx hb dX6_lowestFrom_42 (by decide) ?_
    refine lv_icmp_eq (tgt := 61) hx hb dX6_lowestFrom_43 (by decide) (fun hc => ?_) (fun hc => ?_)
    · rw [if_pos hc] at hf
      exact k_X6_lowestFrom_61 E a0 r k4 hk4 v1 v3 x hf hP _ (lv_sub hl [1, 2, 4] rfl)
    · rw [if_neg hc] at hf
      refine lv_aload_n hx hb dX6_lowestFrom_46 rfl (lv_at hl 1 rfl) ?_
      refine lv_iload_n hx hb dX6_lowestFrom_47 rfl (lv_at hl 4 rfl) ?_
      refine lv_iconst (v := 0) hx hb dX6_lowestFrom_48 (by decide) ?_
      obtain ⟨z3, h, hf⟩ := bd_s hf
      refine x_ci (x_rS E (As := [.ref a0, .int v3, .int 0]) (rest := []) (mt_X6_of l D I J O a0 v3 0 x z3 h) blR (x_pcR E hP) ok_X6_of q864 rfl hl.1 rfl (Nat.le_of_ble_eq_true rfl) ⟨Nat.le_of_ble_eq_true rfl, Nat.le_of_ble_eq_true rfl⟩ ⟨Nat.le_of_ble_eq_true rfl, Nat.le_of_ble_eq_true rfl⟩ dX6_lowestFrom_49) ?_
      refine lv_aload_n hx hb dX6_lowestFrom_52 rfl (lv_at hl 1 rfl) ?_
      refine lv_iload_n hx hb dX6_lowestFrom_53 rfl (lv_at hl 3 rfl) ?_
      refine lv_iconst (v := 0) hx hb dX6_lowestFrom_54 (by decide) ?_
      obtain ⟨z4, h, hf⟩ := bd_s hf
      refine x_ci (x_rS E (As := [.ref a0, .int v2, .int 0]) (rest := [.int z3]) (mt_X6_of l D I J O a0 v2 0 x z4 h) blR (x_pcR E hP) ok_X6_of q864 rfl hl.1 rfl (Nat.le_of_ble_eq_true rfl) ⟨Nat.le_of_ble_eq_true rfl, Nat.le_of_ble_eq_true rfl⟩ ⟨Nat.le_of_ble_eq_true rfl, Nat.le_of_ble_eq_true rfl⟩ dX6_lowestFrom_55) ?_
      refine lv_icmp_ge (tgt := 65) hx hb dX6_lowestFrom_58 (by decide) (fun hc => ?_) (fun hc => ?_)
      · rw [if_pos hc] at hf
        exact k_X6_lowestFrom_65 E a0 r k4 hk4 v1 v2 v3 x hf hP _ (lv_sub hl [1, 2, 3, 4] rfl)
      · rw [if_neg hc] at hf
        exact k_X6_lowestFrom_61 E a0 r k4 hk4 v1 v3 x hf hP _ (lv_sub hl [1, 2, 4] rfl)
set_option maxRecDepth 100000 in
set_option maxHeartbeats 4000000 in
theorem k_X6_lowestFrom_33 {p : Program} {l : Launch} {e : Env} {s : State} {m : MethodId} {args : Array Value} {below : List Frame} {meth : Method} {c : Code} {D : va_G} {I J O : ClassId} (E : fx p s m args meth c cX6_lowestFrom RX6 5 (some .int) D I J O) (a0 : Nat)  (r : Int32) (k4 : Int32 → Int32 → Int32 → Fn → Option (Int32)) (hk4 : ∀ (v1 : Int32) (v2 : Int32) (v3 : Int32) (x : Fn), k4 v1 v2 v3 x = some r → va_P D vwCl (wAr I a0 414 x) s.heap → ∀ ls : Array Slot, lv_has ls 5 [(0, .ref a0), (1, .int v1), (2, .int v2), (3, .int v3)] → W p l e (rmB 2 43 0 0) s m args below meth c s.heap [] 0 0 (MQ below (qRi r) args s 0 0 (fun _ => False)) (F0 m 4 ls [])) : ∀ (v1 : Int32) (v2 : Int32) (v3 : Int32) (x : Fn), f_X6_lowestFrom_33 k4 v1 v2 v3 x = some r → va_P D vwCl (wAr I a0 414 x) s.heap → ∀ ls : Array Slot, lv_has ls 5 [(0, .ref a0), (1, .int v1), (2, .int v2), (3, .int v3)] → W p l e (rmB 2 43 0 0) s m args below meth c s.heap [] 0 0 (MQ below (qRi r) args s 0 0 (fun _ => False)) (F0 m 33 ls []) := by
  have hx := E.1
  have hb := E.2.1
  intro v1 v2 v3 x hf hP ls hl
  unfold f_X6_lowestFrom_33 at hf
  refine lv_iconst (v := 0) hx hb dX6_lowestFrom_33 (by decide) ?_
  exact k_X6_lowestFrom_34 E a0 r k4 hk4 v1 v2 v3 0 x hf hP _ (lv_sub hl [0, 1, 2, 3] rfl)
set_option maxRecDepth 100000 in
set_option maxHeartbeats 4000000 in
theorem k_X6_lowestFrom_4 {p : Program} {l : Launch} {e : Env} {s : State} {m : MethodId} {args : Array Value} {below : List Frame} {meth : Method} {c : Code} {D : va_G} {I J O : ClassId} (E : fx p s m args meth c cX6_lowestFrom RX6 5 (some .int) D I J O) (a0 : Nat)  (r : Int32) : ∀ fu : Nat, ∀ (v1 : Int32) (v2 : Int32) (v3 : Int32) (x : Fn), f_X6_lowestFrom_4 fu v1 v2 v3 x = some r → va_P D vwCl (wAr I a0 414 x) s.heap → ∀ ls : Array Slot, lv_has ls 5 [(0, .ref a0), (1, .int v1), (2, .int v2), (3, .int v3)] → W p l e (rmB 2 43 0 0) s m args below meth c s.heap [] 0 0 (MQ below (qRi r) args s 0 0 (fun _ => False)) (F0 m 4 ls []) := by
  have hx := E.1
  have hb := E.2.1
  intro fu
  induction fu with
  | zero =>
    intro v1 v2 v3 x hf hP ls hl
    rw [f_X6_lowestFrom_4.eq_1] at hf
    cases hf
  | succ fu ih =>
    intro v1 v2 v3 x hf hP ls hl
    rw [f_X6_lowestFrom_4.eq_2] at hf
    refine lv_iload_n hx hb dX6_lowestFrom_4 rfl (lv_at hl 3 rfl) ?_
    refine lv_aload_n hx hb dX6_lowestFrom_5 rfl (lv_at hl 0 rfl) ?_
    refine lv_iconst (v := 1) hx hb dX6_lowestFrom_6 (by decide) ?_
    obtain ⟨g, hf⟩ := gi_s hf
    refine x_ald E hP 0 rfl g dX6_lowestFrom_7 ?_
    refine lv_icmp_ge (tgt := 73) hx hb dX6_lowestFrom_8 (by decide) (fun hc => ?_) (fun hc => ?_)
    · rw [if_pos hc] at hf
      refine lv_iload_n hx hb dX6_lowestFrom_73 rfl (lv_at hl 2 rfl) ?_
      exact x_iR E (Option.some.inj hf) dX6_lowestFrom_74
    · rw [if_neg hc] at hf
      refine lv_aload_n hx hb dX6_lowestFrom_11 rfl (lv_at hl 0 rfl) ?_
      refine lv_iload_n hx hb dX6_lowestFrom_12 rfl (lv_at hl 3 rfl) ?_
      obtain ⟨z1, h, hf⟩ := bd_s hf
      refine x_ci (x_rS E (As := [.ref a0, .int v3]) (rest := []) (mt_X6_isThing l D I J O a0 v3 x z1 h) blR (x_pcR E hP) ok_X6_isThing q861 rfl hl.1 rfl (Nat.le_of_ble_eq_true rfl) ⟨Nat.le_of_ble_eq_true rfl, Nat.le_of_ble_eq_true rfl⟩ ⟨Nat.le_of_ble_eq_true rfl, Nat.le_of_ble_eq_true rfl⟩ dX6_lowestFrom_13) ?_
      refine lv_if_eq (tgt := 33) hx hb dX6_lowestFrom_16 (by decide) (fun hc => ?_) (fun hc => ?_)
      · rw [if_pos hc] at hf
        exact k_X6_lowestFrom_33 E a0 r (f_X6_lowestFrom_4 fu) ih v1 v2 v3 x hf hP _ (lv_sub hl [0, 1, 2, 3] rfl)
      · rw [if_neg hc] at hf
        refine lv_aload_n hx hb dX6_lowestFrom_19 rfl (lv_at hl 0 rfl) ?_
        refine lv_iload_n hx hb dX6_lowestFrom_20 rfl (lv_at hl 3 rfl) ?_
        refine lv_iconst (v := 0) hx hb dX6_lowestFrom_21 (by decide) ?_
        obtain ⟨z2, h, hf⟩ := bd_s hf
        refine x_ci (x_rS E (As := [.ref a0, .int v3, .int 0]) (rest := []) (mt_X6_of l D I J O a0 v3 0 x z2 h) blR (x_pcR E hP) ok_X6_of q864 rfl hl.1 rfl (Nat.le_of_ble_eq_true rfl) ⟨Nat.le_of_ble_eq_true rfl, Nat.le_of_ble_eq_true rfl⟩ ⟨Nat.le_of_ble_eq_true rfl, Nat.le_of_ble_eq_true rfl⟩ dX6_lowestFrom_22) ?_
        refine lv_iload_n hx hb dX6_lowestFrom_25 rfl (lv_at hl 1 rfl) ?_
        refine lv_icmp_lt (tgt := 33) hx hb dX6_lowestFrom_26 (by decide) (fun hc => ?_) (fun hc => ?_)
        · rw [if_pos hc] at hf
          exact k_X6_lowestFrom_33 E a0 r (f_X6_lowestFrom_4 fu) ih v1 v2 v3 x hf hP _ (lv_sub hl [0, 1, 2, 3] rfl)
        · rw [if_neg hc] at hf
          refine lv_iconst (v := 1) hx hb dX6_lowestFrom_29 (by decide) ?_
          refine lv_goto (tgt := 34) hx hb dX6_lowestFrom_30 (by decide) ?_
          exact k_X6_lowestFrom_34 E a0 r (f_X6_lowestFrom_4 fu) ih v1 v2 v3 1 x hf hP _ (lv_sub hl [0, 1, 2, 3] rfl)
set_option maxRecDepth 100000 in
set_option maxHeartbeats 4000000 in
theorem mt_X6_lowestFrom (l : Launch) (D : va_G) (I J O : ClassId) (a0 : Nat) (p1 : Int32) (x : Fn) (r : Int32) (hf : f_X6_lowestFrom p1 x = some r) : mR l yX6_lowestFrom cX6_lowestFrom 5 (some .int) 2 43 D I J O [.ref a0, .int p1] (wAr I a0 414 x) (qRi r) := by
  refine mR_open (own := RX6) rfl (by decide +kernel) (Nat.le_of_ble_eq_true rfl) (fun p e s m below meth c ls E hP hl => ?_)
  have hx := E.1
  have hb := E.2.1
  have hl : lv_has ls 5 [(0, .ref a0), (1, .int p1)] := hl
  unfold f_X6_lowestFrom at hf
  refine lv_iconst (v := (-1)) hx hb dX6_lowestFrom_0 (by decide) ?_
  refine lv_istore_n (lv' := [(2, .int (-1)), (0, .ref a0), (1, .int p1)]) hx hb dX6_lowestFrom_1 rfl hl (by decide) rfl (fun ls hl => ?_)
  refine lv_iconst (v := 0) hx hb dX6_lowestFrom_2 (by decide) ?_
  refine lv_istore_n (lv' := [(3, .int 0), (2, .int (-1)), (0, .ref a0), (1, .int p1)]) hx hb dX6_lowestFrom_3 rfl hl (by decide) rfl (fun ls hl => ?_)
  exact k_X6_lowestFrom_4 E a0 r FU p1 (-1) 0 x hf hP _ (lv_sub hl [2, 3, 1, 0] rfl)
theorem ok_X6_together : yV yX6_together cX6_together 5 (some .int) 0 := ⟨q955, q7, q953, q954, by decide +kernel, by decide +kernel, by decide +kernel⟩
set_option maxRecDepth 100000 in
set_option maxHeartbeats 4000000 in
theorem k_X6_together_70 {p : Program} {l : Launch} {e : Env} {s : State} {m : MethodId} {args : Array Value} {below : List Frame} {meth : Method} {c : Code} {D : va_G} {I J O : ClassId} (E : fx p s m args meth c cX6_together RX6 5 (some .int) D I J O) (a0 a1 a2 a3 a4 a5 : Nat)  {ws0 : va_W} {sz : Nat} (r : Int32) (y0 : MdC) (k22 : Int32 → Int32 → Int32 → MdC → Option (Int32 × MdC)) (hk22 : ∀ (v1 : Int32) (v2 : Int32) (v3 : Int32) (x : MdC), k22 v1 v2 v3 x = some (r, y0) → ∀ (H : Heap) (locs : List Loc), fy D (va_A ws0 sz) s.heap H locs (wMd I a0 a1 a2 a3 a4 a5 x) → ∀ ls : Array Slot, lv_has ls 5 [(0, .ref a0), (1, .int v1), (2, .int v2), (3, .int v3)] → W p l e (rmB 3 67 0 0) s m args below meth c H locs 0 0 (MQ below (qMi D sz ws0 r (fun _ : Unit => wMd I a0 a1 a2 a3 a4 a5 y0)) args s 0 0 (va_A ws0 sz)) (F0 m 22 ls [])) : ∀ (v1 : Int32) (v2 : Int32) (v3 : Int32) (x : MdC), f_X6_together_70 k22 v1 v2 v3 x = some (r, y0) → ∀ (H : Heap) (locs : List Loc), fy D (va_A ws0 sz) s.heap H locs (wMd I a0 a1 a2 a3 a4 a5 x) → ∀ ls : Array Slot, lv_has ls 5 [(0, .ref a0), (1, .int v1), (2, .int v2), (3, .int v3)] → W p l e (rmB 3 67 0 0) s m args below meth c H locs 0 0 (MQ below (qMi D sz ws0 r (fun _ : Unit => wMd I a0 a1 a2 a3 a4 a5 y0)) args s 0 0 (va_A ws0 sz)) (F0 m 70 ls []) := by
  have hx := E.1
  have hb := E.2.1
  intro v1 v2 v3 x hf H locs hw ls hl
  unfold f_X6_together_70 at hf
  refine lv_iload_n hx hb dX6_together_70 rfl (lv_at hl 2 rfl) ?_
  refine lv_aload_n hx hb dX6_together_71 rfl (lv_at hl 0 rfl) ?_
  refine x_get E hw.1 0 rfl rfl in6 1 (by decide) q802 rfl rfl dX6_together_72 ?_
  refine lv_iload_n hx hb dX6_together_75 rfl (lv_at hl 3 rfl) ?_
  refine lv_iconst (v := 1) hx hb dX6_together_76 (by decide) ?_
  obtain ⟨z5, h, hf⟩ := bd_s hf
  refine x_ci (x_rS E (As := [.ref a1, .int v3, .int 1]) (rest := [.int v2]) (mt_X6_of l D I J O a1 v3 1 x.2.1 z5 h) blR (x_pcR E (x_pick0 hw.1 [1] rfl)) ok_X6_of q864 rfl hl.1 rfl (Nat.le_of_ble_eq_true rfl) ⟨Nat.le_of_ble_eq_true rfl, Nat.le_of_ble_eq_true rfl⟩ ⟨Nat.le_of_ble_eq_true rfl, Nat.le_of_ble_eq_true rfl⟩ dX6_together_77) ?_
  refine lv_iadd hx hb dX6_together_80 ?_
  refine lv_istore_n (lv' := [(2, .int (v2 + z5)), (0, .ref a0), (1, .int v1), (3, .int v3)]) hx hb dX6_together_81 rfl hl (by decide) rfl (fun ls hl => ?_)
  refine lv_aload_n hx hb dX6_together_82 rfl (lv_at hl 1 rfl) ?_
  refine x_get E hw.1 0 rfl rfl in6 1 (by decide) q802 rfl rfl dX6_together_83 ?_
  refine lv_iload_n hx hb dX6_together_86 rfl (lv_at hl 0 rfl) ?_
  obtain ⟨z6, h, hf⟩ := bd_s hf
  refine x_ci (x_rS E (As := [.ref a1, .int (v2 + z5)]) (rest := []) (mt_X6_lowestFrom l D I J O a1 (v2 + z5) x.2.1 z6 h) blR (x_pcR E (x_pick0 hw.1 [1] rfl)) ok_X6_lowestFrom q956 rfl hl.1 rfl (Nat.le_of_ble_eq_true rfl) ⟨Nat.le_of_ble_eq_true rfl, Nat.le_of_ble_eq_true rfl⟩ ⟨Nat.le_of_ble_eq_true rfl, Nat.le_of_ble_eq_true rfl⟩ dX6_together_87) ?_
  refine lv_istore_n (lv' := [(3, .int z6), (2, .int (v2 + z5)), (0, .ref a0), (1, .int v1)]) hx hb dX6_together_90 rfl hl (by decide) rfl (fun ls hl => ?_)
  refine lv_goto (tgt := 22) hx hb dX6_together_91 (by decide) ?_
  exact hk22 v1 (v2 + z5) z6 x hf _ _ hw _ (lv_sub hl [2, 3, 1, 0] rfl)
set_option maxRecDepth 100000 in
set_option maxHeartbeats 4000000 in
theorem k_X6_together_22 {p : Program} {l : Launch} {e : Env} {s : State} {m : MethodId} {args : Array Value} {below : List Frame} {meth : Method} {c : Code} {D : va_G} {I J O : ClassId} (E : fx p s m args meth c cX6_together RX6 5 (some .int) D I J O) (a0 a1 a2 a3 a4 a5 : Nat)  {ws0 : va_W} {sz : Nat} (r : Int32) (y0 : MdC) : ∀ fu : Nat, ∀ (v1 : Int32) (v2 : Int32) (v3 : Int32) (x : MdC), f_X6_together_22 fu v1 v2 v3 x = some (r, y0) → ∀ (H : Heap) (locs : List Loc), fy D (va_A ws0 sz) s.heap H locs (wMd I a0 a1 a2 a3 a4 a5 x) → ∀ ls : Array Slot, lv_has ls 5 [(0, .ref a0), (1, .int v1), (2, .int v2), (3, .int v3)] → W p l e (rmB 3 67 0 0) s m args below meth c H locs 0 0 (MQ below (qMi D sz ws0 r (fun _ : Unit => wMd I a0 a1 a2 a3 a4 a5 y0)) args s 0 0 (va_A ws0 sz)) (F0 m 22 ls []) := by
  have hx := E.1
  have hb := E.2.1
  intro fu
  induction fu with
  | zero =>
    intro v1 v2 v3 x hf H locs hw ls hl
    rw [f_X6_together_22.eq_1] at hf
    cases hf
  | succ fu ih =>
    intro v1 v2 v3 x hf H locs hw ls hl
    rw [f_X6_together_22.eq_2] at hf
    refine lv_iload_n hx hb dX6_together_22 rfl (lv_at hl 3 rfl) ?_
    refine lv_iconst (v := (-1)) hx hb dX6_together_23 (by decide) ?_
    refine lv_icmp_eq (tgt := 94) hx hb dX6_together_24 (by decide) (fun hc => ?_) (fun hc => ?_)
    · rw [if_pos hc] at hf
      refine lv_aload_n hx hb dX6_together_94 rfl (lv_at hl 0 rfl) ?_
      refine x_get E hw.1 0 rfl rfl in6 1 (by decide) q802 rfl rfl dX6_together_95 ?_
      refine lv_iconst (v := 5) hx hb dX6_together_98 (by decide) ?_
      refine lv_dup2_11 hx hb dX6_together_99 rfl rfl ?_
      obtain ⟨g, hf⟩ := gi_s hf
      refine x_ald E hw.1 1 rfl g dX6_together_100 ?_
      refine lv_iload_n hx hb dX6_together_101 rfl (lv_at hl 1 rfl) ?_
      refine lv_iadd hx hb dX6_together_102 ?_
      obtain ⟨g, hf⟩ := gi_s hf
      refine x_ast E hw 1 rfl g dX6_together_103 (fun H locs hw => ?_)
      have hw : fy D (va_A ws0 sz) s.heap H locs (wMd I a0 a1 a2 a3 a4 a5 (x.1, (upd x.2.1 (5 : Int32).toNatClampNeg ((x.2.1 (5 : Int32).toNatClampNeg) + v1)), x.2.2)) := hw
      refine lv_iload_n hx hb dX6_together_104 rfl (lv_at hl 1 rfl) ?_
      obtain ⟨he0, hr⟩ := Prod.mk.inj (Option.some.inj hf)
      have he1 := hr
      subst he1
      exact x_iM E () hw he0 dX6_together_105
    · rw [if_neg hc] at hf
      refine lv_aload_n hx hb dX6_together_27 rfl (lv_at hl 0 rfl) ?_
      refine x_get E hw.1 0 rfl rfl in6 1 (by decide) q802 rfl rfl dX6_together_28 ?_
      refine lv_iload_n hx hb dX6_together_31 rfl (lv_at hl 3 rfl) ?_
      refine lv_iconst (v := 0) hx hb dX6_together_32 (by decide) ?_
      obtain ⟨z3, h, hf⟩ := bd_s hf
      refine x_ci (x_rS E (As := [.ref a1, .int v3, .int 0]) (rest := []) (mt_X6_of l D I J O a1 v3 0 x.2.1 z3 h) blR (x_pcR E (x_pick0 hw.1 [1] rfl)) ok_X6_of q864 rfl hl.1 rfl (Nat.le_of_ble_eq_true rfl) ⟨Nat.le_of_ble_eq_true rfl, Nat.le_of_ble_eq_true rfl⟩ ⟨Nat.le_of_ble_eq_true rfl, Nat.le_of_ble_eq_true rfl⟩ dX6_together_33) ?_
      refine lv_istore (lv' := [(4, .int z3), (0, .ref a0), (1, .int v1), (2, .int v2), (3, .int v3)]) hx hb dX6_together_36 hl (by decide) rfl (fun ls hl => ?_)
      refine lv_iload hx hb dX6_together_38 (lv_at hl 0 rfl) ?_
      refine lv_iload_n hx hb dX6_together_40 rfl (lv_at hl 3 rfl) ?_
      refine lv_icmp_eq (tgt := 70) hx hb dX6_together_41 (by decide) (fun hc => ?_) (fun hc => ?_)
      · rw [if_pos hc] at hf
        exact k_X6_together_70 E a0 a1 a2 a3 a4 a5 r y0 (f_X6_together_22 fu) ih v1 v2 v3 x hf _ _ hw _ (lv_sub hl [1, 2, 3, 4] rfl)
      · rw [if_neg hc] at hf
        refine lv_aload_n hx hb dX6_together_44 rfl (lv_at hl 1 rfl) ?_
        refine x_get E hw.1 0 rfl rfl in6 1 (by decide) q802 rfl rfl dX6_together_45 ?_
        refine lv_iload hx hb dX6_together_48 (lv_at hl 0 rfl) ?_
        obtain ⟨z4, h, hf⟩ := bd_s hf
        refine x_mv0 hw [1] rfl rfl (x_rS E (As := [.ref a1, .int z3]) (rest := []) (mt_X6_leaves l D I J O a1 H.size z3 x.2.1 z4 h) blM (x_pcMQ0 E hw [1] rfl rfl) ok_X6_leaves q895 rfl hl.1 rfl (Nat.le_of_ble_eq_true rfl) ⟨Nat.le_of_ble_eq_true rfl, Nat.le_of_ble_eq_true rfl⟩ ⟨Nat.le_of_ble_eq_true rfl, Nat.le_of_ble_eq_true rfl⟩ dX6_together_50) (fun _ => rfl) (fun _ H locs hw => ?_)
        have hw : fy D (va_A ws0 sz) s.heap H locs (wMd I a0 a1 a2 a3 a4 a5 (x.1, z4, x.2.2)) := hw
        refine lv_aload_n hx hb dX6_together_53 rfl (lv_at hl 1 rfl) ?_
        refine x_get E hw.1 0 rfl rfl in6 1 (by decide) q802 rfl rfl dX6_together_54 ?_
        refine lv_bipush (v := 70) hx hb dX6_together_57 (by decide) ?_
        refine lv_iconst (v := 5) hx hb dX6_together_59 (by decide) ?_
        refine lv_iload_n hx hb dX6_together_60 rfl (lv_at hl 4 rfl) ?_
        refine lv_imul hx hb dX6_together_61 ?_
        refine lv_iadd hx hb dX6_together_62 ?_
        refine lv_iconst (v := 0) hx hb dX6_together_63 (by decide) ?_
        refine lv_iadd hx hb dX6_together_64 ?_
        refine lv_iload_n hx hb dX6_together_65 rfl (lv_at hl 3 rfl) ?_
        obtain ⟨g, hf⟩ := gi_s hf
        refine x_ast E hw 1 rfl g dX6_together_66 (fun H locs hw => ?_)
        have hw : fy D (va_A ws0 sz) s.heap H locs (wMd I a0 a1 a2 a3 a4 a5 (x.1, (upd z4 ((70 + (5 * v3)) + 0).toNatClampNeg v2), x.2.2)) := hw
        refine lv_iinc (v := v1 + 1) (lv' := [(1, .int (v1 + 1)), (4, .int z3), (0, .ref a0), (2, .int v2), (3, .int v3)]) hx hb dX6_together_67 hl (k := 2) rfl rfl (by decide) rfl (fun ls hl => ?_)
        exact k_X6_together_70 E a0 a1 a2 a3 a4 a5 r y0 (f_X6_together_22 fu) ih (v1 + 1) v2 v3 (x.1, (upd z4 ((70 + (5 * v3)) + 0).toNatClampNeg v2), x.2.2) hf _ _ hw _ (lv_sub hl [2, 0, 3, 4] rfl)
set_option maxRecDepth 100000 in
set_option maxHeartbeats 4000000 in
theorem mt_X6_together (l : Launch) (D : va_G) (I J O : ClassId) (a0 a1 a2 a3 a4 a5 : Nat) (sz : Nat)  (x : MdC) (r : Int32) (y0 : MdC) (hf : f_X6_together x = some (r, y0)) : mM l yX6_together cX6_together 5 (some .int) 3 67 0 0 D I J O sz [.ref a0] (wMd I a0 a1 a2 a3 a4 a5 x) (qMi D sz (wMd I a0 a1 a2 a3 a4 a5 x) r (fun _ : Unit => wMd I a0 a1 a2 a3 a4 a5 y0)) := by
  refine mM_open (own := RX6) rfl (by decide +kernel) (Nat.le_of_ble_eq_true rfl) (fun p e s m below meth c ls E hnm hsz hw hl => ?_)
  obtain ⟨ws0, hws⟩ : ∃ ws0 : va_W, ws0 = wMd I a0 a1 a2 a3 a4 a5 x := ⟨_, rfl⟩
  have hw : fy D (va_A ws0 sz) s.heap s.heap [] (wMd I a0 a1 a2 a3 a4 a5 x) := by rw [hws]; exact hw
  rw [← hws]
  have hx := E.1
  have hb := E.2.1
  have hl : lv_has ls 5 [(0, .ref a0)] := hl
  unfold f_X6_together at hf
  refine lv_aload_n hx hb dX6_together_0 rfl (lv_at hl 0 rfl) ?_
  refine lv_iconst (v := 0) hx hb dX6_together_1 (by decide) ?_
  refine x_put E hw 0 rfl rfl in6 tyX6_ok nmX6 0 (by decide) q801 rfl rfl rfl rfl (Nat.le_of_ble_eq_true rfl) dX6_together_2 (fun H locs hw => ?_)
  have hw : fy D (va_A ws0 sz) s.heap H locs (wMd I a0 a1 a2 a3 a4 a5 (0, x.2)) := hw
  refine lv_aload_n hx hb dX6_together_5 rfl (lv_at hl 0 rfl) ?_
  obtain ⟨z1, h, hf⟩ := bd_s hf
  refine x_mv0 hw [0, 1, 2, 3, 4, 5] rfl rfl (x_rV E (As := []) (rest := []) (mt_X6_saves l D I J O a0 a1 a2 a3 a4 a5 H.size (0, x.2) z1 h) blM (x_recv E hw.1 0 6 rfl rfl rfl) (x_pcMQ0 E hw [0, 1, 2, 3, 4, 5] rfl rfl) ok_X6_saves q871 rfl hl.1 rfl (Nat.le_of_ble_eq_true rfl) ⟨Nat.le_of_ble_eq_true rfl, Nat.le_of_ble_eq_true rfl⟩ ⟨Nat.le_of_ble_eq_true rfl, Nat.le_of_ble_eq_true rfl⟩ dX6_together_6) (fun _ => rfl) (fun _ H locs hw => ?_)
  have hw : fy D (va_A ws0 sz) s.heap H locs (wMd I a0 a1 a2 a3 a4 a5 z1) := hw
  refine lv_iconst (v := 0) hx hb dX6_together_9 (by decide) ?_
  refine lv_istore_n (lv' := [(1, .int 0), (0, .ref a0)]) hx hb dX6_together_10 rfl hl (by decide) rfl (fun ls hl => ?_)
  refine lv_iconst (v := 0) hx hb dX6_together_11 (by decide) ?_
  refine lv_istore_n (lv' := [(2, .int 0), (1, .int 0), (0, .ref a0)]) hx hb dX6_together_12 rfl hl (by decide) rfl (fun ls hl => ?_)
  refine lv_aload_n hx hb dX6_together_13 rfl (lv_at hl 2 rfl) ?_
  refine x_get E hw.1 0 rfl rfl in6 1 (by decide) q802 rfl rfl dX6_together_14 ?_
  refine lv_iconst (v := 0) hx hb dX6_together_17 (by decide) ?_
  obtain ⟨z2, h, hf⟩ := bd_s hf
  refine x_ci (x_rS E (As := [.ref a1, .int 0]) (rest := []) (mt_X6_lowestFrom l D I J O a1 0 z1.2.1 z2 h) blR (x_pcR E (x_pick0 hw.1 [1] rfl)) ok_X6_lowestFrom q956 rfl hl.1 rfl (Nat.le_of_ble_eq_true rfl) ⟨Nat.le_of_ble_eq_true rfl, Nat.le_of_ble_eq_true rfl⟩ ⟨Nat.le_of_ble_eq_true rfl, Nat.le_of_ble_eq_true rfl⟩ dX6_together_18) ?_
  refine lv_istore_n (lv' := [(3, .int z2), (2, .int 0), (1, .int 0), (0, .ref a0)]) hx hb dX6_together_21 rfl hl (by decide) rfl (fun ls hl => ?_)
  exact k_X6_together_22 E a0 a1 a2 a3 a4 a5 r y0 FU 0 0 z2 z1 hf _ _ hw _ (lv_sub hl [3, 2, 1, 0] rfl)
theorem ok_X6_append : yV yX6_append cX6_append 2 (some .int) 1 := ⟨q962, q7, q960, q961, by decide +kernel, by decide +kernel, by decide +kernel⟩
set_option maxRecDepth 100000 in
set_option maxHeartbeats 4000000 in
theorem k_X6_append_30 {p : Program} {l : Launch} {e : Env} {s : State} {m : MethodId} {args : Array Value} {below : List Frame} {meth : Method} {c : Code} {D : va_G} {I J O : ClassId} (E : fx p s m args meth c cX6_append RX6 2 (some .int) D I J O) (a0 a1 a2 a3 a4 a5 : Nat)  {ws0 : va_W} {sz : Nat} (r : Int32) (y0 : MdC) : ∀ (v1 : Int32) (t1 : Int32) (x : MdC), f_X6_append_30 v1 t1 x = some (r, y0) → ∀ (H : Heap) (locs : List Loc), fy D (va_A ws0 sz) s.heap H locs (wMd I a0 a1 a2 a3 a4 a5 x) → ∀ ls : Array Slot, lv_has ls 2 [(0, .ref a0), (1, .int v1)] → W p l e (rmB 1 22 0 0) s m args below meth c H locs 0 0 (MQ below (qMi D sz ws0 r (fun _ : Unit => wMd I a0 a1 a2 a3 a4 a5 y0)) args s 0 0 (va_A ws0 sz)) (F0 m 30 ls [.int t1, .ref a0]) := by
  have hx := E.1
  have hb := E.2.1
  intro v1 t1 x hf H locs hw ls hl
  unfold f_X6_append_30 at hf
  obtain ⟨z2, h, hf⟩ := bd_s hf
  refine x_mi0 hw [0, 1, 2, 3, 4, 5] rfl rfl (x_rV E (As := [.int t1]) (rest := []) (mt_X6_refuses l D I J O a0 a1 a2 a3 a4 a5 H.size t1 x z2.1 z2.2 h) blM (x_recv E hw.1 0 6 rfl rfl rfl) (x_pcMQ0 E hw [0, 1, 2, 3, 4, 5] rfl rfl) ok_X6_refuses q867 rfl hl.1 rfl (Nat.le_of_ble_eq_true rfl) ⟨Nat.le_of_ble_eq_true rfl, Nat.le_of_ble_eq_true rfl⟩ ⟨Nat.le_of_ble_eq_true rfl, Nat.le_of_ble_eq_true rfl⟩ dX6_append_30) (fun _ => rfl) (fun _ H locs hw => ?_)
  have hw : fy D (va_A ws0 sz) s.heap H locs (wMd I a0 a1 a2 a3 a4 a5 z2.2) := hw
  refine lv_if_eq (tgt := 38) hx hb dX6_append_33 (by decide) (fun hc => ?_) (fun hc => ?_)
  · rw [if_pos hc] at hf
    refine lv_aload_n hx hb dX6_append_38 rfl (lv_at hl 0 rfl) ?_
    refine x_get E hw.1 0 rfl rfl in6 5 (by decide) q806 rfl rfl dX6_append_39 ?_
    refine lv_aload_n hx hb dX6_append_42 rfl (lv_at hl 0 rfl) ?_
    refine x_get E hw.1 0 rfl rfl in6 6 (by decide) q807 rfl rfl dX6_append_43 ?_
    refine lv_iload_n hx hb dX6_append_46 rfl (lv_at hl 1 rfl) ?_
    obtain ⟨g, hf⟩ := gi_s hf
    refine x_ast E hw 4 rfl g dX6_append_47 (fun H locs hw => ?_)
    have hw : fy D (va_A ws0 sz) s.heap H locs (wMd I a0 a1 a2 a3 a4 a5 (z2.2.1, z2.2.2.1, z2.2.2.2.1, z2.2.2.2.2.1, z2.2.2.2.2.2.1, (upd z2.2.2.2.2.2.2.1 z2.2.2.2.2.2.2.2.1.toNatClampNeg v1), z2.2.2.2.2.2.2.2)) := hw
    refine lv_aload_n hx hb dX6_append_48 rfl (lv_at hl 0 rfl) ?_
    refine lv_dup hx hb dX6_append_49 rfl ?_
    refine x_get E hw.1 0 rfl rfl in6 6 (by decide) q807 rfl rfl dX6_append_50 ?_
    refine lv_iconst (v := 1) hx hb dX6_append_53 (by decide) ?_
    refine lv_iadd hx hb dX6_append_54 ?_
    refine x_put E hw 0 rfl rfl in6 tyX6_ok nmX6 6 (by decide) q807 rfl rfl rfl rfl (Nat.le_of_ble_eq_true rfl) dX6_append_55 (fun H locs hw => ?_)
    have hw : fy D (va_A ws0 sz) s.heap H locs (wMd I a0 a1 a2 a3 a4 a5 (z2.2.1, z2.2.2.1, z2.2.2.2.1, z2.2.2.2.2.1, z2.2.2.2.2.2.1, (upd z2.2.2.2.2.2.2.1 z2.2.2.2.2.2.2.2.1.toNatClampNeg v1), z2.2.2.2.2.2.2.2.1 + 1, z2.2.2.2.2.2.2.2.2)) := hw
    refine lv_aload_n hx hb dX6_append_58 rfl (lv_at hl 0 rfl) ?_
    refine x_get E hw.1 0 rfl rfl in6 6 (by decide) q807 rfl rfl dX6_append_59 ?_
    obtain ⟨he0, hr⟩ := Prod.mk.inj (Option.some.inj hf)
    have he1 := hr
    subst he1
    exact x_iM E () hw he0 dX6_append_62
  · rw [if_neg hc] at hf
    refine lv_iconst (v := 0) hx hb dX6_append_36 (by decide) ?_
    obtain ⟨he0, hr⟩ := Prod.mk.inj (Option.some.inj hf)
    have he1 := hr
    subst he1
    exact x_iM E () hw he0 dX6_append_37
set_option maxRecDepth 100000 in
set_option maxHeartbeats 4000000 in
theorem mt_X6_append (l : Launch) (D : va_G) (I J O : ClassId) (a0 a1 a2 a3 a4 a5 : Nat) (sz : Nat) (p0 : Int32) (x : MdC) (r : Int32) (y0 : MdC) (hf : f_X6_append p0 x = some (r, y0)) : mM l yX6_append cX6_append 2 (some .int) 1 22 0 0 D I J O sz [.ref a0, .int p0] (wMd I a0 a1 a2 a3 a4 a5 x) (qMi D sz (wMd I a0 a1 a2 a3 a4 a5 x) r (fun _ : Unit => wMd I a0 a1 a2 a3 a4 a5 y0)) := by
  refine mM_open (own := RX6) rfl (by decide +kernel) (Nat.le_of_ble_eq_true rfl) (fun p e s m below meth c ls E hnm hsz hw hl => ?_)
  obtain ⟨ws0, hws⟩ : ∃ ws0 : va_W, ws0 = wMd I a0 a1 a2 a3 a4 a5 x := ⟨_, rfl⟩
  have hw : fy D (va_A ws0 sz) s.heap s.heap [] (wMd I a0 a1 a2 a3 a4 a5 x) := by rw [hws]; exact hw
  rw [← hws]
  have hx := E.1
  have hb := E.2.1
  have hl : lv_has ls 2 [(0, .ref a0), (1, .int p0)] := hl
  unfold f_X6_append at hf
  refine lv_aload_n hx hb dX6_append_0 rfl (lv_at hl 0 rfl) ?_
  refine lv_iload_n hx hb dX6_append_1 rfl (lv_at hl 1 rfl) ?_
  refine lv_bipush (v := 33) hx hb dX6_append_2 (by decide) ?_
  refine lv_bipush (v := 126) hx hb dX6_append_4 (by decide) ?_
  obtain ⟨z1, h, hf⟩ := bd_s hf
  refine x_ci (x_rS E (As := [.int p0, .int 33, .int 126]) (rest := [.ref a0]) (mt_X6_in l D I J O p0 33 126 z1 h) blR (x_pcR E x_none) ok_X6_in q846 rfl hl.1 rfl (Nat.le_of_ble_eq_true rfl) ⟨Nat.le_of_ble_eq_true rfl, Nat.le_of_ble_eq_true rfl⟩ ⟨Nat.le_of_ble_eq_true rfl, Nat.le_of_ble_eq_true rfl⟩ dX6_append_6) ?_
  refine lv_if_ne (tgt := 16) hx hb dX6_append_9 (by decide) (fun hc => ?_) (fun hc => ?_)
  · rw [if_neg hc] at hf
    refine lv_aload_n hx hb dX6_append_16 rfl (lv_at hl 0 rfl) ?_
    refine x_get E hw.1 0 rfl rfl in6 6 (by decide) q807 rfl rfl dX6_append_17 ?_
    refine lv_bipush (v := 60) hx hb dX6_append_20 (by decide) ?_
    refine lv_icmp_ne (tgt := 29) hx hb dX6_append_22 (by decide) (fun hc => ?_) (fun hc => ?_)
    · rw [if_neg hc] at hf
      refine lv_iconst (v := 0) hx hb dX6_append_29 (by decide) ?_
      exact k_X6_append_30 E a0 a1 a2 a3 a4 a5 r y0 p0 0 x hf _ _ hw _ (lv_sub hl [0, 1] rfl)
    · rw [if_pos hc] at hf
      refine lv_iconst (v := 2) hx hb dX6_append_25 (by decide) ?_
      refine lv_goto (tgt := 30) hx hb dX6_append_26 (by decide) ?_
      exact k_X6_append_30 E a0 a1 a2 a3 a4 a5 r y0 p0 2 x hf _ _ hw _ (lv_sub hl [0, 1] rfl)
  · rw [if_pos hc] at hf
    refine lv_iconst (v := 1) hx hb dX6_append_12 (by decide) ?_
    refine lv_goto (tgt := 30) hx hb dX6_append_13 (by decide) ?_
    exact k_X6_append_30 E a0 a1 a2 a3 a4 a5 r y0 p0 1 x hf _ _ hw _ (lv_sub hl [0, 1] rfl)
theorem ok_X6_clearBuffer : yV yX6_clearBuffer cX6_clearBuffer 2 (some .int) 0 := ⟨q966, q7, q964, q965, by decide +kernel, by decide +kernel, by decide +kernel⟩
set_option maxRecDepth 100000 in
set_option maxHeartbeats 4000000 in
theorem mt_X6_clearBuffer (l : Launch) (D : va_G) (I J O : ClassId) (a0 a1 a2 a3 a4 a5 : Nat) (sz : Nat)  (x : MdC) (r : Int32) (y0 : MdC) (hf : f_X6_clearBuffer x = some (r, y0)) : mM l yX6_clearBuffer cX6_clearBuffer 2 (some .int) 0 0 0 0 D I J O sz [.ref a0] (wMd I a0 a1 a2 a3 a4 a5 x) (qMi D sz (wMd I a0 a1 a2 a3 a4 a5 x) r (fun _ : Unit => wMd I a0 a1 a2 a3 a4 a5 y0)) := by
  refine mM_open (own := RX6) rfl (by decide +kernel) (Nat.le_of_ble_eq_true rfl) (fun p e s m below meth c ls E hnm hsz hw hl => ?_)
  obtain ⟨ws0, hws⟩ : ∃ ws0 : va_W, ws0 = wMd I a0 a1 a2 a3 a4 a5 x := ⟨_, rfl⟩
  have hw : fy D (va_A ws0 sz) s.heap s.heap [] (wMd I a0 a1 a2 a3 a4 a5 x) := by rw [hws]; exact hw
  rw [← hws]
  have hx := E.1
  have hb := E.2.1
  have hl : lv_has ls 2 [(0, .ref a0)] := hl
  unfold f_X6_clearBuffer at hf
  refine lv_aload_n hx hb dX6_clearBuffer_0 rfl (lv_at hl 0 rfl) ?_
  refine lv_iconst (v := 0) hx hb dX6_clearBuffer_1 (by decide) ?_
  refine x_put E hw 0 rfl rfl in6 tyX6_ok nmX6 0 (by decide) q801 rfl rfl rfl rfl (Nat.le_of_ble_eq_true rfl) dX6_clearBuffer_2 (fun H locs hw => ?_)
  have hw : fy D (va_A ws0 sz) s.heap H locs (wMd I a0 a1 a2 a3 a4 a5 (0, x.2)) := hw
  refine lv_aload_n hx hb dX6_clearBuffer_5 rfl (lv_at hl 0 rfl) ?_
  refine x_get E hw.1 0 rfl rfl in6 6 (by decide) q807 rfl rfl dX6_clearBuffer_6 ?_
  refine lv_istore_n (lv' := [(1, .int x.2.2.2.2.2.2.1), (0, .ref a0)]) hx hb dX6_clearBuffer_9 rfl hl (by decide) rfl (fun ls hl => ?_)
  refine lv_aload_n hx hb dX6_clearBuffer_10 rfl (lv_at hl 1 rfl) ?_
  refine lv_iconst (v := 0) hx hb dX6_clearBuffer_11 (by decide) ?_
  refine x_put E hw 0 rfl rfl in6 tyX6_ok nmX6 6 (by decide) q807 rfl rfl rfl rfl (Nat.le_of_ble_eq_true rfl) dX6_clearBuffer_12 (fun H locs hw => ?_)
  have hw : fy D (va_A ws0 sz) s.heap H locs (wMd I a0 a1 a2 a3 a4 a5 (0, x.2.1, x.2.2.1, x.2.2.2.1, x.2.2.2.2.1, x.2.2.2.2.2.1, 0, x.2.2.2.2.2.2.2)) := hw
  refine lv_iload_n hx hb dX6_clearBuffer_15 rfl (lv_at hl 0 rfl) ?_
  obtain ⟨he0, hr⟩ := Prod.mk.inj (Option.some.inj hf)
  have he1 := hr
  subst he1
  exact x_iM E () hw he0 dX6_clearBuffer_16
theorem ok_X6_sees : yV yX6_sees cX6_sees 3 (some .boolean) 2 := ⟨q986, q7, q985, qs24, by decide +kernel, by decide +kernel, by decide +kernel⟩
set_option maxRecDepth 100000 in
set_option maxHeartbeats 4000000 in
theorem mt_X6_sees (l : Launch) (D : va_G) (I J O : ClassId) (a0 a1 a2 a3 a4 a5 : Nat) (p0 : Int32) (p1 : Int32) (x : MdC) (r : Int32) (hf : f_X6_sees p0 p1 x = some r) : mR l yX6_sees cX6_sees 3 (some .boolean) 1 22 D I J O [.ref a0, .int p0, .int p1] (wMd I a0 a1 a2 a3 a4 a5 x) (qRi r) := by
  refine mR_open (own := RX6) rfl (by decide +kernel) (Nat.le_of_ble_eq_true rfl) (fun p e s m below meth c ls E hP hl => ?_)
  have hx := E.1
  have hb := E.2.1
  have hl : lv_has ls 3 [(0, .ref a0), (1, .int p0), (2, .int p1)] := hl
  unfold f_X6_sees at hf
  refine lv_aload_n hx hb dX6_sees_0 rfl (lv_at hl 0 rfl) ?_
  refine x_get E hP 0 rfl rfl in6 7 (by decide) q808 rfl rfl dX6_sees_1 ?_
  refine lv_aload_n hx hb dX6_sees_4 rfl (lv_at hl 0 rfl) ?_
  refine x_get E hP 0 rfl rfl in6 6 (by decide) q807 rfl rfl dX6_sees_5 ?_
  refine lv_icmp_ge (tgt := 32) hx hb dX6_sees_8 (by decide) (fun hc => ?_) (fun hc => ?_)
  · rw [if_pos hc] at hf
    refine lv_iconst (v := 0) hx hb dX6_sees_32 (by decide) ?_
    exact x_zR E (Or.inl rfl) (Option.some.inj hf) dX6_sees_33
  · rw [if_neg hc] at hf
    refine lv_aload_n hx hb dX6_sees_11 rfl (lv_at hl 0 rfl) ?_
    refine x_get E hP 0 rfl rfl in6 5 (by decide) q806 rfl rfl dX6_sees_12 ?_
    refine lv_aload_n hx hb dX6_sees_15 rfl (lv_at hl 0 rfl) ?_
    refine x_get E hP 0 rfl rfl in6 7 (by decide) q808 rfl rfl dX6_sees_16 ?_
    obtain ⟨g, hf⟩ := gi_s hf
    refine x_ald E hP 4 rfl g dX6_sees_19 ?_
    refine lv_iload_n hx hb dX6_sees_20 rfl (lv_at hl 1 rfl) ?_
    refine lv_iload_n hx hb dX6_sees_21 rfl (lv_at hl 2 rfl) ?_
    obtain ⟨z1, h, hf⟩ := bd_s hf
    refine x_ci (x_rS E (As := [.int (x.2.2.2.2.2.1 x.2.2.2.2.2.2.2.1.toNatClampNeg), .int p0, .int p1]) (rest := []) (mt_X6_in l D I J O (x.2.2.2.2.2.1 x.2.2.2.2.2.2.2.1.toNatClampNeg) p0 p1 z1 h) blR (x_pcR E x_none) ok_X6_in q846 rfl hl.1 rfl (Nat.le_of_ble_eq_true rfl) ⟨Nat.le_of_ble_eq_true rfl, Nat.le_of_ble_eq_true rfl⟩ ⟨Nat.le_of_ble_eq_true rfl, Nat.le_of_ble_eq_true rfl⟩ dX6_sees_22) ?_
    refine lv_if_eq (tgt := 32) hx hb dX6_sees_25 (by decide) (fun hc => ?_) (fun hc => ?_)
    · rw [if_pos hc] at hf
      refine lv_iconst (v := 0) hx hb dX6_sees_32 (by decide) ?_
      exact x_zR E (Or.inl rfl) (Option.some.inj hf) dX6_sees_33
    · rw [if_neg hc] at hf
      refine lv_iconst (v := 1) hx hb dX6_sees_28 (by decide) ?_
      refine lv_goto (tgt := 33) hx hb dX6_sees_29 (by decide) ?_
      exact x_zR E (Or.inr rfl) (Option.some.inj hf) dX6_sees_33
theorem ok_X6_takes : yV yX6_takes cX6_takes 3 (some .boolean) 1 := ⟨q990, q7, q989, qs25, by decide +kernel, by decide +kernel, by decide +kernel⟩
set_option maxRecDepth 100000 in
set_option maxHeartbeats 4000000 in
theorem k_X6_takes_21 {p : Program} {l : Launch} {e : Env} {s : State} {m : MethodId} {args : Array Value} {below : List Frame} {meth : Method} {c : Code} {D : va_G} {I J O : ClassId} (E : fx p s m args meth c cX6_takes RX6 3 (some .boolean) D I J O) (a0 a1 a2 a3 a4 a5 : Nat)  {ws0 : va_W} {sz : Nat} (r : Int32) (y0 : MdC) : ∀ (v2 : Int32) (t1 : Int32) (t2 : Int32) (x : MdC), f_X6_takes_21 v2 t1 t2 x = some (r, y0) → ∀ (H : Heap) (locs : List Loc), fy D (va_A ws0 sz) s.heap H locs (wMd I a0 a1 a2 a3 a4 a5 x) → ∀ ls : Array Slot, lv_has ls 3 [(2, .int v2)] → W p l e (rmB 2 44 0 0) s m args below meth c H locs 0 0 (MQ below (qMi D sz ws0 r (fun _ : Unit => wMd I a0 a1 a2 a3 a4 a5 y0)) args s 0 0 (va_A ws0 sz)) (F0 m 21 ls [.int t2, .int t1, .ref a0]) := by
  have hx := E.1
  have hb := E.2.1
  intro v2 t1 t2 x hf H locs hw ls hl
  unfold f_X6_takes_21 at hf
  refine lv_iadd hx hb dX6_takes_21 ?_
  refine x_put E hw 0 rfl rfl in6 tyX6_ok nmX6 7 (by decide) q808 rfl rfl rfl rfl (Nat.le_of_ble_eq_true rfl) dX6_takes_22 (fun H locs hw => ?_)
  have hw : fy D (va_A ws0 sz) s.heap H locs (wMd I a0 a1 a2 a3 a4 a5 (x.1, x.2.1, x.2.2.1, x.2.2.2.1, x.2.2.2.2.1, x.2.2.2.2.2.1, x.2.2.2.2.2.2.1, t1 + t2, x.2.2.2.2.2.2.2.2)) := hw
  refine lv_iload_n hx hb dX6_takes_25 rfl (lv_at hl 0 rfl) ?_
  obtain ⟨g, hf⟩ := gz_s hf
  obtain ⟨he0, hr⟩ := Prod.mk.inj (Option.some.inj hf)
  have he1 := hr
  subst he1
  exact x_zM E () hw g he0 dX6_takes_26
set_option maxRecDepth 100000 in
set_option maxHeartbeats 4000000 in
theorem mt_X6_takes (l : Launch) (D : va_G) (I J O : ClassId) (a0 a1 a2 a3 a4 a5 : Nat) (sz : Nat) (p0 : Int32) (x : MdC) (r : Int32) (y0 : MdC) (hf : f_X6_takes p0 x = some (r, y0)) : mM l yX6_takes cX6_takes 3 (some .boolean) 2 44 0 0 D I J O sz [.ref a0, .int p0] (wMd I a0 a1 a2 a3 a4 a5 x) (qMi D sz (wMd I a0 a1 a2 a3 a4 a5 x) r (fun _ : Unit => wMd I a0 a1 a2 a3 a4 a5 y0)) := by
  refine mM_open (own := RX6) rfl (by decide +kernel) (Nat.le_of_ble_eq_true rfl) (fun p e s m below meth c ls E hnm hsz hw hl => ?_)
  obtain ⟨ws0, hws⟩ : ∃ ws0 : va_W, ws0 = wMd I a0 a1 a2 a3 a4 a5 x := ⟨_, rfl⟩
  have hw : fy D (va_A ws0 sz) s.heap s.heap [] (wMd I a0 a1 a2 a3 a4 a5 x) := by rw [hws]; exact hw
  rw [← hws]
  have hx := E.1
  have hb := E.2.1
  have hl : lv_has ls 3 [(0, .ref a0), (1, .int p0)] := hl
  unfold f_X6_takes at hf
  refine lv_aload_n hx hb dX6_takes_0 rfl (lv_at hl 0 rfl) ?_
  refine lv_iload_n hx hb dX6_takes_1 rfl (lv_at hl 1 rfl) ?_
  refine lv_iload_n hx hb dX6_takes_2 rfl (lv_at hl 1 rfl) ?_
  obtain ⟨z1, h, hf⟩ := bd_s hf
  refine x_ci (x_rV E (As := [.int p0, .int p0]) (rest := []) (mt_X6_sees l D I J O a0 a1 a2 a3 a4 a5 p0 p0 x z1 h) blR (x_recv E hw.1 0 6 rfl rfl rfl) (x_pcR E hw.1) ok_X6_sees q983 rfl hl.1 rfl (Nat.le_of_ble_eq_true rfl) ⟨Nat.le_of_ble_eq_true rfl, Nat.le_of_ble_eq_true rfl⟩ ⟨Nat.le_of_ble_eq_true rfl, Nat.le_of_ble_eq_true rfl⟩ dX6_takes_3) ?_
  refine lv_istore_n (lv' := [(2, .int z1), (0, .ref a0), (1, .int p0)]) hx hb dX6_takes_6 rfl hl (by decide) rfl (fun ls hl => ?_)
  refine lv_aload_n hx hb dX6_takes_7 rfl (lv_at hl 1 rfl) ?_
  refine lv_dup hx hb dX6_takes_8 rfl ?_
  refine x_get E hw.1 0 rfl rfl in6 7 (by decide) q808 rfl rfl dX6_takes_9 ?_
  refine lv_iload_n hx hb dX6_takes_12 rfl (lv_at hl 0 rfl) ?_
  refine lv_if_eq (tgt := 20) hx hb dX6_takes_13 (by decide) (fun hc => ?_) (fun hc => ?_)
  · rw [if_pos hc] at hf
    refine lv_iconst (v := 0) hx hb dX6_takes_20 (by decide) ?_
    exact k_X6_takes_21 E a0 a1 a2 a3 a4 a5 r y0 z1 x.2.2.2.2.2.2.2.1 0 x hf _ _ hw _ (lv_sub hl [0] rfl)
  · rw [if_neg hc] at hf
    refine lv_iconst (v := 1) hx hb dX6_takes_16 (by decide) ?_
    refine lv_goto (tgt := 21) hx hb dX6_takes_17 (by decide) ?_
    exact k_X6_takes_21 E a0 a1 a2 a3 a4 a5 r y0 z1 x.2.2.2.2.2.2.2.1 1 x hf _ _ hw _ (lv_sub hl [0] rfl)
theorem ok_X6_isNumber : yV yX6_isNumber cX6_isNumber 5 (some .boolean) 3 := ⟨q982, q7, q981, qs23, by decide +kernel, by decide +kernel, by decide +kernel⟩
set_option maxRecDepth 100000 in
set_option maxHeartbeats 4000000 in
theorem k_X6_isNumber_123 {p : Program} {l : Launch} {e : Env} {s : State} {m : MethodId} {args : Array Value} {below : List Frame} {meth : Method} {c : Code} {D : va_G} {I J O : ClassId} (E : fx p s m args meth c cX6_isNumber RX6 5 (some .boolean) D I J O) (a0 a1 a2 a3 a4 a5 : Nat)  {ws0 : va_W} {sz : Nat} (r : Int32) (y0 : MdC) : ∀ (v1 : Int32) (v4 : Int32) (x : MdC), f_X6_isNumber_123 v1 v4 x = some (r, y0) → ∀ (H : Heap) (locs : List Loc), fy D (va_A ws0 sz) s.heap H locs (wMd I a0 a1 a2 a3 a4 a5 x) → ∀ ls : Array Slot, lv_has ls 5 [(0, .ref a0), (1, .int v1), (4, .int v4)] → W p l e (rmB 2 44 0 0) s m args below meth c H locs 0 0 (MQ below (qMi D sz ws0 r (fun _ : Unit => wMd I a0 a1 a2 a3 a4 a5 y0)) args s 0 0 (va_A ws0 sz)) (F0 m 123 ls []) := by
  have hx := E.1
  have hb := E.2.1
  intro v1 v4 x hf H locs hw ls hl
  unfold f_X6_isNumber_123 at hf
  refine lv_aload_n hx hb dX6_isNumber_123 rfl (lv_at hl 0 rfl) ?_
  refine x_get E hw.1 0 rfl rfl in6 8 (by decide) q809 rfl rfl dX6_isNumber_124 ?_
  refine lv_iconst (v := 3) hx hb dX6_isNumber_127 (by decide) ?_
  refine lv_aload_n hx hb dX6_isNumber_128 rfl (lv_at hl 0 rfl) ?_
  refine x_get E hw.1 0 rfl rfl in6 9 (by decide) q810 rfl rfl dX6_isNumber_129 ?_
  refine lv_imul hx hb dX6_isNumber_132 ?_
  refine lv_iload_n hx hb dX6_isNumber_133 rfl (lv_at hl 1 rfl) ?_
  refine lv_iadd hx hb dX6_isNumber_134 ?_
  refine lv_iload hx hb dX6_isNumber_135 (lv_at hl 2 rfl) ?_
  obtain ⟨g, hf⟩ := gi_s hf
  refine x_ast E hw 5 rfl g dX6_isNumber_137 (fun H locs hw => ?_)
  have hw : fy D (va_A ws0 sz) s.heap H locs (wMd I a0 a1 a2 a3 a4 a5 (x.1, x.2.1, x.2.2.1, x.2.2.2.1, x.2.2.2.2.1, x.2.2.2.2.2.1, x.2.2.2.2.2.2.1, x.2.2.2.2.2.2.2.1, (upd x.2.2.2.2.2.2.2.2.1 ((3 * x.2.2.2.2.2.2.2.2.2.1) + v1).toNatClampNeg v4), x.2.2.2.2.2.2.2.2.2)) := hw
  refine lv_iconst (v := 1) hx hb dX6_isNumber_138 (by decide) ?_
  obtain ⟨he0, hr⟩ := Prod.mk.inj (Option.some.inj hf)
  have he1 := hr
  subst he1
  exact x_zM E () hw (Or.inr rfl) he0 dX6_isNumber_139
set_option maxRecDepth 100000 in
set_option maxHeartbeats 4000000 in
theorem k_X6_isNumber_52 {p : Program} {l : Launch} {e : Env} {s : State} {m : MethodId} {args : Array Value} {below : List Frame} {meth : Method} {c : Code} {D : va_G} {I J O : ClassId} (E : fx p s m args meth c cX6_isNumber RX6 5 (some .boolean) D I J O) (a0 a1 a2 a3 a4 a5 : Nat)  {ws0 : va_W} {sz : Nat} (r : Int32) (y0 : MdC) : ∀ fu : Nat, ∀ (v1 : Int32) (v3 : Int32) (v4 : Int32) (x : MdC), f_X6_isNumber_52 fu v1 v3 v4 x = some (r, y0) → ∀ (H : Heap) (locs : List Loc), fy D (va_A ws0 sz) s.heap H locs (wMd I a0 a1 a2 a3 a4 a5 x) → ∀ ls : Array Slot, lv_has ls 5 [(0, .ref a0), (1, .int v1), (3, .int v3), (4, .int v4)] → W p l e (rmB 2 44 0 0) s m args below meth c H locs 0 0 (MQ below (qMi D sz ws0 r (fun _ : Unit => wMd I a0 a1 a2 a3 a4 a5 y0)) args s 0 0 (va_A ws0 sz)) (F0 m 52 ls []) := by
  have hx := E.1
  have hb := E.2.1
  intro fu
  induction fu with
  | zero =>
    intro v1 v3 v4 x hf H locs hw ls hl
    rw [f_X6_isNumber_52.eq_1] at hf
    cases hf
  | succ fu ih =>
    intro v1 v3 v4 x hf H locs hw ls hl
    rw [f_X6_isNumber_52.eq_2] at hf
    refine lv_iload hx hb dX6_isNumber_52 (lv_at hl 3 rfl) ?_
    refine lv_if_le (tgt := 123) hx hb dX6_isNumber_54 (by decide) (fun hc => ?_) (fun hc => ?_)
    · rw [if_pos hc] at hf
      exact k_X6_isNumber_123 E a0 a1 a2 a3 a4 a5 r y0 v1 v4 x hf _ _ hw _ (lv_sub hl [0, 1, 3] rfl)
    · rw [if_neg hc] at hf
      refine lv_aload_n hx hb dX6_isNumber_57 rfl (lv_at hl 0 rfl) ?_
      refine lv_bipush (v := 48) hx hb dX6_isNumber_58 (by decide) ?_
      refine lv_bipush (v := 57) hx hb dX6_isNumber_60 (by decide) ?_
      obtain ⟨z2, h, hf⟩ := bd_s hf
      refine x_ci (x_rV E (As := [.int 48, .int 57]) (rest := []) (mt_X6_sees l D I J O a0 a1 a2 a3 a4 a5 48 57 x z2 h) blR (x_recv E hw.1 0 6 rfl rfl rfl) (x_pcR E hw.1) ok_X6_sees q983 rfl hl.1 rfl (Nat.le_of_ble_eq_true rfl) ⟨Nat.le_of_ble_eq_true rfl, Nat.le_of_ble_eq_true rfl⟩ ⟨Nat.le_of_ble_eq_true rfl, Nat.le_of_ble_eq_true rfl⟩ dX6_isNumber_62) ?_
      refine lv_if_eq (tgt := 123) hx hb dX6_isNumber_65 (by decide) (fun hc => ?_) (fun hc => ?_)
      · rw [if_pos hc] at hf
        exact k_X6_isNumber_123 E a0 a1 a2 a3 a4 a5 r y0 v1 v4 x hf _ _ hw _ (lv_sub hl [0, 1, 3] rfl)
      · rw [if_neg hc] at hf
        refine lv_bipush (v := 10) hx hb dX6_isNumber_68 (by decide) ?_
        refine lv_iload hx hb dX6_isNumber_70 (lv_at hl 3 rfl) ?_
        refine lv_imul hx hb dX6_isNumber_72 ?_
        refine lv_aload_n hx hb dX6_isNumber_73 rfl (lv_at hl 0 rfl) ?_
        refine x_get E hw.1 0 rfl rfl in6 5 (by decide) q806 rfl rfl dX6_isNumber_74 ?_
        refine lv_aload_n hx hb dX6_isNumber_77 rfl (lv_at hl 0 rfl) ?_
        refine x_get E hw.1 0 rfl rfl in6 7 (by decide) q808 rfl rfl dX6_isNumber_78 ?_
        obtain ⟨g, hf⟩ := gi_s hf
        refine x_ald E hw.1 4 rfl g dX6_isNumber_81 ?_
        refine lv_iadd hx hb dX6_isNumber_82 ?_
        refine lv_bipush (v := 48) hx hb dX6_isNumber_83 (by decide) ?_
        refine lv_isub hx hb dX6_isNumber_85 ?_
        refine lv_iload_n hx hb dX6_isNumber_86 rfl (lv_at hl 2 rfl) ?_
        refine lv_icmp_gt (tgt := 123) hx hb dX6_isNumber_87 (by decide) (fun hc => ?_) (fun hc => ?_)
        · rw [if_pos hc] at hf
          exact k_X6_isNumber_123 E a0 a1 a2 a3 a4 a5 r y0 v1 v4 x hf _ _ hw _ (lv_sub hl [0, 1, 3] rfl)
        · rw [if_neg hc] at hf
          refine lv_bipush (v := 10) hx hb dX6_isNumber_90 (by decide) ?_
          refine lv_iload hx hb dX6_isNumber_92 (lv_at hl 3 rfl) ?_
          refine lv_imul hx hb dX6_isNumber_94 ?_
          refine lv_aload_n hx hb dX6_isNumber_95 rfl (lv_at hl 0 rfl) ?_
          refine x_get E hw.1 0 rfl rfl in6 5 (by decide) q806 rfl rfl dX6_isNumber_96 ?_
          refine lv_aload_n hx hb dX6_isNumber_99 rfl (lv_at hl 0 rfl) ?_
          refine x_get E hw.1 0 rfl rfl in6 7 (by decide) q808 rfl rfl dX6_isNumber_100 ?_
          obtain ⟨g, hf⟩ := gi_s hf
          refine x_ald E hw.1 4 rfl g dX6_isNumber_103 ?_
          refine lv_iadd hx hb dX6_isNumber_104 ?_
          refine lv_bipush (v := 48) hx hb dX6_isNumber_105 (by decide) ?_
          refine lv_isub hx hb dX6_isNumber_107 ?_
          refine lv_istore (lv' := [(4, .int (((10 * v4) + (x.2.2.2.2.2.1 x.2.2.2.2.2.2.2.1.toNatClampNeg)) - 48)), (0, .ref a0), (1, .int v1), (3, .int v3)]) hx hb dX6_isNumber_108 hl (by decide) rfl (fun ls hl => ?_)
          refine lv_aload_n hx hb dX6_isNumber_110 rfl (lv_at hl 1 rfl) ?_
          refine lv_dup hx hb dX6_isNumber_111 rfl ?_
          refine x_get E hw.1 0 rfl rfl in6 7 (by decide) q808 rfl rfl dX6_isNumber_112 ?_
          refine lv_iconst (v := 1) hx hb dX6_isNumber_115 (by decide) ?_
          refine lv_iadd hx hb dX6_isNumber_116 ?_
          refine x_put E hw 0 rfl rfl in6 tyX6_ok nmX6 7 (by decide) q808 rfl rfl rfl rfl (Nat.le_of_ble_eq_true rfl) dX6_isNumber_117 (fun H locs hw => ?_)
          have hw : fy D (va_A ws0 sz) s.heap H locs (wMd I a0 a1 a2 a3 a4 a5 (x.1, x.2.1, x.2.2.1, x.2.2.2.1, x.2.2.2.2.1, x.2.2.2.2.2.1, x.2.2.2.2.2.2.1, x.2.2.2.2.2.2.2.1 + 1, x.2.2.2.2.2.2.2.2)) := hw
          refine lv_goto (tgt := 52) hx hb dX6_isNumber_120 (by decide) ?_
          exact ih v1 v3 (((10 * v4) + (x.2.2.2.2.2.1 x.2.2.2.2.2.2.2.1.toNatClampNeg)) - 48) (x.1, x.2.1, x.2.2.1, x.2.2.2.1, x.2.2.2.2.1, x.2.2.2.2.2.1, x.2.2.2.2.2.2.1, x.2.2.2.2.2.2.2.1 + 1, x.2.2.2.2.2.2.2.2) hf _ _ hw _ (lv_sub hl [1, 2, 3, 0] rfl)
set_option maxRecDepth 100000 in
set_option maxHeartbeats 4000000 in
theorem k_X6_isNumber_19 {p : Program} {l : Launch} {e : Env} {s : State} {m : MethodId} {args : Array Value} {below : List Frame} {meth : Method} {c : Code} {D : va_G} {I J O : ClassId} (E : fx p s m args meth c cX6_isNumber RX6 5 (some .boolean) D I J O) (a0 a1 a2 a3 a4 a5 : Nat)  {ws0 : va_W} {sz : Nat} (r : Int32) (y0 : MdC) : ∀ (v1 : Int32) (v3 : Int32) (t1 : Int32) (t2 : Int32) (t3 : Int32) (x : MdC), f_X6_isNumber_19 v1 v3 t1 t2 t3 x = some (r, y0) → ∀ (H : Heap) (locs : List Loc), fy D (va_A ws0 sz) s.heap H locs (wMd I a0 a1 a2 a3 a4 a5 x) → ∀ ls : Array Slot, lv_has ls 5 [(0, .ref a0), (1, .int v1), (3, .int v3)] → W p l e (rmB 2 44 0 0) s m args below meth c H locs 0 0 (MQ below (qMi D sz ws0 r (fun _ : Unit => wMd I a0 a1 a2 a3 a4 a5 y0)) args s 0 0 (va_A ws0 sz)) (F0 m 19 ls [.int t3, .int t2, .int t1, .ref a0]) := by
  have hx := E.1
  have hb := E.2.1
  intro v1 v3 t1 t2 t3 x hf H locs hw ls hl
  unfold f_X6_isNumber_19 at hf
  refine lv_iadd hx hb dX6_isNumber_19 ?_
  obtain ⟨z1, h, hf⟩ := bd_s hf
  refine x_ci (x_rV E (As := [.int t1, .int (t2 + t3)]) (rest := []) (mt_X6_sees l D I J O a0 a1 a2 a3 a4 a5 t1 (t2 + t3) x z1 h) blR (x_recv E hw.1 0 6 rfl rfl rfl) (x_pcR E hw.1) ok_X6_sees q983 rfl hl.1 rfl (Nat.le_of_ble_eq_true rfl) ⟨Nat.le_of_ble_eq_true rfl, Nat.le_of_ble_eq_true rfl⟩ ⟨Nat.le_of_ble_eq_true rfl, Nat.le_of_ble_eq_true rfl⟩ dX6_isNumber_20) ?_
  refine lv_if_ne (tgt := 28) hx hb dX6_isNumber_23 (by decide) (fun hc => ?_) (fun hc => ?_)
  · rw [if_neg hc] at hf
    refine lv_aload_n hx hb dX6_isNumber_28 rfl (lv_at hl 0 rfl) ?_
    refine x_get E hw.1 0 rfl rfl in6 5 (by decide) q806 rfl rfl dX6_isNumber_29 ?_
    refine lv_aload_n hx hb dX6_isNumber_32 rfl (lv_at hl 0 rfl) ?_
    refine x_get E hw.1 0 rfl rfl in6 7 (by decide) q808 rfl rfl dX6_isNumber_33 ?_
    obtain ⟨g, hf⟩ := gi_s hf
    refine x_ald E hw.1 4 rfl g dX6_isNumber_36 ?_
    refine lv_bipush (v := 48) hx hb dX6_isNumber_37 (by decide) ?_
    refine lv_isub hx hb dX6_isNumber_39 ?_
    refine lv_istore (lv' := [(4, .int ((x.2.2.2.2.2.1 x.2.2.2.2.2.2.2.1.toNatClampNeg) - 48)), (0, .ref a0), (1, .int v1), (3, .int v3)]) hx hb dX6_isNumber_40 hl (by decide) rfl (fun ls hl => ?_)
    refine lv_aload_n hx hb dX6_isNumber_42 rfl (lv_at hl 1 rfl) ?_
    refine lv_dup hx hb dX6_isNumber_43 rfl ?_
    refine x_get E hw.1 0 rfl rfl in6 7 (by decide) q808 rfl rfl dX6_isNumber_44 ?_
    refine lv_iconst (v := 1) hx hb dX6_isNumber_47 (by decide) ?_
    refine lv_iadd hx hb dX6_isNumber_48 ?_
    refine x_put E hw 0 rfl rfl in6 tyX6_ok nmX6 7 (by decide) q808 rfl rfl rfl rfl (Nat.le_of_ble_eq_true rfl) dX6_isNumber_49 (fun H locs hw => ?_)
    have hw : fy D (va_A ws0 sz) s.heap H locs (wMd I a0 a1 a2 a3 a4 a5 (x.1, x.2.1, x.2.2.1, x.2.2.2.1, x.2.2.2.2.1, x.2.2.2.2.2.1, x.2.2.2.2.2.2.1, x.2.2.2.2.2.2.2.1 + 1, x.2.2.2.2.2.2.2.2)) := hw
    exact k_X6_isNumber_52 E a0 a1 a2 a3 a4 a5 r y0 FU v1 v3 ((x.2.2.2.2.2.1 x.2.2.2.2.2.2.2.1.toNatClampNeg) - 48) (x.1, x.2.1, x.2.2.1, x.2.2.2.1, x.2.2.2.2.1, x.2.2.2.2.2.1, x.2.2.2.2.2.2.1, x.2.2.2.2.2.2.2.1 + 1, x.2.2.2.2.2.2.2.2) hf _ _ hw _ (lv_sub hl [1, 2, 3, 0] rfl)
  · rw [if_pos hc] at hf
    refine lv_iconst (v := 0) hx hb dX6_isNumber_26 (by decide) ?_
    obtain ⟨he0, hr⟩ := Prod.mk.inj (Option.some.inj hf)
    have he1 := hr
    subst he1
    exact x_zM E () hw (Or.inl rfl) he0 dX6_isNumber_27
set_option maxRecDepth 100000 in
set_option maxHeartbeats 4000000 in
theorem mt_X6_isNumber (l : Launch) (D : va_G) (I J O : ClassId) (a0 a1 a2 a3 a4 a5 : Nat) (sz : Nat) (p0 : Int32) (p1 : Int32) (p2 : Int32) (x : MdC) (r : Int32) (y0 : MdC) (hf : f_X6_isNumber p0 p1 p2 x = some (r, y0)) : mM l yX6_isNumber cX6_isNumber 5 (some .boolean) 2 44 0 0 D I J O sz [.ref a0, .int p0, .int p1, .int p2] (wMd I a0 a1 a2 a3 a4 a5 x) (qMi D sz (wMd I a0 a1 a2 a3 a4 a5 x) r (fun _ : Unit => wMd I a0 a1 a2 a3 a4 a5 y0)) := by
  refine mM_open (own := RX6) rfl (by decide +kernel) (Nat.le_of_ble_eq_true rfl) (fun p e s m below meth c ls E hnm hsz hw hl => ?_)
  obtain ⟨ws0, hws⟩ : ∃ ws0 : va_W, ws0 = wMd I a0 a1 a2 a3 a4 a5 x := ⟨_, rfl⟩
  have hw : fy D (va_A ws0 sz) s.heap s.heap [] (wMd I a0 a1 a2 a3 a4 a5 x) := by rw [hws]; exact hw
  rw [← hws]
  have hx := E.1
  have hb := E.2.1
  have hl : lv_has ls 5 [(0, .ref a0), (1, .int p0), (2, .int p1), (3, .int p2)] := hl
  unfold f_X6_isNumber at hf
  refine lv_aload_n hx hb dX6_isNumber_0 rfl (lv_at hl 0 rfl) ?_
  refine lv_bipush (v := 48) hx hb dX6_isNumber_1 (by decide) ?_
  refine lv_iload_n hx hb dX6_isNumber_3 rfl (lv_at hl 2 rfl) ?_
  refine lv_iadd hx hb dX6_isNumber_4 ?_
  refine lv_bipush (v := 48) hx hb dX6_isNumber_5 (by decide) ?_
  refine lv_iload_n hx hb dX6_isNumber_7 rfl (lv_at hl 3 rfl) ?_
  refine lv_bipush (v := 9) hx hb dX6_isNumber_8 (by decide) ?_
  refine lv_icmp_ge (tgt := 17) hx hb dX6_isNumber_10 (by decide) (fun hc => ?_) (fun hc => ?_)
  · rw [if_pos hc] at hf
    refine lv_bipush (v := 9) hx hb dX6_isNumber_17 (by decide) ?_
    exact k_X6_isNumber_19 E a0 a1 a2 a3 a4 a5 r y0 p0 p2 (48 + p1) 48 9 x hf _ _ hw _ (lv_sub hl [0, 1, 3] rfl)
  · rw [if_neg hc] at hf
    refine lv_iload_n hx hb dX6_isNumber_13 rfl (lv_at hl 3 rfl) ?_
    refine lv_goto (tgt := 19) hx hb dX6_isNumber_14 (by decide) ?_
    exact k_X6_isNumber_19 E a0 a1 a2 a3 a4 a5 r y0 p0 p2 (48 + p1) 48 p2 x hf _ _ hw _ (lv_sub hl [0, 1, 3] rfl)
theorem ok_X6_isThingTold : yV yX6_isThingTold cX6_isThingTold 1 (some .boolean) 0 := ⟨q978, q7, q977, qs22, by decide +kernel, by decide +kernel, by decide +kernel⟩
set_option maxRecDepth 100000 in
set_option maxHeartbeats 4000000 in
theorem k_X6_isThingTold_72 {p : Program} {l : Launch} {e : Env} {s : State} {m : MethodId} {args : Array Value} {below : List Frame} {meth : Method} {c : Code} {D : va_G} {I J O : ClassId} (E : fx p s m args meth c cX6_isThingTold RX6 1 (some .boolean) D I J O) (a0 a1 a2 a3 a4 a5 : Nat)  {ws0 : va_W} {sz : Nat} (r : Int32) (y0 : MdC) : ∀ (t1 : Int32) (t2 : Int32) (x : MdC), f_X6_isThingTold_72 t1 t2 x = some (r, y0) → ∀ (H : Heap) (locs : List Loc), fy D (va_A ws0 sz) s.heap H locs (wMd I a0 a1 a2 a3 a4 a5 x) → ∀ ls : Array Slot, lv_has ls 1 [] → W p l e (rmB 3 68 0 0) s m args below meth c H locs 0 0 (MQ below (qMi D sz ws0 r (fun _ : Unit => wMd I a0 a1 a2 a3 a4 a5 y0)) args s 0 0 (va_A ws0 sz)) (F0 m 72 ls [.int t2, .int t1, .ref a5]) := by
  have hx := E.1
  have hb := E.2.1
  intro t1 t2 x hf H locs hw ls hl
  unfold f_X6_isThingTold_72 at hf
  obtain ⟨g, hf⟩ := gi_s hf
  refine x_ast E hw 5 rfl g dX6_isThingTold_72 (fun H locs hw => ?_)
  have hw : fy D (va_A ws0 sz) s.heap H locs (wMd I a0 a1 a2 a3 a4 a5 (x.1, x.2.1, x.2.2.1, x.2.2.2.1, x.2.2.2.2.1, x.2.2.2.2.2.1, x.2.2.2.2.2.2.1, x.2.2.2.2.2.2.2.1, (upd x.2.2.2.2.2.2.2.2.1 t1.toNatClampNeg t2), x.2.2.2.2.2.2.2.2.2)) := hw
  refine lv_iconst (v := 1) hx hb dX6_isThingTold_73 (by decide) ?_
  obtain ⟨he0, hr⟩ := Prod.mk.inj (Option.some.inj hf)
  have he1 := hr
  subst he1
  exact x_zM E () hw (Or.inr rfl) he0 dX6_isThingTold_74
set_option maxRecDepth 100000 in
set_option maxHeartbeats 4000000 in
theorem mt_X6_isThingTold (l : Launch) (D : va_G) (I J O : ClassId) (a0 a1 a2 a3 a4 a5 : Nat) (sz : Nat)  (x : MdC) (r : Int32) (y0 : MdC) (hf : f_X6_isThingTold x = some (r, y0)) : mM l yX6_isThingTold cX6_isThingTold 1 (some .boolean) 3 68 0 0 D I J O sz [.ref a0] (wMd I a0 a1 a2 a3 a4 a5 x) (qMi D sz (wMd I a0 a1 a2 a3 a4 a5 x) r (fun _ : Unit => wMd I a0 a1 a2 a3 a4 a5 y0)) := by
  refine mM_open (own := RX6) rfl (by decide +kernel) (Nat.le_of_ble_eq_true rfl) (fun p e s m below meth c ls E hnm hsz hw hl => ?_)
  obtain ⟨ws0, hws⟩ : ∃ ws0 : va_W, ws0 = wMd I a0 a1 a2 a3 a4 a5 x := ⟨_, rfl⟩
  have hw : fy D (va_A ws0 sz) s.heap s.heap [] (wMd I a0 a1 a2 a3 a4 a5 x) := by rw [hws]; exact hw
  rw [← hws]
  have hx := E.1
  have hb := E.2.1
  have hl : lv_has ls 1 [(0, .ref a0)] := hl
  unfold f_X6_isThingTold at hf
  refine lv_aload_n hx hb dX6_isThingTold_0 rfl (lv_at hl 0 rfl) ?_
  refine lv_iconst (v := 0) hx hb dX6_isThingTold_1 (by decide) ?_
  refine lv_iconst (v := 0) hx hb dX6_isThingTold_2 (by decide) ?_
  refine lv_sipush (v := 999) hx hb dX6_isThingTold_3 (by decide) ?_
  obtain ⟨z1, h, hf⟩ := bd_s hf
  refine x_mi0 hw [0, 1, 2, 3, 4, 5] rfl rfl (x_rV E (As := [.int 0, .int 0, .int 999]) (rest := []) (mt_X6_isNumber l D I J O a0 a1 a2 a3 a4 a5 s.heap.size 0 0 999 x z1.1 z1.2 h) blM (x_recv E hw.1 0 6 rfl rfl rfl) (x_pcMQ0 E hw [0, 1, 2, 3, 4, 5] rfl rfl) ok_X6_isNumber q979 rfl hl.1 rfl (Nat.le_of_ble_eq_true rfl) ⟨Nat.le_of_ble_eq_true rfl, Nat.le_of_ble_eq_true rfl⟩ ⟨Nat.le_of_ble_eq_true rfl, Nat.le_of_ble_eq_true rfl⟩ dX6_isThingTold_6) (fun _ => rfl) (fun _ H locs hw => ?_)
  have hw : fy D (va_A ws0 sz) s.heap H locs (wMd I a0 a1 a2 a3 a4 a5 z1.2) := hw
  refine lv_if_eq (tgt := 31) hx hb dX6_isThingTold_9 (by decide) (fun hc => ?_) (fun hc => ?_)
  · rw [if_pos hc] at hf
    refine lv_iconst (v := 0) hx hb dX6_isThingTold_31 (by decide) ?_
    obtain ⟨he0, hr⟩ := Prod.mk.inj (Option.some.inj hf)
    have he1 := hr
    subst he1
    exact x_zM E () hw (Or.inl rfl) he0 dX6_isThingTold_32
  · rw [if_neg hc] at hf
    refine lv_aload_n hx hb dX6_isThingTold_12 rfl (lv_at hl 0 rfl) ?_
    refine lv_bipush (v := 42) hx hb dX6_isThingTold_13 (by decide) ?_
    obtain ⟨z2, h, hf⟩ := bd_s hf
    refine x_mi0 hw [0, 1, 2, 3, 4, 5] rfl rfl (x_rV E (As := [.int 42]) (rest := []) (mt_X6_takes l D I J O a0 a1 a2 a3 a4 a5 H.size 42 z1.2 z2.1 z2.2 h) blM (x_recv E hw.1 0 6 rfl rfl rfl) (x_pcMQ0 E hw [0, 1, 2, 3, 4, 5] rfl rfl) ok_X6_takes q987 rfl hl.1 rfl (Nat.le_of_ble_eq_true rfl) ⟨Nat.le_of_ble_eq_true rfl, Nat.le_of_ble_eq_true rfl⟩ ⟨Nat.le_of_ble_eq_true rfl, Nat.le_of_ble_eq_true rfl⟩ dX6_isThingTold_15) (fun _ => rfl) (fun _ H locs hw => ?_)
    have hw : fy D (va_A ws0 sz) s.heap H locs (wMd I a0 a1 a2 a3 a4 a5 z2.2) := hw
    refine lv_if_eq (tgt := 31) hx hb dX6_isThingTold_18 (by decide) (fun hc => ?_) (fun hc => ?_)
    · rw [if_pos hc] at hf
      refine lv_iconst (v := 0) hx hb dX6_isThingTold_31 (by decide) ?_
      obtain ⟨he0, hr⟩ := Prod.mk.inj (Option.some.inj hf)
      have he1 := hr
      subst he1
      exact x_zM E () hw (Or.inl rfl) he0 dX6_isThingTold_32
    · rw [if_neg hc] at hf
      refine lv_aload_n hx hb dX6_isThingTold_21 rfl (lv_at hl 0 rfl) ?_
      refine lv_iconst (v := 1) hx hb dX6_isThingTold_22 (by decide) ?_
      refine lv_iconst (v := 1) hx hb dX6_isThingTold_23 (by decide) ?_
      refine lv_iconst (v := 4) hx hb dX6_isThingTold_24 (by decide) ?_
      obtain ⟨z3, h, hf⟩ := bd_s hf
      refine x_mi0 hw [0, 1, 2, 3, 4, 5] rfl rfl (x_rV E (As := [.int 1, .int 1, .int 4]) (rest := []) (mt_X6_isNumber l D I J O a0 a1 a2 a3 a4 a5 H.size 1 1 4 z2.2 z3.1 z3.2 h) blM (x_recv E hw.1 0 6 rfl rfl rfl) (x_pcMQ0 E hw [0, 1, 2, 3, 4, 5] rfl rfl) ok_X6_isNumber q979 rfl hl.1 rfl (Nat.le_of_ble_eq_true rfl) ⟨Nat.le_of_ble_eq_true rfl, Nat.le_of_ble_eq_true rfl⟩ ⟨Nat.le_of_ble_eq_true rfl, Nat.le_of_ble_eq_true rfl⟩ dX6_isThingTold_25) (fun _ => rfl) (fun _ H locs hw => ?_)
      have hw : fy D (va_A ws0 sz) s.heap H locs (wMd I a0 a1 a2 a3 a4 a5 z3.2) := hw
      refine lv_if_ne (tgt := 33) hx hb dX6_isThingTold_28 (by decide) (fun hc => ?_) (fun hc => ?_)
      · rw [if_neg hc] at hf
        refine lv_aload_n hx hb dX6_isThingTold_33 rfl (lv_at hl 0 rfl) ?_
        refine x_get E hw.1 0 rfl rfl in6 8 (by decide) q809 rfl rfl dX6_isThingTold_34 ?_
        refine lv_iconst (v := 3) hx hb dX6_isThingTold_37 (by decide) ?_
        refine lv_aload_n hx hb dX6_isThingTold_38 rfl (lv_at hl 0 rfl) ?_
        refine x_get E hw.1 0 rfl rfl in6 9 (by decide) q810 rfl rfl dX6_isThingTold_39 ?_
        refine lv_imul hx hb dX6_isThingTold_42 ?_
        refine lv_iconst (v := 2) hx hb dX6_isThingTold_43 (by decide) ?_
        refine lv_iadd hx hb dX6_isThingTold_44 ?_
        refine lv_aload_n hx hb dX6_isThingTold_45 rfl (lv_at hl 0 rfl) ?_
        refine lv_bipush (v := 33) hx hb dX6_isThingTold_46 (by decide) ?_
        obtain ⟨z4, h, hf⟩ := bd_s hf
        refine x_mi0 hw [0, 1, 2, 3, 4, 5] rfl rfl (x_rV E (As := [.int 33]) (rest := [.int ((3 * z3.2.2.2.2.2.2.2.2.2.2.1) + 2), .ref a5]) (mt_X6_takes l D I J O a0 a1 a2 a3 a4 a5 H.size 33 z3.2 z4.1 z4.2 h) blM (x_recv E hw.1 0 6 rfl rfl rfl) (x_pcMQ0 E hw [0, 1, 2, 3, 4, 5] rfl rfl) ok_X6_takes q987 rfl hl.1 rfl (Nat.le_of_ble_eq_true rfl) ⟨Nat.le_of_ble_eq_true rfl, Nat.le_of_ble_eq_true rfl⟩ ⟨Nat.le_of_ble_eq_true rfl, Nat.le_of_ble_eq_true rfl⟩ dX6_isThingTold_48) (fun _ => rfl) (fun _ H locs hw => ?_)
        have hw : fy D (va_A ws0 sz) s.heap H locs (wMd I a0 a1 a2 a3 a4 a5 z4.2) := hw
        refine lv_if_eq (tgt := 58) hx hb dX6_isThingTold_51 (by decide) (fun hc => ?_) (fun hc => ?_)
        · rw [if_pos hc] at hf
          refine lv_aload_n hx hb dX6_isThingTold_58 rfl (lv_at hl 0 rfl) ?_
          refine lv_bipush (v := 43) hx hb dX6_isThingTold_59 (by decide) ?_
          obtain ⟨z5, h, hf⟩ := bd_s hf
          refine x_mi0 hw [0, 1, 2, 3, 4, 5] rfl rfl (x_rV E (As := [.int 43]) (rest := [.int ((3 * z3.2.2.2.2.2.2.2.2.2.2.1) + 2), .ref a5]) (mt_X6_takes l D I J O a0 a1 a2 a3 a4 a5 H.size 43 z4.2 z5.1 z5.2 h) blM (x_recv E hw.1 0 6 rfl rfl rfl) (x_pcMQ0 E hw [0, 1, 2, 3, 4, 5] rfl rfl) ok_X6_takes q987 rfl hl.1 rfl (Nat.le_of_ble_eq_true rfl) ⟨Nat.le_of_ble_eq_true rfl, Nat.le_of_ble_eq_true rfl⟩ ⟨Nat.le_of_ble_eq_true rfl, Nat.le_of_ble_eq_true rfl⟩ dX6_isThingTold_61) (fun _ => rfl) (fun _ H locs hw => ?_)
          have hw : fy D (va_A ws0 sz) s.heap H locs (wMd I a0 a1 a2 a3 a4 a5 z5.2) := hw
          refine lv_if_eq (tgt := 71) hx hb dX6_isThingTold_64 (by decide) (fun hc => ?_) (fun hc => ?_)
          · rw [if_pos hc] at hf
            refine lv_iconst (v := 0) hx hb dX6_isThingTold_71 (by decide) ?_
            exact k_X6_isThingTold_72 E a0 a1 a2 a3 a4 a5 r y0 ((3 * z3.2.2.2.2.2.2.2.2.2.2.1) + 2) 0 z5.2 hf _ _ hw _ (lv_sub hl [] rfl)
          · rw [if_neg hc] at hf
            refine lv_iconst (v := 2) hx hb dX6_isThingTold_67 (by decide) ?_
            refine lv_goto (tgt := 72) hx hb dX6_isThingTold_68 (by decide) ?_
            exact k_X6_isThingTold_72 E a0 a1 a2 a3 a4 a5 r y0 ((3 * z3.2.2.2.2.2.2.2.2.2.2.1) + 2) 2 z5.2 hf _ _ hw _ (lv_sub hl [] rfl)
        · rw [if_neg hc] at hf
          refine lv_iconst (v := 1) hx hb dX6_isThingTold_54 (by decide) ?_
          refine lv_goto (tgt := 72) hx hb dX6_isThingTold_55 (by decide) ?_
          exact k_X6_isThingTold_72 E a0 a1 a2 a3 a4 a5 r y0 ((3 * z3.2.2.2.2.2.2.2.2.2.2.1) + 2) 1 z4.2 hf _ _ hw _ (lv_sub hl [] rfl)
      · rw [if_pos hc] at hf
        refine lv_iconst (v := 0) hx hb dX6_isThingTold_31 (by decide) ?_
        obtain ⟨he0, hr⟩ := Prod.mk.inj (Option.some.inj hf)
        have he1 := hr
        subst he1
        exact x_zM E () hw (Or.inl rfl) he0 dX6_isThingTold_32
theorem ok_X6_isText : yV yX6_isText cX6_isText 2 (some .boolean) 0 := ⟨q974, q7, q973, qs21, by decide +kernel, by decide +kernel, by decide +kernel⟩
set_option maxRecDepth 100000 in
set_option maxHeartbeats 4000000 in
theorem k_X6_isText_12 {p : Program} {l : Launch} {e : Env} {s : State} {m : MethodId} {args : Array Value} {below : List Frame} {meth : Method} {c : Code} {D : va_G} {I J O : ClassId} (E : fx p s m args meth c cX6_isText RX6 2 (some .boolean) D I J O) (a0 a1 a2 a3 a4 a5 : Nat)  {ws0 : va_W} {sz : Nat} (r : Int32) (y0 : MdC) : ∀ fu : Nat, ∀ (v1 : Int32) (x : MdC), f_X6_isText_12 fu v1 x = some (r, y0) → ∀ (H : Heap) (locs : List Loc), fy D (va_A ws0 sz) s.heap H locs (wMd I a0 a1 a2 a3 a4 a5 x) → ∀ ls : Array Slot, lv_has ls 2 [(0, .ref a0), (1, .int v1)] → W p l e (rmB 4 88 0 0) s m args below meth c H locs 0 0 (MQ below (qMi D sz ws0 r (fun _ : Unit => wMd I a0 a1 a2 a3 a4 a5 y0)) args s 0 0 (va_A ws0 sz)) (F0 m 12 ls []) := by
  have hx := E.1
  have hb := E.2.1
  intro fu
  induction fu with
  | zero =>
    intro v1 x hf H locs hw ls hl
    rw [f_X6_isText_12.eq_1] at hf
    cases hf
  | succ fu ih =>
    intro v1 x hf H locs hw ls hl
    rw [f_X6_isText_12.eq_2] at hf
    refine lv_iload_n hx hb dX6_isText_12 rfl (lv_at hl 1 rfl) ?_
    refine lv_if_eq (tgt := 45) hx hb dX6_isText_13 (by decide) (fun hc => ?_) (fun hc => ?_)
    · rw [if_pos hc] at hf
      refine lv_aload_n hx hb dX6_isText_45 rfl (lv_at hl 0 rfl) ?_
      refine x_get E hw.1 0 rfl rfl in6 7 (by decide) q808 rfl rfl dX6_isText_46 ?_
      refine lv_aload_n hx hb dX6_isText_49 rfl (lv_at hl 0 rfl) ?_
      refine x_get E hw.1 0 rfl rfl in6 6 (by decide) q807 rfl rfl dX6_isText_50 ?_
      refine lv_icmp_ne (tgt := 60) hx hb dX6_isText_53 (by decide) (fun hc => ?_) (fun hc => ?_)
      · rw [if_neg hc] at hf
        refine lv_iconst (v := 0) hx hb dX6_isText_60 (by decide) ?_
        obtain ⟨he0, hr⟩ := Prod.mk.inj (Option.some.inj hf)
        have he1 := hr
        subst he1
        exact x_zM E () hw (Or.inl rfl) he0 dX6_isText_61
      · rw [if_pos hc] at hf
        refine lv_iconst (v := 1) hx hb dX6_isText_56 (by decide) ?_
        refine lv_goto (tgt := 61) hx hb dX6_isText_57 (by decide) ?_
        obtain ⟨he0, hr⟩ := Prod.mk.inj (Option.some.inj hf)
        have he1 := hr
        subst he1
        exact x_zM E () hw (Or.inr rfl) he0 dX6_isText_61
    · rw [if_neg hc] at hf
      refine lv_aload_n hx hb dX6_isText_16 rfl (lv_at hl 0 rfl) ?_
      obtain ⟨z1, h, hf⟩ := bd_s hf
      refine x_mi0 hw [0, 1, 2, 3, 4, 5] rfl rfl (x_rV E (As := []) (rest := []) (mt_X6_isThingTold l D I J O a0 a1 a2 a3 a4 a5 H.size x z1.1 z1.2 h) blM (x_recv E hw.1 0 6 rfl rfl rfl) (x_pcMQ0 E hw [0, 1, 2, 3, 4, 5] rfl rfl) ok_X6_isThingTold q975 rfl hl.1 rfl (Nat.le_of_ble_eq_true rfl) ⟨Nat.le_of_ble_eq_true rfl, Nat.le_of_ble_eq_true rfl⟩ ⟨Nat.le_of_ble_eq_true rfl, Nat.le_of_ble_eq_true rfl⟩ dX6_isText_17) (fun _ => rfl) (fun _ H locs hw => ?_)
      have hw : fy D (va_A ws0 sz) s.heap H locs (wMd I a0 a1 a2 a3 a4 a5 z1.2) := hw
      refine lv_if_ne (tgt := 25) hx hb dX6_isText_20 (by decide) (fun hc => ?_) (fun hc => ?_)
      · rw [if_neg hc] at hf
        refine lv_aload_n hx hb dX6_isText_25 rfl (lv_at hl 0 rfl) ?_
        refine lv_dup hx hb dX6_isText_26 rfl ?_
        refine x_get E hw.1 0 rfl rfl in6 9 (by decide) q810 rfl rfl dX6_isText_27 ?_
        refine lv_iconst (v := 1) hx hb dX6_isText_30 (by decide) ?_
        refine lv_iadd hx hb dX6_isText_31 ?_
        refine x_put E hw 0 rfl rfl in6 tyX6_ok nmX6 9 (by decide) q810 rfl rfl rfl rfl (Nat.le_of_ble_eq_true rfl) dX6_isText_32 (fun H locs hw => ?_)
        have hw : fy D (va_A ws0 sz) s.heap H locs (wMd I a0 a1 a2 a3 a4 a5 (z1.2.1, z1.2.2.1, z1.2.2.2.1, z1.2.2.2.2.1, z1.2.2.2.2.2.1, z1.2.2.2.2.2.2.1, z1.2.2.2.2.2.2.2.1, z1.2.2.2.2.2.2.2.2.1, z1.2.2.2.2.2.2.2.2.2.1, z1.2.2.2.2.2.2.2.2.2.2.1 + 1, z1.2.2.2.2.2.2.2.2.2.2.2)) := hw
        refine lv_aload_n hx hb dX6_isText_35 rfl (lv_at hl 0 rfl) ?_
        refine lv_bipush (v := 44) hx hb dX6_isText_36 (by decide) ?_
        obtain ⟨z2, h, hf⟩ := bd_s hf
        refine x_mi0 hw [0, 1, 2, 3, 4, 5] rfl rfl (x_rV E (As := [.int 44]) (rest := []) (mt_X6_takes l D I J O a0 a1 a2 a3 a4 a5 H.size 44 (z1.2.1, z1.2.2.1, z1.2.2.2.1, z1.2.2.2.2.1, z1.2.2.2.2.2.1, z1.2.2.2.2.2.2.1, z1.2.2.2.2.2.2.2.1, z1.2.2.2.2.2.2.2.2.1, z1.2.2.2.2.2.2.2.2.2.1, z1.2.2.2.2.2.2.2.2.2.2.1 + 1, z1.2.2.2.2.2.2.2.2.2.2.2) z2.1 z2.2 h) blM (x_recv E hw.1 0 6 rfl rfl rfl) (x_pcMQ0 E hw [0, 1, 2, 3, 4, 5] rfl rfl) ok_X6_takes q987 rfl hl.1 rfl (Nat.le_of_ble_eq_true rfl) ⟨Nat.le_of_ble_eq_true rfl, Nat.le_of_ble_eq_true rfl⟩ ⟨Nat.le_of_ble_eq_true rfl, Nat.le_of_ble_eq_true rfl⟩ dX6_isText_38) (fun _ => rfl) (fun _ H locs hw => ?_)
        have hw : fy D (va_A ws0 sz) s.heap H locs (wMd I a0 a1 a2 a3 a4 a5 z2.2) := hw
        refine lv_istore_n (lv' := [(1, .int z2.1), (0, .ref a0)]) hx hb dX6_isText_41 rfl hl (by decide) rfl (fun ls hl => ?_)
        refine lv_goto (tgt := 12) hx hb dX6_isText_42 (by decide) ?_
        exact ih z2.1 z2.2 hf _ _ hw _ (lv_sub hl [1, 0] rfl)
      · rw [if_pos hc] at hf
        refine lv_iconst (v := 0) hx hb dX6_isText_23 (by decide) ?_
        obtain ⟨he0, hr⟩ := Prod.mk.inj (Option.some.inj hf)
        have he1 := hr
        subst he1
        exact x_zM E () hw (Or.inl rfl) he0 dX6_isText_24
set_option maxRecDepth 100000 in
set_option maxHeartbeats 4000000 in
theorem mt_X6_isText (l : Launch) (D : va_G) (I J O : ClassId) (a0 a1 a2 a3 a4 a5 : Nat) (sz : Nat)  (x : MdC) (r : Int32) (y0 : MdC) (hf : f_X6_isText x = some (r, y0)) : mM l yX6_isText cX6_isText 2 (some .boolean) 4 88 0 0 D I J O sz [.ref a0] (wMd I a0 a1 a2 a3 a4 a5 x) (qMi D sz (wMd I a0 a1 a2 a3 a4 a5 x) r (fun _ : Unit => wMd I a0 a1 a2 a3 a4 a5 y0)) := by
  refine mM_open (own := RX6) rfl (by decide +kernel) (Nat.le_of_ble_eq_true rfl) (fun p e s m below meth c ls E hnm hsz hw hl => ?_)
  obtain ⟨ws0, hws⟩ : ∃ ws0 : va_W, ws0 = wMd I a0 a1 a2 a3 a4 a5 x := ⟨_, rfl⟩
  have hw : fy D (va_A ws0 sz) s.heap s.heap [] (wMd I a0 a1 a2 a3 a4 a5 x) := by rw [hws]; exact hw
  rw [← hws]
  have hx := E.1
  have hb := E.2.1
  have hl : lv_has ls 2 [(0, .ref a0)] := hl
  unfold f_X6_isText at hf
  refine lv_aload_n hx hb dX6_isText_0 rfl (lv_at hl 0 rfl) ?_
  refine lv_iconst (v := 0) hx hb dX6_isText_1 (by decide) ?_
  refine x_put E hw 0 rfl rfl in6 tyX6_ok nmX6 7 (by decide) q808 rfl rfl rfl rfl (Nat.le_of_ble_eq_true rfl) dX6_isText_2 (fun H locs hw => ?_)
  have hw : fy D (va_A ws0 sz) s.heap H locs (wMd I a0 a1 a2 a3 a4 a5 (x.1, x.2.1, x.2.2.1, x.2.2.2.1, x.2.2.2.2.1, x.2.2.2.2.2.1, x.2.2.2.2.2.2.1, 0, x.2.2.2.2.2.2.2.2)) := hw
  refine lv_aload_n hx hb dX6_isText_5 rfl (lv_at hl 0 rfl) ?_
  refine lv_iconst (v := 0) hx hb dX6_isText_6 (by decide) ?_
  refine x_put E hw 0 rfl rfl in6 tyX6_ok nmX6 9 (by decide) q810 rfl rfl rfl rfl (Nat.le_of_ble_eq_true rfl) dX6_isText_7 (fun H locs hw => ?_)
  have hw : fy D (va_A ws0 sz) s.heap H locs (wMd I a0 a1 a2 a3 a4 a5 (x.1, x.2.1, x.2.2.1, x.2.2.2.1, x.2.2.2.2.1, x.2.2.2.2.2.1, x.2.2.2.2.2.2.1, 0, x.2.2.2.2.2.2.2.2.1, 0, x.2.2.2.2.2.2.2.2.2.2)) := hw
  refine lv_iconst (v := 1) hx hb dX6_isText_10 (by decide) ?_
  refine lv_istore_n (lv' := [(1, .int 1), (0, .ref a0)]) hx hb dX6_isText_11 rfl hl (by decide) rfl (fun ls hl => ?_)
  exact k_X6_isText_12 E a0 a1 a2 a3 a4 a5 r y0 FU 1 (x.1, x.2.1, x.2.2.1, x.2.2.2.1, x.2.2.2.2.1, x.2.2.2.2.2.1, x.2.2.2.2.2.2.1, 0, x.2.2.2.2.2.2.2.2.1, 0, x.2.2.2.2.2.2.2.2.2.2) hf _ _ hw _ (lv_sub hl [1, 0] rfl)
theorem ok_X6_firstError : yV yX6_firstError cX6_firstError 1 (some .int) 0 := ⟨q970, q7, q968, q969, by decide +kernel, by decide +kernel, by decide +kernel⟩
set_option maxRecDepth 100000 in
set_option maxHeartbeats 4000000 in
theorem mt_X6_firstError (l : Launch) (D : va_G) (I J O : ClassId) (a0 a1 a2 a3 a4 a5 : Nat) (sz : Nat)  (x : MdC) (r : Int32) (y0 : MdC) (hf : f_X6_firstError x = some (r, y0)) : mM l yX6_firstError cX6_firstError 1 (some .int) 5 109 0 0 D I J O sz [.ref a0] (wMd I a0 a1 a2 a3 a4 a5 x) (qMi D sz (wMd I a0 a1 a2 a3 a4 a5 x) r (fun _ : Unit => wMd I a0 a1 a2 a3 a4 a5 y0)) := by
  refine mM_open (own := RX6) rfl (by decide +kernel) (Nat.le_of_ble_eq_true rfl) (fun p e s m below meth c ls E hnm hsz hw hl => ?_)
  obtain ⟨ws0, hws⟩ : ∃ ws0 : va_W, ws0 = wMd I a0 a1 a2 a3 a4 a5 x := ⟨_, rfl⟩
  have hw : fy D (va_A ws0 sz) s.heap s.heap [] (wMd I a0 a1 a2 a3 a4 a5 x) := by rw [hws]; exact hw
  rw [← hws]
  have hx := E.1
  have hb := E.2.1
  have hl : lv_has ls 1 [(0, .ref a0)] := hl
  unfold f_X6_firstError at hf
  refine lv_aload_n hx hb dX6_firstError_0 rfl (lv_at hl 0 rfl) ?_
  refine lv_iconst (v := 0) hx hb dX6_firstError_1 (by decide) ?_
  refine x_put E hw 0 rfl rfl in6 tyX6_ok nmX6 0 (by decide) q801 rfl rfl rfl rfl (Nat.le_of_ble_eq_true rfl) dX6_firstError_2 (fun H locs hw => ?_)
  have hw : fy D (va_A ws0 sz) s.heap H locs (wMd I a0 a1 a2 a3 a4 a5 (0, x.2)) := hw
  refine lv_aload_n hx hb dX6_firstError_5 rfl (lv_at hl 0 rfl) ?_
  obtain ⟨z1, h, hf⟩ := bd_s hf
  refine x_mi0 hw [0, 1, 2, 3, 4, 5] rfl rfl (x_rV E (As := []) (rest := []) (mt_X6_isText l D I J O a0 a1 a2 a3 a4 a5 H.size (0, x.2) z1.1 z1.2 h) blM (x_recv E hw.1 0 6 rfl rfl rfl) (x_pcMQ0 E hw [0, 1, 2, 3, 4, 5] rfl rfl) ok_X6_isText q971 rfl hl.1 rfl (Nat.le_of_ble_eq_true rfl) ⟨Nat.le_of_ble_eq_true rfl, Nat.le_of_ble_eq_true rfl⟩ ⟨Nat.le_of_ble_eq_true rfl, Nat.le_of_ble_eq_true rfl⟩ dX6_firstError_6) (fun _ => rfl) (fun _ H locs hw => ?_)
  have hw : fy D (va_A ws0 sz) s.heap H locs (wMd I a0 a1 a2 a3 a4 a5 z1.2) := hw
  refine lv_if_eq (tgt := 19) hx hb dX6_firstError_9 (by decide) (fun hc => ?_) (fun hc => ?_)
  · rw [if_pos hc] at hf
    refine lv_aload_n hx hb dX6_firstError_19 rfl (lv_at hl 0 rfl) ?_
    refine x_get E hw.1 0 rfl rfl in6 7 (by decide) q808 rfl rfl dX6_firstError_20 ?_
    obtain ⟨he0, hr⟩ := Prod.mk.inj (Option.some.inj hf)
    have he1 := hr
    subst he1
    exact x_iM E () hw he0 dX6_firstError_23
  · rw [if_neg hc] at hf
    refine lv_aload_n hx hb dX6_firstError_12 rfl (lv_at hl 0 rfl) ?_
    refine x_get E hw.1 0 rfl rfl in6 6 (by decide) q807 rfl rfl dX6_firstError_13 ?_
    refine lv_goto (tgt := 23) hx hb dX6_firstError_16 (by decide) ?_
    obtain ⟨he0, hr⟩ := Prod.mk.inj (Option.some.inj hf)
    have he1 := hr
    subst he1
    exact x_iM E () hw he0 dX6_firstError_23
theorem ok_X6_putAll : yV yX6_putAll cX6_putAll 3 (some .int) 0 := ⟨q994, q7, q992, q993, by decide +kernel, by decide +kernel, by decide +kernel⟩
set_option maxRecDepth 100000 in
set_option maxHeartbeats 4000000 in
theorem k_X6_putAll_88 {p : Program} {l : Launch} {e : Env} {s : State} {m : MethodId} {args : Array Value} {below : List Frame} {meth : Method} {c : Code} {D : va_G} {I J O : ClassId} (E : fx p s m args meth c cX6_putAll RX6 3 (some .int) D I J O) (a0 a1 a2 a3 a4 a5 : Nat)  {ws0 : va_W} {sz : Nat} (r : Int32) (y0 : MdC) (k29 : Int32 → Int32 → MdC → Option (Int32 × MdC)) (hk29 : ∀ (v1 : Int32) (v2 : Int32) (x : MdC), k29 v1 v2 x = some (r, y0) → ∀ (H : Heap) (locs : List Loc), fy D (va_A ws0 sz) s.heap H locs (wMd I a0 a1 a2 a3 a4 a5 x) → ∀ ls : Array Slot, lv_has ls 3 [(0, .ref a0), (1, .int v1), (2, .int v2)] → W p l e (rmB 7 161 0 0) s m args below meth c H locs 0 0 (MQ below (qMi D sz ws0 r (fun _ : Unit => wMd I a0 a1 a2 a3 a4 a5 y0)) args s 0 0 (va_A ws0 sz)) (F0 m 29 ls [])) : ∀ (v2 : Int32) (t0 : Int32) (t1 : Int32) (x : MdC), f_X6_putAll_88 k29 v2 t0 t1 x = some (r, y0) → ∀ (H : Heap) (locs : List Loc), fy D (va_A ws0 sz) s.heap H locs (wMd I a0 a1 a2 a3 a4 a5 x) → ∀ ls : Array Slot, lv_has ls 3 [(0, .ref a0), (2, .int v2)] → W p l e (rmB 7 161 0 0) s m args below meth c H locs 0 0 (MQ below (qMi D sz ws0 r (fun _ : Unit => wMd I a0 a1 a2 a3 a4 a5 y0)) args s 0 0 (va_A ws0 sz)) (F0 m 88 ls [.int t1, .int t0]) := by
  have hx := E.1
  have hb := E.2.1
  intro v2 t0 t1 x hf H locs hw ls hl
  unfold f_X6_putAll_88 at hf
  refine lv_iadd hx hb dX6_putAll_88 ?_
  refine lv_istore_n (lv' := [(1, .int (t0 + t1)), (0, .ref a0), (2, .int v2)]) hx hb dX6_putAll_89 rfl hl (by decide) rfl (fun ls hl => ?_)
  refine lv_iinc (v := v2 + 1) (lv' := [(2, .int (v2 + 1)), (1, .int (t0 + t1)), (0, .ref a0)]) hx hb dX6_putAll_90 hl (k := 2) rfl rfl (by decide) rfl (fun ls hl => ?_)
  refine lv_goto (tgt := 29) hx hb dX6_putAll_93 (by decide) ?_
  exact hk29 (t0 + t1) (v2 + 1) x hf _ _ hw _ (lv_sub hl [2, 1, 0] rfl)
set_option maxRecDepth 100000 in
set_option maxHeartbeats 4000000 in
theorem k_X6_putAll_29 {p : Program} {l : Launch} {e : Env} {s : State} {m : MethodId} {args : Array Value} {below : List Frame} {meth : Method} {c : Code} {D : va_G} {I J O : ClassId} (E : fx p s m args meth c cX6_putAll RX6 3 (some .int) D I J O) (a0 a1 a2 a3 a4 a5 : Nat)  {ws0 : va_W} {sz : Nat} (r : Int32) (y0 : MdC) : ∀ fu : Nat, ∀ (v1 : Int32) (v2 : Int32) (x : MdC), f_X6_putAll_29 fu v1 v2 x = some (r, y0) → ∀ (H : Heap) (locs : List Loc), fy D (va_A ws0 sz) s.heap H locs (wMd I a0 a1 a2 a3 a4 a5 x) → ∀ ls : Array Slot, lv_has ls 3 [(0, .ref a0), (1, .int v1), (2, .int v2)] → W p l e (rmB 7 161 0 0) s m args below meth c H locs 0 0 (MQ below (qMi D sz ws0 r (fun _ : Unit => wMd I a0 a1 a2 a3 a4 a5 y0)) args s 0 0 (va_A ws0 sz)) (F0 m 29 ls []) := by
  have hx := E.1
  have hb := E.2.1
  intro fu
  induction fu with
  | zero =>
    intro v1 v2 x hf H locs hw ls hl
    rw [f_X6_putAll_29.eq_1] at hf
    cases hf
  | succ fu ih =>
    intro v1 v2 x hf H locs hw ls hl
    rw [f_X6_putAll_29.eq_2] at hf
    refine lv_iload_n hx hb dX6_putAll_29 rfl (lv_at hl 2 rfl) ?_
    refine lv_aload_n hx hb dX6_putAll_30 rfl (lv_at hl 0 rfl) ?_
    refine x_get E hw.1 0 rfl rfl in6 9 (by decide) q810 rfl rfl dX6_putAll_31 ?_
    refine lv_icmp_ge (tgt := 96) hx hb dX6_putAll_34 (by decide) (fun hc => ?_) (fun hc => ?_)
    · rw [if_pos hc] at hf
      refine lv_aload_n hx hb dX6_putAll_96 rfl (lv_at hl 0 rfl) ?_
      refine lv_iconst (v := 0) hx hb dX6_putAll_97 (by decide) ?_
      refine x_put E hw 0 rfl rfl in6 tyX6_ok nmX6 6 (by decide) q807 rfl rfl rfl rfl (Nat.le_of_ble_eq_true rfl) dX6_putAll_98 (fun H locs hw => ?_)
      have hw : fy D (va_A ws0 sz) s.heap H locs (wMd I a0 a1 a2 a3 a4 a5 (x.1, x.2.1, x.2.2.1, x.2.2.2.1, x.2.2.2.2.1, x.2.2.2.2.2.1, 0, x.2.2.2.2.2.2.2)) := hw
      refine lv_iload_n hx hb dX6_putAll_101 rfl (lv_at hl 1 rfl) ?_
      obtain ⟨he0, hr⟩ := Prod.mk.inj (Option.some.inj hf)
      have he1 := hr
      subst he1
      exact x_iM E () hw he0 dX6_putAll_102
    · rw [if_neg hc] at hf
      refine lv_iload_n hx hb dX6_putAll_37 rfl (lv_at hl 1 rfl) ?_
      refine lv_aload_n hx hb dX6_putAll_38 rfl (lv_at hl 0 rfl) ?_
      refine x_get E hw.1 0 rfl rfl in6 1 (by decide) q802 rfl rfl dX6_putAll_39 ?_
      refine lv_aload_n hx hb dX6_putAll_42 rfl (lv_at hl 0 rfl) ?_
      refine x_get E hw.1 0 rfl rfl in6 1 (by decide) q802 rfl rfl dX6_putAll_43 ?_
      refine lv_iconst (v := 1) hx hb dX6_putAll_46 (by decide) ?_
      obtain ⟨g, hf⟩ := gi_s hf
      refine x_ald E hw.1 1 rfl g dX6_putAll_47 ?_
      refine lv_aload_n hx hb dX6_putAll_48 rfl (lv_at hl 0 rfl) ?_
      refine x_get E hw.1 0 rfl rfl in6 8 (by decide) q809 rfl rfl dX6_putAll_49 ?_
      refine lv_iconst (v := 3) hx hb dX6_putAll_52 (by decide) ?_
      refine lv_iload_n hx hb dX6_putAll_53 rfl (lv_at hl 2 rfl) ?_
      refine lv_imul hx hb dX6_putAll_54 ?_
      obtain ⟨g, hf⟩ := gi_s hf
      refine x_ald E hw.1 5 rfl g dX6_putAll_55 ?_
      refine lv_aload_n hx hb dX6_putAll_56 rfl (lv_at hl 0 rfl) ?_
      refine x_get E hw.1 0 rfl rfl in6 8 (by decide) q809 rfl rfl dX6_putAll_57 ?_
      refine lv_iconst (v := 3) hx hb dX6_putAll_60 (by decide) ?_
      refine lv_iload_n hx hb dX6_putAll_61 rfl (lv_at hl 2 rfl) ?_
      refine lv_imul hx hb dX6_putAll_62 ?_
      refine lv_iconst (v := 1) hx hb dX6_putAll_63 (by decide) ?_
      refine lv_iadd hx hb dX6_putAll_64 ?_
      obtain ⟨g, hf⟩ := gi_s hf
      refine x_ald E hw.1 5 rfl g dX6_putAll_65 ?_
      refine lv_aload_n hx hb dX6_putAll_66 rfl (lv_at hl 0 rfl) ?_
      refine x_get E hw.1 0 rfl rfl in6 8 (by decide) q809 rfl rfl dX6_putAll_67 ?_
      refine lv_iconst (v := 3) hx hb dX6_putAll_70 (by decide) ?_
      refine lv_iload_n hx hb dX6_putAll_71 rfl (lv_at hl 2 rfl) ?_
      refine lv_imul hx hb dX6_putAll_72 ?_
      refine lv_iconst (v := 2) hx hb dX6_putAll_73 (by decide) ?_
      refine lv_iadd hx hb dX6_putAll_74 ?_
      obtain ⟨g, hf⟩ := gi_s hf
      refine x_ald E hw.1 5 rfl g dX6_putAll_75 ?_
      obtain ⟨z4, h, hf⟩ := bd_s hf
      refine x_mi0 hw [1] rfl rfl (x_rS E (As := [.ref a1, .int (x.2.1 (1 : Int32).toNatClampNeg), .int (x.2.2.2.2.2.2.2.2.1 (3 * v2).toNatClampNeg), .int (x.2.2.2.2.2.2.2.2.1 ((3 * v2) + 1).toNatClampNeg), .int (x.2.2.2.2.2.2.2.2.1 ((3 * v2) + 2).toNatClampNeg)]) (rest := [.int v1]) (mt_X6_comes l D I J O a1 H.size (x.2.1 (1 : Int32).toNatClampNeg) (x.2.2.2.2.2.2.2.2.1 (3 * v2).toNatClampNeg) (x.2.2.2.2.2.2.2.2.1 ((3 * v2) + 1).toNatClampNeg) (x.2.2.2.2.2.2.2.2.1 ((3 * v2) + 2).toNatClampNeg) x.2.1 z4.1 z4.2 h) blM (x_pcMQ0 E hw [1] rfl rfl) ok_X6_comes q878 rfl hl.1 rfl (Nat.le_of_ble_eq_true rfl) ⟨Nat.le_of_ble_eq_true rfl, Nat.le_of_ble_eq_true rfl⟩ ⟨Nat.le_of_ble_eq_true rfl, Nat.le_of_ble_eq_true rfl⟩ dX6_putAll_76) (fun _ => rfl) (fun _ H locs hw => ?_)
      have hw : fy D (va_A ws0 sz) s.heap H locs (wMd I a0 a1 a2 a3 a4 a5 (x.1, z4.2, x.2.2)) := hw
      refine lv_iconst (v := (-1)) hx hb dX6_putAll_79 (by decide) ?_
      refine lv_icmp_ne (tgt := 87) hx hb dX6_putAll_80 (by decide) (fun hc => ?_) (fun hc => ?_)
      · rw [if_neg hc] at hf
        refine lv_iconst (v := 1) hx hb dX6_putAll_87 (by decide) ?_
        exact k_X6_putAll_88 E a0 a1 a2 a3 a4 a5 r y0 (f_X6_putAll_29 fu) ih v2 v1 1 (x.1, z4.2, x.2.2) hf _ _ hw _ (lv_sub hl [0, 2] rfl)
      · rw [if_pos hc] at hf
        refine lv_iconst (v := 0) hx hb dX6_putAll_83 (by decide) ?_
        refine lv_goto (tgt := 88) hx hb dX6_putAll_84 (by decide) ?_
        exact k_X6_putAll_88 E a0 a1 a2 a3 a4 a5 r y0 (f_X6_putAll_29 fu) ih v2 v1 0 (x.1, z4.2, x.2.2) hf _ _ hw _ (lv_sub hl [0, 2] rfl)
set_option maxRecDepth 100000 in
set_option maxHeartbeats 4000000 in
theorem k_X6_putAll_13 {p : Program} {l : Launch} {e : Env} {s : State} {m : MethodId} {args : Array Value} {below : List Frame} {meth : Method} {c : Code} {D : va_G} {I J O : ClassId} (E : fx p s m args meth c cX6_putAll RX6 3 (some .int) D I J O) (a0 a1 a2 a3 a4 a5 : Nat)  {ws0 : va_W} {sz : Nat} (r : Int32) (y0 : MdC) : ∀ (t1 : Int32) (x : MdC), f_X6_putAll_13 t1 x = some (r, y0) → ∀ (H : Heap) (locs : List Loc), fy D (va_A ws0 sz) s.heap H locs (wMd I a0 a1 a2 a3 a4 a5 x) → ∀ ls : Array Slot, lv_has ls 3 [(0, .ref a0)] → W p l e (rmB 7 161 0 0) s m args below meth c H locs 0 0 (MQ below (qMi D sz ws0 r (fun _ : Unit => wMd I a0 a1 a2 a3 a4 a5 y0)) args s 0 0 (va_A ws0 sz)) (F0 m 13 ls [.int t1, .ref a0]) := by
  have hx := E.1
  have hb := E.2.1
  intro t1 x hf H locs hw ls hl
  unfold f_X6_putAll_13 at hf
  obtain ⟨z2, h, hf⟩ := bd_s hf
  refine x_mi0 hw [0, 1, 2, 3, 4, 5] rfl rfl (x_rV E (As := [.int t1]) (rest := []) (mt_X6_refuses l D I J O a0 a1 a2 a3 a4 a5 H.size t1 x z2.1 z2.2 h) blM (x_recv E hw.1 0 6 rfl rfl rfl) (x_pcMQ0 E hw [0, 1, 2, 3, 4, 5] rfl rfl) ok_X6_refuses q867 rfl hl.1 rfl (Nat.le_of_ble_eq_true rfl) ⟨Nat.le_of_ble_eq_true rfl, Nat.le_of_ble_eq_true rfl⟩ ⟨Nat.le_of_ble_eq_true rfl, Nat.le_of_ble_eq_true rfl⟩ dX6_putAll_13) (fun _ => rfl) (fun _ H locs hw => ?_)
  have hw : fy D (va_A ws0 sz) s.heap H locs (wMd I a0 a1 a2 a3 a4 a5 z2.2) := hw
  refine lv_if_eq (tgt := 21) hx hb dX6_putAll_16 (by decide) (fun hc => ?_) (fun hc => ?_)
  · rw [if_pos hc] at hf
    refine lv_aload_n hx hb dX6_putAll_21 rfl (lv_at hl 0 rfl) ?_
    obtain ⟨z3, h, hf⟩ := bd_s hf
    refine x_mv0 hw [0, 1, 2, 3, 4, 5] rfl rfl (x_rV E (As := []) (rest := []) (mt_X6_saves l D I J O a0 a1 a2 a3 a4 a5 H.size z2.2 z3 h) blM (x_recv E hw.1 0 6 rfl rfl rfl) (x_pcMQ0 E hw [0, 1, 2, 3, 4, 5] rfl rfl) ok_X6_saves q871 rfl hl.1 rfl (Nat.le_of_ble_eq_true rfl) ⟨Nat.le_of_ble_eq_true rfl, Nat.le_of_ble_eq_true rfl⟩ ⟨Nat.le_of_ble_eq_true rfl, Nat.le_of_ble_eq_true rfl⟩ dX6_putAll_22) (fun _ => rfl) (fun _ H locs hw => ?_)
    have hw : fy D (va_A ws0 sz) s.heap H locs (wMd I a0 a1 a2 a3 a4 a5 z3) := hw
    refine lv_iconst (v := 0) hx hb dX6_putAll_25 (by decide) ?_
    refine lv_istore_n (lv' := [(1, .int 0), (0, .ref a0)]) hx hb dX6_putAll_26 rfl hl (by decide) rfl (fun ls hl => ?_)
    refine lv_iconst (v := 0) hx hb dX6_putAll_27 (by decide) ?_
    refine lv_istore_n (lv' := [(2, .int 0), (1, .int 0), (0, .ref a0)]) hx hb dX6_putAll_28 rfl hl (by decide) rfl (fun ls hl => ?_)
    exact k_X6_putAll_29 E a0 a1 a2 a3 a4 a5 r y0 FU 0 0 z3 hf _ _ hw _ (lv_sub hl [2, 1, 0] rfl)
  · rw [if_neg hc] at hf
    refine lv_iconst (v := 0) hx hb dX6_putAll_19 (by decide) ?_
    obtain ⟨he0, hr⟩ := Prod.mk.inj (Option.some.inj hf)
    have he1 := hr
    subst he1
    exact x_iM E () hw he0 dX6_putAll_20
set_option maxRecDepth 100000 in
set_option maxHeartbeats 4000000 in
theorem mt_X6_putAll (l : Launch) (D : va_G) (I J O : ClassId) (a0 a1 a2 a3 a4 a5 : Nat) (sz : Nat)  (x : MdC) (r : Int32) (y0 : MdC) (hf : f_X6_putAll x = some (r, y0)) : mM l yX6_putAll cX6_putAll 3 (some .int) 7 161 0 0 D I J O sz [.ref a0] (wMd I a0 a1 a2 a3 a4 a5 x) (qMi D sz (wMd I a0 a1 a2 a3 a4 a5 x) r (fun _ : Unit => wMd I a0 a1 a2 a3 a4 a5 y0)) := by
  refine mM_open (own := RX6) rfl (by decide +kernel) (Nat.le_of_ble_eq_true rfl) (fun p e s m below meth c ls E hnm hsz hw hl => ?_)
  obtain ⟨ws0, hws⟩ : ∃ ws0 : va_W, ws0 = wMd I a0 a1 a2 a3 a4 a5 x := ⟨_, rfl⟩
  have hw : fy D (va_A ws0 sz) s.heap s.heap [] (wMd I a0 a1 a2 a3 a4 a5 x) := by rw [hws]; exact hw
  rw [← hws]
  have hx := E.1
  have hb := E.2.1
  have hl : lv_has ls 3 [(0, .ref a0)] := hl
  unfold f_X6_putAll at hf
  refine lv_aload_n hx hb dX6_putAll_0 rfl (lv_at hl 0 rfl) ?_
  refine lv_aload_n hx hb dX6_putAll_1 rfl (lv_at hl 0 rfl) ?_
  obtain ⟨z1, h, hf⟩ := bd_s hf
  refine x_mi0 hw [0, 1, 2, 3, 4, 5] rfl rfl (x_rV E (As := []) (rest := [.ref a0]) (mt_X6_isText l D I J O a0 a1 a2 a3 a4 a5 s.heap.size x z1.1 z1.2 h) blM (x_recv E hw.1 0 6 rfl rfl rfl) (x_pcMQ0 E hw [0, 1, 2, 3, 4, 5] rfl rfl) ok_X6_isText q971 rfl hl.1 rfl (Nat.le_of_ble_eq_true rfl) ⟨Nat.le_of_ble_eq_true rfl, Nat.le_of_ble_eq_true rfl⟩ ⟨Nat.le_of_ble_eq_true rfl, Nat.le_of_ble_eq_true rfl⟩ dX6_putAll_2) (fun _ => rfl) (fun _ H locs hw => ?_)
  have hw : fy D (va_A ws0 sz) s.heap H locs (wMd I a0 a1 a2 a3 a4 a5 z1.2) := hw
  refine lv_if_eq (tgt := 12) hx hb dX6_putAll_5 (by decide) (fun hc => ?_) (fun hc => ?_)
  · rw [if_pos hc] at hf
    refine lv_iconst (v := 1) hx hb dX6_putAll_12 (by decide) ?_
    exact k_X6_putAll_13 E a0 a1 a2 a3 a4 a5 r y0 1 z1.2 hf _ _ hw _ (lv_sub hl [0] rfl)
  · rw [if_neg hc] at hf
    refine lv_iconst (v := 0) hx hb dX6_putAll_8 (by decide) ?_
    refine lv_goto (tgt := 13) hx hb dX6_putAll_9 (by decide) ?_
    exact k_X6_putAll_13 E a0 a1 a2 a3 a4 a5 r y0 0 z1.2 hf _ _ hw _ (lv_sub hl [0] rfl)
theorem ok_X6_undo : yV yX6_undo cX6_undo 1 (some .int) 0 := ⟨q998, q7, q996, q997, by decide +kernel, by decide +kernel, by decide +kernel⟩
set_option maxRecDepth 100000 in
set_option maxHeartbeats 4000000 in
theorem k_X6_undo_13 {p : Program} {l : Launch} {e : Env} {s : State} {m : MethodId} {args : Array Value} {below : List Frame} {meth : Method} {c : Code} {D : va_G} {I J O : ClassId} (E : fx p s m args meth c cX6_undo RX6 1 (some .int) D I J O) (a0 a1 a2 a3 a4 a5 : Nat)  {ws0 : va_W} {sz : Nat} (r : Int32) (y0 : MdC) : ∀ (t1 : Int32) (x : MdC), f_X6_undo_13 t1 x = some (r, y0) → ∀ (H : Heap) (locs : List Loc), fy D (va_A ws0 sz) s.heap H locs (wMd I a0 a1 a2 a3 a4 a5 x) → ∀ ls : Array Slot, lv_has ls 1 [(0, .ref a0)] → W p l e (rmB 1 24 0 0) s m args below meth c H locs 0 0 (MQ below (qMi D sz ws0 r (fun _ : Unit => wMd I a0 a1 a2 a3 a4 a5 y0)) args s 0 0 (va_A ws0 sz)) (F0 m 13 ls [.int t1, .ref a0]) := by
  have hx := E.1
  have hb := E.2.1
  intro t1 x hf H locs hw ls hl
  unfold f_X6_undo_13 at hf
  obtain ⟨z1, h, hf⟩ := bd_s hf
  refine x_mi0 hw [0, 1, 2, 3, 4, 5] rfl rfl (x_rV E (As := [.int t1]) (rest := []) (mt_X6_refuses l D I J O a0 a1 a2 a3 a4 a5 H.size t1 x z1.1 z1.2 h) blM (x_recv E hw.1 0 6 rfl rfl rfl) (x_pcMQ0 E hw [0, 1, 2, 3, 4, 5] rfl rfl) ok_X6_refuses q867 rfl hl.1 rfl (Nat.le_of_ble_eq_true rfl) ⟨Nat.le_of_ble_eq_true rfl, Nat.le_of_ble_eq_true rfl⟩ ⟨Nat.le_of_ble_eq_true rfl, Nat.le_of_ble_eq_true rfl⟩ dX6_undo_13) (fun _ => rfl) (fun _ H locs hw => ?_)
  have hw : fy D (va_A ws0 sz) s.heap H locs (wMd I a0 a1 a2 a3 a4 a5 z1.2) := hw
  refine lv_if_eq (tgt := 21) hx hb dX6_undo_16 (by decide) (fun hc => ?_) (fun hc => ?_)
  · rw [if_pos hc] at hf
    refine lv_aload_n hx hb dX6_undo_21 rfl (lv_at hl 0 rfl) ?_
    refine lv_dup hx hb dX6_undo_22 rfl ?_
    refine x_get E hw.1 0 rfl rfl in6 4 (by decide) q805 rfl rfl dX6_undo_23 ?_
    refine lv_iconst (v := 1) hx hb dX6_undo_26 (by decide) ?_
    refine lv_isub hx hb dX6_undo_27 ?_
    refine x_put E hw 0 rfl rfl in6 tyX6_ok nmX6 4 (by decide) q805 rfl rfl rfl rfl (Nat.le_of_ble_eq_true rfl) dX6_undo_28 (fun H locs hw => ?_)
    have hw : fy D (va_A ws0 sz) s.heap H locs (wMd I a0 a1 a2 a3 a4 a5 (z1.2.1, z1.2.2.1, z1.2.2.2.1, z1.2.2.2.2.1, z1.2.2.2.2.2.1 - 1, z1.2.2.2.2.2.2)) := hw
    refine lv_aload_n hx hb dX6_undo_31 rfl (lv_at hl 0 rfl) ?_
    refine x_get E hw.1 0 rfl rfl in6 3 (by decide) q804 rfl rfl dX6_undo_32 ?_
    refine lv_sipush (v := 414) hx hb dX6_undo_35 (by decide) ?_
    refine lv_aload_n hx hb dX6_undo_38 rfl (lv_at hl 0 rfl) ?_
    refine x_get E hw.1 0 rfl rfl in6 4 (by decide) q805 rfl rfl dX6_undo_39 ?_
    refine lv_imul hx hb dX6_undo_42 ?_
    refine lv_aload_n hx hb dX6_undo_43 rfl (lv_at hl 0 rfl) ?_
    refine x_get E hw.1 0 rfl rfl in6 1 (by decide) q802 rfl rfl dX6_undo_44 ?_
    refine lv_iconst (v := 0) hx hb dX6_undo_47 (by decide) ?_
    obtain ⟨z2, h, hf⟩ := bd_s hf
    refine x_mv0 hw [3, 1] rfl rfl (x_rS E (As := [.ref a3, .int (414 * (z1.2.2.2.2.2.1 - 1)), .ref a1, .int 0]) (rest := []) (mt_X6_lays l D I J O a3 a1 2484 414 H.size (414 * (z1.2.2.2.2.2.1 - 1)) 0 z1.2.2.2.2.1 z1.2.2.1 z2 h) blM (x_pcMQ0 E hw [3, 1] rfl rfl) ok_X6_lays q875 rfl hl.1 rfl (Nat.le_of_ble_eq_true rfl) ⟨Nat.le_of_ble_eq_true rfl, Nat.le_of_ble_eq_true rfl⟩ ⟨Nat.le_of_ble_eq_true rfl, Nat.le_of_ble_eq_true rfl⟩ dX6_undo_48) (fun _ => rfl) (fun _ H locs hw => ?_)
    have hw : fy D (va_A ws0 sz) s.heap H locs (wMd I a0 a1 a2 a3 a4 a5 (z1.2.1, z2, z1.2.2.2.1, z1.2.2.2.2.1, z1.2.2.2.2.2.1 - 1, z1.2.2.2.2.2.2)) := hw
    refine lv_aload_n hx hb dX6_undo_51 rfl (lv_at hl 0 rfl) ?_
    refine x_get E hw.1 0 rfl rfl in6 4 (by decide) q805 rfl rfl dX6_undo_52 ?_
    obtain ⟨he0, hr⟩ := Prod.mk.inj (Option.some.inj hf)
    have he1 := hr
    subst he1
    exact x_iM E () hw he0 dX6_undo_55
  · rw [if_neg hc] at hf
    refine lv_iconst (v := 0) hx hb dX6_undo_19 (by decide) ?_
    obtain ⟨he0, hr⟩ := Prod.mk.inj (Option.some.inj hf)
    have he1 := hr
    subst he1
    exact x_iM E () hw he0 dX6_undo_20
set_option maxRecDepth 100000 in
set_option maxHeartbeats 4000000 in
theorem mt_X6_undo (l : Launch) (D : va_G) (I J O : ClassId) (a0 a1 a2 a3 a4 a5 : Nat) (sz : Nat)  (x : MdC) (r : Int32) (y0 : MdC) (hf : f_X6_undo x = some (r, y0)) : mM l yX6_undo cX6_undo 1 (some .int) 1 24 0 0 D I J O sz [.ref a0] (wMd I a0 a1 a2 a3 a4 a5 x) (qMi D sz (wMd I a0 a1 a2 a3 a4 a5 x) r (fun _ : Unit => wMd I a0 a1 a2 a3 a4 a5 y0)) := by
  refine mM_open (own := RX6) rfl (by decide +kernel) (Nat.le_of_ble_eq_true rfl) (fun p e s m below meth c ls E hnm hsz hw hl => ?_)
  obtain ⟨ws0, hws⟩ : ∃ ws0 : va_W, ws0 = wMd I a0 a1 a2 a3 a4 a5 x := ⟨_, rfl⟩
  have hw : fy D (va_A ws0 sz) s.heap s.heap [] (wMd I a0 a1 a2 a3 a4 a5 x) := by rw [hws]; exact hw
  rw [← hws]
  have hx := E.1
  have hb := E.2.1
  have hl : lv_has ls 1 [(0, .ref a0)] := hl
  unfold f_X6_undo at hf
  refine lv_aload_n hx hb dX6_undo_0 rfl (lv_at hl 0 rfl) ?_
  refine lv_aload_n hx hb dX6_undo_1 rfl (lv_at hl 0 rfl) ?_
  refine x_get E hw.1 0 rfl rfl in6 4 (by decide) q805 rfl rfl dX6_undo_2 ?_
  refine lv_if_ne (tgt := 12) hx hb dX6_undo_5 (by decide) (fun hc => ?_) (fun hc => ?_)
  · rw [if_neg hc] at hf
    refine lv_iconst (v := 0) hx hb dX6_undo_12 (by decide) ?_
    exact k_X6_undo_13 E a0 a1 a2 a3 a4 a5 r y0 0 x hf _ _ hw _ (lv_sub hl [0] rfl)
  · rw [if_pos hc] at hf
    refine lv_iconst (v := 1) hx hb dX6_undo_8 (by decide) ?_
    refine lv_goto (tgt := 13) hx hb dX6_undo_9 (by decide) ?_
    exact k_X6_undo_13 E a0 a1 a2 a3 a4 a5 r y0 1 x hf _ _ hw _ (lv_sub hl [0] rfl)
theorem ok_X6_refusal : yV yX6_refusal cX6_refusal 2 (some .int) 1 := ⟨q1002, q7, q1000, q1001, by decide +kernel, by decide +kernel, by decide +kernel⟩
set_option maxRecDepth 100000 in
set_option maxHeartbeats 4000000 in
theorem mt_X6_refusal (l : Launch) (D : va_G) (I J O : ClassId) (a0 a1 a2 a3 a4 a5 : Nat) (sz : Nat) (p0 : Int32) (x : MdC) (r : Int32) (y0 : MdC) (hf : f_X6_refusal p0 x = some (r, y0)) : mM l yX6_refusal cX6_refusal 2 (some .int) 4 88 0 0 D I J O sz [.ref a0, .int p0] (wMd I a0 a1 a2 a3 a4 a5 x) (qMi D sz (wMd I a0 a1 a2 a3 a4 a5 x) r (fun _ : Unit => wMd I a0 a1 a2 a3 a4 a5 y0)) := by
  refine mM_open (own := RX6) rfl (by decide +kernel) (Nat.le_of_ble_eq_true rfl) (fun p e s m below meth c ls E hnm hsz hw hl => ?_)
  obtain ⟨ws0, hws⟩ : ∃ ws0 : va_W, ws0 = wMd I a0 a1 a2 a3 a4 a5 x := ⟨_, rfl⟩
  have hw : fy D (va_A ws0 sz) s.heap s.heap [] (wMd I a0 a1 a2 a3 a4 a5 x) := by rw [hws]; exact hw
  rw [← hws]
  have hx := E.1
  have hb := E.2.1
  have hl : lv_has ls 2 [(0, .ref a0), (1, .int p0)] := hl
  unfold f_X6_refusal at hf
  refine lv_aload_n hx hb dX6_refusal_0 rfl (lv_at hl 0 rfl) ?_
  refine lv_iconst (v := 0) hx hb dX6_refusal_1 (by decide) ?_
  refine x_put E hw 0 rfl rfl in6 tyX6_ok nmX6 0 (by decide) q801 rfl rfl rfl rfl (Nat.le_of_ble_eq_true rfl) dX6_refusal_2 (fun H locs hw => ?_)
  have hw : fy D (va_A ws0 sz) s.heap H locs (wMd I a0 a1 a2 a3 a4 a5 (0, x.2)) := hw
  refine lv_aload_n hx hb dX6_refusal_5 rfl (lv_at hl 0 rfl) ?_
  refine x_get E hw.1 0 rfl rfl in6 1 (by decide) q802 rfl rfl dX6_refusal_6 ?_
  refine lv_iload_n hx hb dX6_refusal_9 rfl (lv_at hl 1 rfl) ?_
  obtain ⟨z1, h, hf⟩ := bd_s hf
  refine x_ci (x_rS E (As := [.ref a1, .int p0]) (rest := []) (mt_X6_whyNot l D I J O a1 p0 x.2.1 z1 h) blR (x_pcR E (x_pick0 hw.1 [1] rfl)) ok_X6_whyNot q885 rfl hl.1 rfl (Nat.le_of_ble_eq_true rfl) ⟨Nat.le_of_ble_eq_true rfl, Nat.le_of_ble_eq_true rfl⟩ ⟨Nat.le_of_ble_eq_true rfl, Nat.le_of_ble_eq_true rfl⟩ dX6_refusal_10) ?_
  obtain ⟨he0, hr⟩ := Prod.mk.inj (Option.some.inj hf)
  have he1 := hr
  subst he1
  exact x_iM E () hw he0 dX6_refusal_13
theorem ok_X6_placeOf : yV yX6_placeOf cX6_placeOf 4 (some .int) 1 := ⟨q1014, q7, q1013, qs27, by decide +kernel, by decide +kernel, by decide +kernel⟩
set_option maxRecDepth 100000 in
set_option maxHeartbeats 4000000 in
theorem k_X6_placeOf_26 {p : Program} {l : Launch} {e : Env} {s : State} {m : MethodId} {args : Array Value} {below : List Frame} {meth : Method} {c : Code} {D : va_G} {I J O : ClassId} (E : fx p s m args meth c cX6_placeOf RX6 4 (some .int) D I J O) (a0 a1 a2 a3 a4 a5 : Nat)  (r : Int32) (k4 : Int32 → Int32 → Int32 → MdC → Option (Int32)) (hk4 : ∀ (v1 : Int32) (v2 : Int32) (v3 : Int32) (x : MdC), k4 v1 v2 v3 x = some r → va_P D vwCl (wMd I a0 a1 a2 a3 a4 a5 x) s.heap → ∀ ls : Array Slot, lv_has ls 4 [(0, .ref a0), (1, .int v1), (2, .int v2), (3, .int v3)] → W p l e (rmB 2 43 0 0) s m args below meth c s.heap [] 0 0 (MQ below (qRi r) args s 0 0 (fun _ => False)) (F0 m 4 ls [])) : ∀ (v1 : Int32) (v3 : Int32) (t0 : Int32) (t1 : Int32) (x : MdC), f_X6_placeOf_26 k4 v1 v3 t0 t1 x = some r → va_P D vwCl (wMd I a0 a1 a2 a3 a4 a5 x) s.heap → ∀ ls : Array Slot, lv_has ls 4 [(0, .ref a0), (1, .int v1), (3, .int v3)] → W p l e (rmB 2 43 0 0) s m args below meth c s.heap [] 0 0 (MQ below (qRi r) args s 0 0 (fun _ => False)) (F0 m 26 ls [.int t1, .int t0]) := by
  have hx := E.1
  have hb := E.2.1
  intro v1 v3 t0 t1 x hf hP ls hl
  unfold f_X6_placeOf_26 at hf
  refine lv_iadd hx hb dX6_placeOf_26 ?_
  refine lv_istore_n (lv' := [(2, .int (t0 + t1)), (0, .ref a0), (1, .int v1), (3, .int v3)]) hx hb dX6_placeOf_27 rfl hl (by decide) rfl (fun ls hl => ?_)
  refine lv_iinc (v := v3 + 1) (lv' := [(3, .int (v3 + 1)), (2, .int (t0 + t1)), (0, .ref a0), (1, .int v1)]) hx hb dX6_placeOf_28 hl (k := 3) rfl rfl (by decide) rfl (fun ls hl => ?_)
  refine lv_goto (tgt := 4) hx hb dX6_placeOf_31 (by decide) ?_
  exact hk4 v1 (t0 + t1) (v3 + 1) x hf hP _ (lv_sub hl [2, 3, 1, 0] rfl)
set_option maxRecDepth 100000 in
set_option maxHeartbeats 4000000 in
theorem k_X6_placeOf_4 {p : Program} {l : Launch} {e : Env} {s : State} {m : MethodId} {args : Array Value} {below : List Frame} {meth : Method} {c : Code} {D : va_G} {I J O : ClassId} (E : fx p s m args meth c cX6_placeOf RX6 4 (some .int) D I J O) (a0 a1 a2 a3 a4 a5 : Nat)  (r : Int32) : ∀ fu : Nat, ∀ (v1 : Int32) (v2 : Int32) (v3 : Int32) (x : MdC), f_X6_placeOf_4 fu v1 v2 v3 x = some r → va_P D vwCl (wMd I a0 a1 a2 a3 a4 a5 x) s.heap → ∀ ls : Array Slot, lv_has ls 4 [(0, .ref a0), (1, .int v1), (2, .int v2), (3, .int v3)] → W p l e (rmB 2 43 0 0) s m args below meth c s.heap [] 0 0 (MQ below (qRi r) args s 0 0 (fun _ => False)) (F0 m 4 ls []) := by
  have hx := E.1
  have hb := E.2.1
  intro fu
  induction fu with
  | zero =>
    intro v1 v2 v3 x hf hP ls hl
    rw [f_X6_placeOf_4.eq_1] at hf
    cases hf
  | succ fu ih =>
    intro v1 v2 v3 x hf hP ls hl
    rw [f_X6_placeOf_4.eq_2] at hf
    refine lv_iload_n hx hb dX6_placeOf_4 rfl (lv_at hl 3 rfl) ?_
    refine lv_iload_n hx hb dX6_placeOf_5 rfl (lv_at hl 1 rfl) ?_
    refine lv_icmp_ge (tgt := 34) hx hb dX6_placeOf_6 (by decide) (fun hc => ?_) (fun hc => ?_)
    · rw [if_pos hc] at hf
      refine lv_iload_n hx hb dX6_placeOf_34 rfl (lv_at hl 2 rfl) ?_
      exact x_iR E (Option.some.inj hf) dX6_placeOf_35
    · rw [if_neg hc] at hf
      refine lv_iload_n hx hb dX6_placeOf_9 rfl (lv_at hl 2 rfl) ?_
      refine lv_aload_n hx hb dX6_placeOf_10 rfl (lv_at hl 0 rfl) ?_
      refine x_get E hP 0 rfl rfl in6 1 (by decide) q802 rfl rfl dX6_placeOf_11 ?_
      refine lv_iload_n hx hb dX6_placeOf_14 rfl (lv_at hl 3 rfl) ?_
      obtain ⟨z1, h, hf⟩ := bd_s hf
      refine x_ci (x_rS E (As := [.ref a1, .int v3]) (rest := [.int v2]) (mt_X6_isThing l D I J O a1 v3 x.2.1 z1 h) blR (x_pcR E (x_pick0 hP [1] rfl)) ok_X6_isThing q861 rfl hl.1 rfl (Nat.le_of_ble_eq_true rfl) ⟨Nat.le_of_ble_eq_true rfl, Nat.le_of_ble_eq_true rfl⟩ ⟨Nat.le_of_ble_eq_true rfl, Nat.le_of_ble_eq_true rfl⟩ dX6_placeOf_15) ?_
      refine lv_if_eq (tgt := 25) hx hb dX6_placeOf_18 (by decide) (fun hc => ?_) (fun hc => ?_)
      · rw [if_pos hc] at hf
        refine lv_iconst (v := 0) hx hb dX6_placeOf_25 (by decide) ?_
        exact k_X6_placeOf_26 E a0 a1 a2 a3 a4 a5 r (f_X6_placeOf_4 fu) ih v1 v3 v2 0 x hf hP _ (lv_sub hl [0, 1, 3] rfl)
      · rw [if_neg hc] at hf
        refine lv_iconst (v := 1) hx hb dX6_placeOf_21 (by decide) ?_
        refine lv_goto (tgt := 26) hx hb dX6_placeOf_22 (by decide) ?_
        exact k_X6_placeOf_26 E a0 a1 a2 a3 a4 a5 r (f_X6_placeOf_4 fu) ih v1 v3 v2 1 x hf hP _ (lv_sub hl [0, 1, 3] rfl)
set_option maxRecDepth 100000 in
set_option maxHeartbeats 4000000 in
theorem mt_X6_placeOf (l : Launch) (D : va_G) (I J O : ClassId) (a0 a1 a2 a3 a4 a5 : Nat) (p0 : Int32) (x : MdC) (r : Int32) (hf : f_X6_placeOf p0 x = some r) : mR l yX6_placeOf cX6_placeOf 4 (some .int) 2 43 D I J O [.ref a0, .int p0] (wMd I a0 a1 a2 a3 a4 a5 x) (qRi r) := by
  refine mR_open (own := RX6) rfl (by decide +kernel) (Nat.le_of_ble_eq_true rfl) (fun p e s m below meth c ls E hP hl => ?_)
  have hx := E.1
  have hb := E.2.1
  have hl : lv_has ls 4 [(0, .ref a0), (1, .int p0)] := hl
  unfold f_X6_placeOf at hf
  refine lv_iconst (v := 0) hx hb dX6_placeOf_0 (by decide) ?_
  refine lv_istore_n (lv' := [(2, .int 0), (0, .ref a0), (1, .int p0)]) hx hb dX6_placeOf_1 rfl hl (by decide) rfl (fun ls hl => ?_)
  refine lv_iconst (v := 0) hx hb dX6_placeOf_2 (by decide) ?_
  refine lv_istore_n (lv' := [(3, .int 0), (2, .int 0), (0, .ref a0), (1, .int p0)]) hx hb dX6_placeOf_3 rfl hl (by decide) rfl (fun ls hl => ?_)
  exact k_X6_placeOf_4 E a0 a1 a2 a3 a4 a5 r FU p0 0 0 x hf hP _ (lv_sub hl [2, 3, 1, 0] rfl)
theorem ok_X6_ofThing : yV yX6_ofThing cX6_ofThing 3 (some .int) 2 := ⟨q1010, q7, q1009, qs26, by decide +kernel, by decide +kernel, by decide +kernel⟩
set_option maxRecDepth 100000 in
set_option maxHeartbeats 4000000 in
theorem mt_X6_ofThing (l : Launch) (D : va_G) (I J O : ClassId) (a0 a1 a2 a3 a4 a5 : Nat) (p0 : Int32) (p1 : Int32) (x : MdC) (r : Int32) (hf : f_X6_ofThing p0 p1 x = some r) : mR l yX6_ofThing cX6_ofThing 3 (some .int) 3 66 D I J O [.ref a0, .int p0, .int p1] (wMd I a0 a1 a2 a3 a4 a5 x) (qRi r) := by
  refine mR_open (own := RX6) rfl (by decide +kernel) (Nat.le_of_ble_eq_true rfl) (fun p e s m below meth c ls E hP hl => ?_)
  have hx := E.1
  have hb := E.2.1
  have hl : lv_has ls 3 [(0, .ref a0), (1, .int p0), (2, .int p1)] := hl
  unfold f_X6_ofThing at hf
  refine lv_iload_n hx hb dX6_ofThing_0 rfl (lv_at hl 2 rfl) ?_
  by_cases hc0 : p1 = 0
  · rw [if_pos hc0] at hf
    refine lv_tableIn (tgt := 36) hx hb dX6_ofThing_1 (by rw [hc0]; decide) (by rw [hc0]; decide) (by rw [hc0]; rfl) (by decide) ?_
    refine lv_aload_n hx hb dX6_ofThing_36 rfl (lv_at hl 0 rfl) ?_
    refine x_get E hP 0 rfl rfl in6 1 (by decide) q802 rfl rfl dX6_ofThing_37 ?_
    refine lv_iload_n hx hb dX6_ofThing_40 rfl (lv_at hl 1 rfl) ?_
    refine lv_iconst (v := 2) hx hb dX6_ofThing_41 (by decide) ?_
    obtain ⟨z1, h, hf⟩ := bd_s hf
    refine x_ci (x_rS E (As := [.ref a1, .int p0, .int 2]) (rest := []) (mt_X6_of l D I J O a1 p0 2 x.2.1 z1 h) blR (x_pcR E (x_pick0 hP [1] rfl)) ok_X6_of q864 rfl hl.1 rfl (Nat.le_of_ble_eq_true rfl) ⟨Nat.le_of_ble_eq_true rfl, Nat.le_of_ble_eq_true rfl⟩ ⟨Nat.le_of_ble_eq_true rfl, Nat.le_of_ble_eq_true rfl⟩ dX6_ofThing_42) ?_
    exact x_iR E (Option.some.inj hf) dX6_ofThing_45
  · rw [if_neg hc0] at hf
    by_cases hc1 : p1 = 1
    · rw [if_pos hc1] at hf
      refine lv_tableIn (tgt := 46) hx hb dX6_ofThing_1 (by rw [hc1]; decide) (by rw [hc1]; decide) (by rw [hc1]; rfl) (by decide) ?_
      refine lv_aload_n hx hb dX6_ofThing_46 rfl (lv_at hl 0 rfl) ?_
      refine x_get E hP 0 rfl rfl in6 1 (by decide) q802 rfl rfl dX6_ofThing_47 ?_
      refine lv_iload_n hx hb dX6_ofThing_50 rfl (lv_at hl 1 rfl) ?_
      refine lv_iconst (v := 1) hx hb dX6_ofThing_51 (by decide) ?_
      obtain ⟨z2, h, hf⟩ := bd_s hf
      refine x_ci (x_rS E (As := [.ref a1, .int p0, .int 1]) (rest := []) (mt_X6_of l D I J O a1 p0 1 x.2.1 z2 h) blR (x_pcR E (x_pick0 hP [1] rfl)) ok_X6_of q864 rfl hl.1 rfl (Nat.le_of_ble_eq_true rfl) ⟨Nat.le_of_ble_eq_true rfl, Nat.le_of_ble_eq_true rfl⟩ ⟨Nat.le_of_ble_eq_true rfl, Nat.le_of_ble_eq_true rfl⟩ dX6_ofThing_52) ?_
      exact x_iR E (Option.some.inj hf) dX6_ofThing_55
    · rw [if_neg hc1] at hf
      by_cases hc2 : p1 = 2
      · rw [if_pos hc2] at hf
        refine lv_tableIn (tgt := 56) hx hb dX6_ofThing_1 (by rw [hc2]; decide) (by rw [hc2]; decide) (by rw [hc2]; rfl) (by decide) ?_
        refine lv_aload_n hx hb dX6_ofThing_56 rfl (lv_at hl 0 rfl) ?_
        refine x_get E hP 0 rfl rfl in6 1 (by decide) q802 rfl rfl dX6_ofThing_57 ?_
        refine lv_iload_n hx hb dX6_ofThing_60 rfl (lv_at hl 1 rfl) ?_
        refine lv_iconst (v := 3) hx hb dX6_ofThing_61 (by decide) ?_
        obtain ⟨z3, h, hf⟩ := bd_s hf
        refine x_ci (x_rS E (As := [.ref a1, .int p0, .int 3]) (rest := []) (mt_X6_of l D I J O a1 p0 3 x.2.1 z3 h) blR (x_pcR E (x_pick0 hP [1] rfl)) ok_X6_of q864 rfl hl.1 rfl (Nat.le_of_ble_eq_true rfl) ⟨Nat.le_of_ble_eq_true rfl, Nat.le_of_ble_eq_true rfl⟩ ⟨Nat.le_of_ble_eq_true rfl, Nat.le_of_ble_eq_true rfl⟩ dX6_ofThing_62) ?_
        exact x_iR E (Option.some.inj hf) dX6_ofThing_65
      · rw [if_neg hc2] at hf
        by_cases hc3 : p1 = 3
        · rw [if_pos hc3] at hf
          refine lv_tableIn (tgt := 66) hx hb dX6_ofThing_1 (by rw [hc3]; decide) (by rw [hc3]; decide) (by rw [hc3]; rfl) (by decide) ?_
          refine lv_aload_n hx hb dX6_ofThing_66 rfl (lv_at hl 0 rfl) ?_
          refine x_get E hP 0 rfl rfl in6 1 (by decide) q802 rfl rfl dX6_ofThing_67 ?_
          refine lv_iload_n hx hb dX6_ofThing_70 rfl (lv_at hl 1 rfl) ?_
          refine lv_iconst (v := 4) hx hb dX6_ofThing_71 (by decide) ?_
          obtain ⟨z4, h, hf⟩ := bd_s hf
          refine x_ci (x_rS E (As := [.ref a1, .int p0, .int 4]) (rest := []) (mt_X6_of l D I J O a1 p0 4 x.2.1 z4 h) blR (x_pcR E (x_pick0 hP [1] rfl)) ok_X6_of q864 rfl hl.1 rfl (Nat.le_of_ble_eq_true rfl) ⟨Nat.le_of_ble_eq_true rfl, Nat.le_of_ble_eq_true rfl⟩ ⟨Nat.le_of_ble_eq_true rfl, Nat.le_of_ble_eq_true rfl⟩ dX6_ofThing_72) ?_
          exact x_iR E (Option.some.inj hf) dX6_ofThing_75
        · rw [if_neg hc3] at hf
          by_cases hc4 : p1 = 4
          · rw [if_pos hc4] at hf
            refine lv_tableIn (tgt := 76) hx hb dX6_ofThing_1 (by rw [hc4]; decide) (by rw [hc4]; decide) (by rw [hc4]; rfl) (by decide) ?_
            refine lv_aload_n hx hb dX6_ofThing_76 rfl (lv_at hl 0 rfl) ?_
            refine lv_iload_n hx hb dX6_ofThing_77 rfl (lv_at hl 1 rfl) ?_
            obtain ⟨z5, h, hf⟩ := bd_s hf
            refine x_ci (x_rV E (As := [.int p0]) (rest := []) (mt_X6_placeOf l D I J O a0 a1 a2 a3 a4 a5 p0 x z5 h) blR (x_recv E hP 0 6 rfl rfl rfl) (x_pcR E hP) ok_X6_placeOf q1011 rfl hl.1 rfl (Nat.le_of_ble_eq_true rfl) ⟨Nat.le_of_ble_eq_true rfl, Nat.le_of_ble_eq_true rfl⟩ ⟨Nat.le_of_ble_eq_true rfl, Nat.le_of_ble_eq_true rfl⟩ dX6_ofThing_78) ?_
            exact x_iR E (Option.some.inj hf) dX6_ofThing_81
          · rw [if_neg hc4] at hf
            refine lv_tableOut (tgt := 82) hx hb dX6_ofThing_1 (by have q0 := sw_ne 0 0 (by decide) hc0; have q1 := sw_ne 1 1 (by decide) hc1; have q2 := sw_ne 2 2 (by decide) hc2; have q3 := sw_ne 3 3 (by decide) hc3; have q4 := sw_ne 4 4 (by decide) hc4; omega) (by decide) ?_
            refine lv_aload_n hx hb dX6_ofThing_82 rfl (lv_at hl 0 rfl) ?_
            refine x_get E hP 0 rfl rfl in6 1 (by decide) q802 rfl rfl dX6_ofThing_83 ?_
            refine lv_iload_n hx hb dX6_ofThing_86 rfl (lv_at hl 1 rfl) ?_
            obtain ⟨z6, h, hf⟩ := bd_s hf
            refine x_ci (x_rS E (As := [.ref a1, .int p0]) (rest := []) (mt_X6_standing l D I J O a1 p0 x.2.1 z6 h) blR (x_pcR E (x_pick0 hP [1] rfl)) ok_X6_standing q898 rfl hl.1 rfl (Nat.le_of_ble_eq_true rfl) ⟨Nat.le_of_ble_eq_true rfl, Nat.le_of_ble_eq_true rfl⟩ ⟨Nat.le_of_ble_eq_true rfl, Nat.le_of_ble_eq_true rfl⟩ dX6_ofThing_87) ?_
            exact x_iR E (Option.some.inj hf) dX6_ofThing_90
theorem ok_X6_thing : yV yX6_thing cX6_thing 3 (some .int) 2 := ⟨q1006, q7, q1004, q1005, by decide +kernel, by decide +kernel, by decide +kernel⟩
set_option maxRecDepth 100000 in
set_option maxHeartbeats 4000000 in
theorem k_X6_thing_30 {p : Program} {l : Launch} {e : Env} {s : State} {m : MethodId} {args : Array Value} {below : List Frame} {meth : Method} {c : Code} {D : va_G} {I J O : ClassId} (E : fx p s m args meth c cX6_thing RX6 3 (some .int) D I J O) (a0 a1 a2 a3 a4 a5 : Nat)  {ws0 : va_W} {sz : Nat} (r : Int32) (y0 : MdC) : ∀ (v1 : Int32) (v2 : Int32) (t1 : Int32) (x : MdC), f_X6_thing_30 v1 v2 t1 x = some (r, y0) → ∀ (H : Heap) (locs : List Loc), fy D (va_A ws0 sz) s.heap H locs (wMd I a0 a1 a2 a3 a4 a5 x) → ∀ ls : Array Slot, lv_has ls 3 [(0, .ref a0), (1, .int v1), (2, .int v2)] → W p l e (rmB 4 88 0 0) s m args below meth c H locs 0 0 (MQ below (qMi D sz ws0 r (fun _ : Unit => wMd I a0 a1 a2 a3 a4 a5 y0)) args s 0 0 (va_A ws0 sz)) (F0 m 30 ls [.int t1, .ref a0]) := by
  have hx := E.1
  have hb := E.2.1
  intro v1 v2 t1 x hf H locs hw ls hl
  unfold f_X6_thing_30 at hf
  obtain ⟨z3, h, hf⟩ := bd_s hf
  refine x_mi0 hw [0, 1, 2, 3, 4, 5] rfl rfl (x_rV E (As := [.int t1]) (rest := []) (mt_X6_refuses l D I J O a0 a1 a2 a3 a4 a5 H.size t1 x z3.1 z3.2 h) blM (x_recv E hw.1 0 6 rfl rfl rfl) (x_pcMQ0 E hw [0, 1, 2, 3, 4, 5] rfl rfl) ok_X6_refuses q867 rfl hl.1 rfl (Nat.le_of_ble_eq_true rfl) ⟨Nat.le_of_ble_eq_true rfl, Nat.le_of_ble_eq_true rfl⟩ ⟨Nat.le_of_ble_eq_true rfl, Nat.le_of_ble_eq_true rfl⟩ dX6_thing_30) (fun _ => rfl) (fun _ H locs hw => ?_)
  have hw : fy D (va_A ws0 sz) s.heap H locs (wMd I a0 a1 a2 a3 a4 a5 z3.2) := hw
  refine lv_if_eq (tgt := 38) hx hb dX6_thing_33 (by decide) (fun hc => ?_) (fun hc => ?_)
  · rw [if_pos hc] at hf
    refine lv_aload_n hx hb dX6_thing_38 rfl (lv_at hl 0 rfl) ?_
    refine lv_aload_n hx hb dX6_thing_39 rfl (lv_at hl 0 rfl) ?_
    refine x_get E hw.1 0 rfl rfl in6 1 (by decide) q802 rfl rfl dX6_thing_40 ?_
    refine lv_iload_n hx hb dX6_thing_43 rfl (lv_at hl 1 rfl) ?_
    refine lv_sipush (v := 1000) hx hb dX6_thing_44 (by decide) ?_
    refine lv_idiv hx hb dX6_thing_47 (by decide) ?_
    obtain ⟨z4, h, hf⟩ := bd_s hf
    refine x_ci (x_rS E (As := [.ref a1, .int (v1 / 1000)]) (rest := [.ref a0]) (mt_X6_entryOf l D I J O a1 (v1 / 1000) z3.2.2.1 z4 h) blR (x_pcR E (x_pick0 hw.1 [1] rfl)) ok_X6_entryOf q858 rfl hl.1 rfl (Nat.le_of_ble_eq_true rfl) ⟨Nat.le_of_ble_eq_true rfl, Nat.le_of_ble_eq_true rfl⟩ ⟨Nat.le_of_ble_eq_true rfl, Nat.le_of_ble_eq_true rfl⟩ dX6_thing_48) ?_
    refine lv_iload_n hx hb dX6_thing_51 rfl (lv_at hl 2 rfl) ?_
    obtain ⟨z5, h, hf⟩ := bd_s hf
    refine x_ci (x_rV E (As := [.int z4, .int v2]) (rest := []) (mt_X6_ofThing l D I J O a0 a1 a2 a3 a4 a5 z4 v2 z3.2 z5 h) blR (x_recv E hw.1 0 6 rfl rfl rfl) (x_pcR E hw.1) ok_X6_ofThing q1007 rfl hl.1 rfl (Nat.le_of_ble_eq_true rfl) ⟨Nat.le_of_ble_eq_true rfl, Nat.le_of_ble_eq_true rfl⟩ ⟨Nat.le_of_ble_eq_true rfl, Nat.le_of_ble_eq_true rfl⟩ dX6_thing_52) ?_
    obtain ⟨he0, hr⟩ := Prod.mk.inj (Option.some.inj hf)
    have he1 := hr
    subst he1
    exact x_iM E () hw he0 dX6_thing_55
  · rw [if_neg hc] at hf
    refine lv_iconst (v := 0) hx hb dX6_thing_36 (by decide) ?_
    obtain ⟨he0, hr⟩ := Prod.mk.inj (Option.some.inj hf)
    have he1 := hr
    subst he1
    exact x_iM E () hw he0 dX6_thing_37
set_option maxRecDepth 100000 in
set_option maxHeartbeats 4000000 in
theorem mt_X6_thing (l : Launch) (D : va_G) (I J O : ClassId) (a0 a1 a2 a3 a4 a5 : Nat) (sz : Nat) (p0 : Int32) (p1 : Int32) (x : MdC) (r : Int32) (y0 : MdC) (hf : f_X6_thing p0 p1 x = some (r, y0)) : mM l yX6_thing cX6_thing 3 (some .int) 4 88 0 0 D I J O sz [.ref a0, .int p0, .int p1] (wMd I a0 a1 a2 a3 a4 a5 x) (qMi D sz (wMd I a0 a1 a2 a3 a4 a5 x) r (fun _ : Unit => wMd I a0 a1 a2 a3 a4 a5 y0)) := by
  refine mM_open (own := RX6) rfl (by decide +kernel) (Nat.le_of_ble_eq_true rfl) (fun p e s m below meth c ls E hnm hsz hw hl => ?_)
  obtain ⟨ws0, hws⟩ : ∃ ws0 : va_W, ws0 = wMd I a0 a1 a2 a3 a4 a5 x := ⟨_, rfl⟩
  have hw : fy D (va_A ws0 sz) s.heap s.heap [] (wMd I a0 a1 a2 a3 a4 a5 x) := by rw [hws]; exact hw
  rw [← hws]
  have hx := E.1
  have hb := E.2.1
  have hl : lv_has ls 3 [(0, .ref a0), (1, .int p0), (2, .int p1)] := hl
  unfold f_X6_thing at hf
  refine lv_aload_n hx hb dX6_thing_0 rfl (lv_at hl 0 rfl) ?_
  refine lv_aload_n hx hb dX6_thing_1 rfl (lv_at hl 0 rfl) ?_
  refine x_get E hw.1 0 rfl rfl in6 1 (by decide) q802 rfl rfl dX6_thing_2 ?_
  refine lv_iload_n hx hb dX6_thing_5 rfl (lv_at hl 1 rfl) ?_
  obtain ⟨z1, h, hf⟩ := bd_s hf
  refine x_ci (x_rS E (As := [.ref a1, .int p0]) (rest := [.ref a0]) (mt_X6_whyNot l D I J O a1 p0 x.2.1 z1 h) blR (x_pcR E (x_pick0 hw.1 [1] rfl)) ok_X6_whyNot q885 rfl hl.1 rfl (Nat.le_of_ble_eq_true rfl) ⟨Nat.le_of_ble_eq_true rfl, Nat.le_of_ble_eq_true rfl⟩ ⟨Nat.le_of_ble_eq_true rfl, Nat.le_of_ble_eq_true rfl⟩ dX6_thing_6) ?_
  refine lv_if_eq (tgt := 16) hx hb dX6_thing_9 (by decide) (fun hc => ?_) (fun hc => ?_)
  · rw [if_pos hc] at hf
    refine lv_iload_n hx hb dX6_thing_16 rfl (lv_at hl 2 rfl) ?_
    refine lv_iconst (v := 0) hx hb dX6_thing_17 (by decide) ?_
    refine lv_iconst (v := 5) hx hb dX6_thing_18 (by decide) ?_
    obtain ⟨z2, h, hf⟩ := bd_s hf
    refine x_ci (x_rS E (As := [.int p1, .int 0, .int 5]) (rest := [.ref a0]) (mt_X6_in l D I J O p1 0 5 z2 h) blR (x_pcR E x_none) ok_X6_in q846 rfl hl.1 rfl (Nat.le_of_ble_eq_true rfl) ⟨Nat.le_of_ble_eq_true rfl, Nat.le_of_ble_eq_true rfl⟩ ⟨Nat.le_of_ble_eq_true rfl, Nat.le_of_ble_eq_true rfl⟩ dX6_thing_19) ?_
    refine lv_if_ne (tgt := 29) hx hb dX6_thing_22 (by decide) (fun hc => ?_) (fun hc => ?_)
    · rw [if_neg hc] at hf
      refine lv_iconst (v := 0) hx hb dX6_thing_29 (by decide) ?_
      exact k_X6_thing_30 E a0 a1 a2 a3 a4 a5 r y0 p0 p1 0 x hf _ _ hw _ (lv_sub hl [0, 1, 2] rfl)
    · rw [if_pos hc] at hf
      refine lv_iconst (v := 2) hx hb dX6_thing_25 (by decide) ?_
      refine lv_goto (tgt := 30) hx hb dX6_thing_26 (by decide) ?_
      exact k_X6_thing_30 E a0 a1 a2 a3 a4 a5 r y0 p0 p1 2 x hf _ _ hw _ (lv_sub hl [0, 1, 2] rfl)
  · rw [if_neg hc] at hf
    refine lv_iconst (v := 1) hx hb dX6_thing_12 (by decide) ?_
    refine lv_goto (tgt := 30) hx hb dX6_thing_13 (by decide) ?_
    exact k_X6_thing_30 E a0 a1 a2 a3 a4 a5 r y0 p0 p1 1 x hf _ _ hw _ (lv_sub hl [0, 1, 2] rfl)
theorem ok_X6_at : yV yX6_at cX6_at 3 (some .int) 1 := ⟨q1018, q7, q1016, q1017, by decide +kernel, by decide +kernel, by decide +kernel⟩
set_option maxRecDepth 100000 in
set_option maxHeartbeats 4000000 in
theorem k_X6_at_20 {p : Program} {l : Launch} {e : Env} {s : State} {m : MethodId} {args : Array Value} {below : List Frame} {meth : Method} {c : Code} {D : va_G} {I J O : ClassId} (E : fx p s m args meth c cX6_at RX6 3 (some .int) D I J O) (a0 a1 a2 a3 a4 a5 : Nat)  {ws0 : va_W} {sz : Nat} (r : Int32) (y0 : MdC) : ∀ fu : Nat, ∀ (v1 : Int32) (v2 : Int32) (x : MdC), f_X6_at_20 fu v1 v2 x = some (r, y0) → ∀ (H : Heap) (locs : List Loc), fy D (va_A ws0 sz) s.heap H locs (wMd I a0 a1 a2 a3 a4 a5 x) → ∀ ls : Array Slot, lv_has ls 3 [(0, .ref a0), (1, .int v1), (2, .int v2)] → W p l e (rmB 3 66 0 0) s m args below meth c H locs 0 0 (MQ below (qMi D sz ws0 r (fun _ : Unit => wMd I a0 a1 a2 a3 a4 a5 y0)) args s 0 0 (va_A ws0 sz)) (F0 m 20 ls []) := by
  have hx := E.1
  have hb := E.2.1
  intro fu
  induction fu with
  | zero =>
    intro v1 v2 x hf H locs hw ls hl
    rw [f_X6_at_20.eq_1] at hf
    cases hf
  | succ fu ih =>
    intro v1 v2 x hf H locs hw ls hl
    rw [f_X6_at_20.eq_2] at hf
    refine lv_iload_n hx hb dX6_at_20 rfl (lv_at hl 2 rfl) ?_
    refine lv_aload_n hx hb dX6_at_21 rfl (lv_at hl 0 rfl) ?_
    refine x_get E hw.1 0 rfl rfl in6 1 (by decide) q802 rfl rfl dX6_at_22 ?_
    refine lv_iconst (v := 1) hx hb dX6_at_25 (by decide) ?_
    obtain ⟨g, hf⟩ := gi_s hf
    refine x_ald E hw.1 1 rfl g dX6_at_26 ?_
    refine lv_icmp_ge (tgt := 65) hx hb dX6_at_27 (by decide) (fun hc => ?_) (fun hc => ?_)
    · rw [if_pos hc] at hf
      refine lv_iconst (v := (-1)) hx hb dX6_at_65 (by decide) ?_
      obtain ⟨he0, hr⟩ := Prod.mk.inj (Option.some.inj hf)
      have he1 := hr
      subst he1
      exact x_iM E () hw he0 dX6_at_66
    · rw [if_neg hc] at hf
      refine lv_aload_n hx hb dX6_at_30 rfl (lv_at hl 0 rfl) ?_
      refine x_get E hw.1 0 rfl rfl in6 1 (by decide) q802 rfl rfl dX6_at_31 ?_
      refine lv_iload_n hx hb dX6_at_34 rfl (lv_at hl 2 rfl) ?_
      obtain ⟨z2, h, hf⟩ := bd_s hf
      refine x_ci (x_rS E (As := [.ref a1, .int v2]) (rest := []) (mt_X6_isThing l D I J O a1 v2 x.2.1 z2 h) blR (x_pcR E (x_pick0 hw.1 [1] rfl)) ok_X6_isThing q861 rfl hl.1 rfl (Nat.le_of_ble_eq_true rfl) ⟨Nat.le_of_ble_eq_true rfl, Nat.le_of_ble_eq_true rfl⟩ ⟨Nat.le_of_ble_eq_true rfl, Nat.le_of_ble_eq_true rfl⟩ dX6_at_35) ?_
      refine lv_if_eq (tgt := 59) hx hb dX6_at_38 (by decide) (fun hc => ?_) (fun hc => ?_)
      · rw [if_pos hc] at hf
        refine lv_iinc (v := v2 + 1) (lv' := [(2, .int (v2 + 1)), (0, .ref a0), (1, .int v1)]) hx hb dX6_at_59 hl (k := 2) rfl rfl (by decide) rfl (fun ls hl => ?_)
        refine lv_goto (tgt := 20) hx hb dX6_at_62 (by decide) ?_
        exact ih v1 (v2 + 1) x hf _ _ hw _ (lv_sub hl [1, 2, 0] rfl)
      · rw [if_neg hc] at hf
        refine lv_aload_n hx hb dX6_at_41 rfl (lv_at hl 0 rfl) ?_
        refine lv_iload_n hx hb dX6_at_42 rfl (lv_at hl 2 rfl) ?_
        obtain ⟨z3, h, hf⟩ := bd_s hf
        refine x_ci (x_rV E (As := [.int v2]) (rest := []) (mt_X6_placeOf l D I J O a0 a1 a2 a3 a4 a5 v2 x z3 h) blR (x_recv E hw.1 0 6 rfl rfl rfl) (x_pcR E hw.1) ok_X6_placeOf q1011 rfl hl.1 rfl (Nat.le_of_ble_eq_true rfl) ⟨Nat.le_of_ble_eq_true rfl, Nat.le_of_ble_eq_true rfl⟩ ⟨Nat.le_of_ble_eq_true rfl, Nat.le_of_ble_eq_true rfl⟩ dX6_at_43) ?_
        refine lv_iload_n hx hb dX6_at_46 rfl (lv_at hl 1 rfl) ?_
        refine lv_icmp_ne (tgt := 59) hx hb dX6_at_47 (by decide) (fun hc => ?_) (fun hc => ?_)
        · rw [if_neg hc] at hf
          refine lv_iinc (v := v2 + 1) (lv' := [(2, .int (v2 + 1)), (0, .ref a0), (1, .int v1)]) hx hb dX6_at_59 hl (k := 2) rfl rfl (by decide) rfl (fun ls hl => ?_)
          refine lv_goto (tgt := 20) hx hb dX6_at_62 (by decide) ?_
          exact ih v1 (v2 + 1) x hf _ _ hw _ (lv_sub hl [1, 2, 0] rfl)
        · rw [if_pos hc] at hf
          refine lv_aload_n hx hb dX6_at_50 rfl (lv_at hl 0 rfl) ?_
          refine x_get E hw.1 0 rfl rfl in6 1 (by decide) q802 rfl rfl dX6_at_51 ?_
          refine lv_iload_n hx hb dX6_at_54 rfl (lv_at hl 2 rfl) ?_
          obtain ⟨z4, h, hf⟩ := bd_s hf
          refine x_ci (x_rS E (As := [.ref a1, .int v2]) (rest := []) (mt_X6_handleOf l D I J O a1 v2 x.2.1 z4 h) blR (x_pcR E (x_pick0 hw.1 [1] rfl)) ok_X6_handleOf q932 rfl hl.1 rfl (Nat.le_of_ble_eq_true rfl) ⟨Nat.le_of_ble_eq_true rfl, Nat.le_of_ble_eq_true rfl⟩ ⟨Nat.le_of_ble_eq_true rfl, Nat.le_of_ble_eq_true rfl⟩ dX6_at_55) ?_
          obtain ⟨he0, hr⟩ := Prod.mk.inj (Option.some.inj hf)
          have he1 := hr
          subst he1
          exact x_iM E () hw he0 dX6_at_58
set_option maxRecDepth 100000 in
set_option maxHeartbeats 4000000 in
theorem k_X6_at_10 {p : Program} {l : Launch} {e : Env} {s : State} {m : MethodId} {args : Array Value} {below : List Frame} {meth : Method} {c : Code} {D : va_G} {I J O : ClassId} (E : fx p s m args meth c cX6_at RX6 3 (some .int) D I J O) (a0 a1 a2 a3 a4 a5 : Nat)  {ws0 : va_W} {sz : Nat} (r : Int32) (y0 : MdC) : ∀ (v1 : Int32) (t1 : Int32) (x : MdC), f_X6_at_10 v1 t1 x = some (r, y0) → ∀ (H : Heap) (locs : List Loc), fy D (va_A ws0 sz) s.heap H locs (wMd I a0 a1 a2 a3 a4 a5 x) → ∀ ls : Array Slot, lv_has ls 3 [(0, .ref a0), (1, .int v1)] → W p l e (rmB 3 66 0 0) s m args below meth c H locs 0 0 (MQ below (qMi D sz ws0 r (fun _ : Unit => wMd I a0 a1 a2 a3 a4 a5 y0)) args s 0 0 (va_A ws0 sz)) (F0 m 10 ls [.int t1, .ref a0]) := by
  have hx := E.1
  have hb := E.2.1
  intro v1 t1 x hf H locs hw ls hl
  unfold f_X6_at_10 at hf
  obtain ⟨z1, h, hf⟩ := bd_s hf
  refine x_mi0 hw [0, 1, 2, 3, 4, 5] rfl rfl (x_rV E (As := [.int t1]) (rest := []) (mt_X6_refuses l D I J O a0 a1 a2 a3 a4 a5 H.size t1 x z1.1 z1.2 h) blM (x_recv E hw.1 0 6 rfl rfl rfl) (x_pcMQ0 E hw [0, 1, 2, 3, 4, 5] rfl rfl) ok_X6_refuses q867 rfl hl.1 rfl (Nat.le_of_ble_eq_true rfl) ⟨Nat.le_of_ble_eq_true rfl, Nat.le_of_ble_eq_true rfl⟩ ⟨Nat.le_of_ble_eq_true rfl, Nat.le_of_ble_eq_true rfl⟩ dX6_at_10) (fun _ => rfl) (fun _ H locs hw => ?_)
  have hw : fy D (va_A ws0 sz) s.heap H locs (wMd I a0 a1 a2 a3 a4 a5 z1.2) := hw
  refine lv_if_eq (tgt := 18) hx hb dX6_at_13 (by decide) (fun hc => ?_) (fun hc => ?_)
  · rw [if_pos hc] at hf
    refine lv_iconst (v := 0) hx hb dX6_at_18 (by decide) ?_
    refine lv_istore_n (lv' := [(2, .int 0), (0, .ref a0), (1, .int v1)]) hx hb dX6_at_19 rfl hl (by decide) rfl (fun ls hl => ?_)
    exact k_X6_at_20 E a0 a1 a2 a3 a4 a5 r y0 FU v1 0 z1.2 hf _ _ hw _ (lv_sub hl [1, 2, 0] rfl)
  · rw [if_neg hc] at hf
    refine lv_iconst (v := 0) hx hb dX6_at_16 (by decide) ?_
    obtain ⟨he0, hr⟩ := Prod.mk.inj (Option.some.inj hf)
    have he1 := hr
    subst he1
    exact x_iM E () hw he0 dX6_at_17
set_option maxRecDepth 100000 in
set_option maxHeartbeats 4000000 in
theorem mt_X6_at (l : Launch) (D : va_G) (I J O : ClassId) (a0 a1 a2 a3 a4 a5 : Nat) (sz : Nat) (p0 : Int32) (x : MdC) (r : Int32) (y0 : MdC) (hf : f_X6_at p0 x = some (r, y0)) : mM l yX6_at cX6_at 3 (some .int) 3 66 0 0 D I J O sz [.ref a0, .int p0] (wMd I a0 a1 a2 a3 a4 a5 x) (qMi D sz (wMd I a0 a1 a2 a3 a4 a5 x) r (fun _ : Unit => wMd I a0 a1 a2 a3 a4 a5 y0)) := by
  refine mM_open (own := RX6) rfl (by decide +kernel) (Nat.le_of_ble_eq_true rfl) (fun p e s m below meth c ls E hnm hsz hw hl => ?_)
  obtain ⟨ws0, hws⟩ : ∃ ws0 : va_W, ws0 = wMd I a0 a1 a2 a3 a4 a5 x := ⟨_, rfl⟩
  have hw : fy D (va_A ws0 sz) s.heap s.heap [] (wMd I a0 a1 a2 a3 a4 a5 x) := by rw [hws]; exact hw
  rw [← hws]
  have hx := E.1
  have hb := E.2.1
  have hl : lv_has ls 3 [(0, .ref a0), (1, .int p0)] := hl
  unfold f_X6_at at hf
  refine lv_aload_n hx hb dX6_at_0 rfl (lv_at hl 0 rfl) ?_
  refine lv_iload_n hx hb dX6_at_1 rfl (lv_at hl 1 rfl) ?_
  refine lv_if_ge (tgt := 9) hx hb dX6_at_2 (by decide) (fun hc => ?_) (fun hc => ?_)
  · rw [if_pos hc] at hf
    refine lv_iconst (v := 0) hx hb dX6_at_9 (by decide) ?_
    exact k_X6_at_10 E a0 a1 a2 a3 a4 a5 r y0 p0 0 x hf _ _ hw _ (lv_sub hl [0, 1] rfl)
  · rw [if_neg hc] at hf
    refine lv_iconst (v := 1) hx hb dX6_at_5 (by decide) ?_
    refine lv_goto (tgt := 10) hx hb dX6_at_6 (by decide) ?_
    exact k_X6_at_10 E a0 a1 a2 a3 a4 a5 r y0 p0 1 x hf _ _ hw _ (lv_sub hl [0, 1] rfl)
theorem ok_X6_ofCell : yV yX6_ofCell cX6_ofCell 3 (some .int) 1 := ⟨q1026, q7, q1025, qs28, by decide +kernel, by decide +kernel, by decide +kernel⟩
set_option maxRecDepth 100000 in
set_option maxHeartbeats 4000000 in
theorem mt_X6_ofCell (l : Launch) (D : va_G) (I J O : ClassId) (a0 a1 a2 a3 a4 a5 : Nat) (p0 : Int32) (x : MdC) (r : Int32) (hf : f_X6_ofCell p0 x = some r) : mR l yX6_ofCell cX6_ofCell 3 (some .int) 3 65 D I J O [.ref a0, .int p0] (wMd I a0 a1 a2 a3 a4 a5 x) (qRi r) := by
  refine mR_open (own := RX6) rfl (by decide +kernel) (Nat.le_of_ble_eq_true rfl) (fun p e s m below meth c ls E hP hl => ?_)
  have hx := E.1
  have hb := E.2.1
  have hl : lv_has ls 3 [(0, .ref a0), (1, .int p0)] := hl
  unfold f_X6_ofCell at hf
  refine lv_aload_n hx hb dX6_ofCell_0 rfl (lv_at hl 0 rfl) ?_
  refine x_get E hP 0 rfl rfl in6 1 (by decide) q802 rfl rfl dX6_ofCell_1 ?_
  refine lv_iload_n hx hb dX6_ofCell_4 rfl (lv_at hl 1 rfl) ?_
  obtain ⟨z1, h, hf⟩ := bd_s hf
  refine x_ci (x_rS E (As := [.ref a1, .int p0]) (rest := []) (mt_X6_entryOf l D I J O a1 p0 x.2.1 z1 h) blR (x_pcR E (x_pick0 hP [1] rfl)) ok_X6_entryOf q858 rfl hl.1 rfl (Nat.le_of_ble_eq_true rfl) ⟨Nat.le_of_ble_eq_true rfl, Nat.le_of_ble_eq_true rfl⟩ ⟨Nat.le_of_ble_eq_true rfl, Nat.le_of_ble_eq_true rfl⟩ dX6_ofCell_5) ?_
  refine lv_istore_n (lv' := [(2, .int z1), (0, .ref a0), (1, .int p0)]) hx hb dX6_ofCell_8 rfl hl (by decide) rfl (fun ls hl => ?_)
  refine lv_iload_n hx hb dX6_ofCell_9 rfl (lv_at hl 0 rfl) ?_
  refine lv_iconst (v := (-1)) hx hb dX6_ofCell_10 (by decide) ?_
  refine lv_icmp_ne (tgt := 18) hx hb dX6_ofCell_11 (by decide) (fun hc => ?_) (fun hc => ?_)
  · rw [if_neg hc] at hf
    refine lv_aload_n hx hb dX6_ofCell_18 rfl (lv_at hl 1 rfl) ?_
    refine x_get E hP 0 rfl rfl in6 1 (by decide) q802 rfl rfl dX6_ofCell_19 ?_
    refine lv_iload_n hx hb dX6_ofCell_22 rfl (lv_at hl 0 rfl) ?_
    obtain ⟨z2, h, hf⟩ := bd_s hf
    refine x_ci (x_rS E (As := [.ref a1, .int z1]) (rest := []) (mt_X6_handleOf l D I J O a1 z1 x.2.1 z2 h) blR (x_pcR E (x_pick0 hP [1] rfl)) ok_X6_handleOf q932 rfl hl.1 rfl (Nat.le_of_ble_eq_true rfl) ⟨Nat.le_of_ble_eq_true rfl, Nat.le_of_ble_eq_true rfl⟩ ⟨Nat.le_of_ble_eq_true rfl, Nat.le_of_ble_eq_true rfl⟩ dX6_ofCell_23) ?_
    exact x_iR E (Option.some.inj hf) dX6_ofCell_26
  · rw [if_pos hc] at hf
    refine lv_iconst (v := (-1)) hx hb dX6_ofCell_14 (by decide) ?_
    refine lv_goto (tgt := 26) hx hb dX6_ofCell_15 (by decide) ?_
    exact x_iR E (Option.some.inj hf) dX6_ofCell_26
theorem ok_X6_cell : yV yX6_cell cX6_cell 3 (some .int) 2 := ⟨q1022, q7, q1020, q1021, by decide +kernel, by decide +kernel, by decide +kernel⟩
set_option maxRecDepth 100000 in
set_option maxHeartbeats 4000000 in
theorem k_X6_cell_35 {p : Program} {l : Launch} {e : Env} {s : State} {m : MethodId} {args : Array Value} {below : List Frame} {meth : Method} {c : Code} {D : va_G} {I J O : ClassId} (E : fx p s m args meth c cX6_cell RX6 3 (some .int) D I J O) (a0 a1 a2 a3 a4 a5 : Nat)  {ws0 : va_W} {sz : Nat} (r : Int32) (y0 : MdC) : ∀ (v1 : Int32) (v2 : Int32) (t1 : Int32) (x : MdC), f_X6_cell_35 v1 v2 t1 x = some (r, y0) → ∀ (H : Heap) (locs : List Loc), fy D (va_A ws0 sz) s.heap H locs (wMd I a0 a1 a2 a3 a4 a5 x) → ∀ ls : Array Slot, lv_has ls 3 [(0, .ref a0), (1, .int v1), (2, .int v2)] → W p l e (rmB 4 87 0 0) s m args below meth c H locs 0 0 (MQ below (qMi D sz ws0 r (fun _ : Unit => wMd I a0 a1 a2 a3 a4 a5 y0)) args s 0 0 (va_A ws0 sz)) (F0 m 35 ls [.int t1, .ref a0]) := by
  have hx := E.1
  have hb := E.2.1
  intro v1 v2 t1 x hf H locs hw ls hl
  unfold f_X6_cell_35 at hf
  obtain ⟨z3, h, hf⟩ := bd_s hf
  refine x_mi0 hw [0, 1, 2, 3, 4, 5] rfl rfl (x_rV E (As := [.int t1]) (rest := []) (mt_X6_refuses l D I J O a0 a1 a2 a3 a4 a5 H.size t1 x z3.1 z3.2 h) blM (x_recv E hw.1 0 6 rfl rfl rfl) (x_pcMQ0 E hw [0, 1, 2, 3, 4, 5] rfl rfl) ok_X6_refuses q867 rfl hl.1 rfl (Nat.le_of_ble_eq_true rfl) ⟨Nat.le_of_ble_eq_true rfl, Nat.le_of_ble_eq_true rfl⟩ ⟨Nat.le_of_ble_eq_true rfl, Nat.le_of_ble_eq_true rfl⟩ dX6_cell_35) (fun _ => rfl) (fun _ H locs hw => ?_)
  have hw : fy D (va_A ws0 sz) s.heap H locs (wMd I a0 a1 a2 a3 a4 a5 z3.2) := hw
  refine lv_if_eq (tgt := 43) hx hb dX6_cell_38 (by decide) (fun hc => ?_) (fun hc => ?_)
  · rw [if_pos hc] at hf
    refine lv_iload_n hx hb dX6_cell_43 rfl (lv_at hl 2 rfl) ?_
    refine lv_if_ne (tgt := 59) hx hb dX6_cell_44 (by decide) (fun hc => ?_) (fun hc => ?_)
    · rw [if_neg hc] at hf
      refine lv_aload_n hx hb dX6_cell_59 rfl (lv_at hl 0 rfl) ?_
      refine lv_iload_n hx hb dX6_cell_60 rfl (lv_at hl 1 rfl) ?_
      obtain ⟨z4, h, hf⟩ := bd_s hf
      refine x_ci (x_rV E (As := [.int v1]) (rest := []) (mt_X6_ofCell l D I J O a0 a1 a2 a3 a4 a5 v1 z3.2 z4 h) blR (x_recv E hw.1 0 6 rfl rfl rfl) (x_pcR E hw.1) ok_X6_ofCell q1023 rfl hl.1 rfl (Nat.le_of_ble_eq_true rfl) ⟨Nat.le_of_ble_eq_true rfl, Nat.le_of_ble_eq_true rfl⟩ ⟨Nat.le_of_ble_eq_true rfl, Nat.le_of_ble_eq_true rfl⟩ dX6_cell_61) ?_
      obtain ⟨he0, hr⟩ := Prod.mk.inj (Option.some.inj hf)
      have he1 := hr
      subst he1
      exact x_iM E () hw he0 dX6_cell_64
    · rw [if_pos hc] at hf
      refine lv_aload_n hx hb dX6_cell_47 rfl (lv_at hl 0 rfl) ?_
      refine x_get E hw.1 0 rfl rfl in6 1 (by decide) q802 rfl rfl dX6_cell_48 ?_
      refine lv_bipush (v := 6) hx hb dX6_cell_51 (by decide) ?_
      refine lv_iload_n hx hb dX6_cell_53 rfl (lv_at hl 1 rfl) ?_
      refine lv_iadd hx hb dX6_cell_54 ?_
      obtain ⟨g, hf⟩ := gi_s hf
      refine x_ald E hw.1 1 rfl g dX6_cell_55 ?_
      refine lv_goto (tgt := 64) hx hb dX6_cell_56 (by decide) ?_
      obtain ⟨he0, hr⟩ := Prod.mk.inj (Option.some.inj hf)
      have he1 := hr
      subst he1
      exact x_iM E () hw he0 dX6_cell_64
  · rw [if_neg hc] at hf
    refine lv_iconst (v := 0) hx hb dX6_cell_41 (by decide) ?_
    obtain ⟨he0, hr⟩ := Prod.mk.inj (Option.some.inj hf)
    have he1 := hr
    subst he1
    exact x_iM E () hw he0 dX6_cell_42
set_option maxRecDepth 100000 in
set_option maxHeartbeats 4000000 in
theorem mt_X6_cell (l : Launch) (D : va_G) (I J O : ClassId) (a0 a1 a2 a3 a4 a5 : Nat) (sz : Nat) (p0 : Int32) (p1 : Int32) (x : MdC) (r : Int32) (y0 : MdC) (hf : f_X6_cell p0 p1 x = some (r, y0)) : mM l yX6_cell cX6_cell 3 (some .int) 4 87 0 0 D I J O sz [.ref a0, .int p0, .int p1] (wMd I a0 a1 a2 a3 a4 a5 x) (qMi D sz (wMd I a0 a1 a2 a3 a4 a5 x) r (fun _ : Unit => wMd I a0 a1 a2 a3 a4 a5 y0)) := by
  refine mM_open (own := RX6) rfl (by decide +kernel) (Nat.le_of_ble_eq_true rfl) (fun p e s m below meth c ls E hnm hsz hw hl => ?_)
  obtain ⟨ws0, hws⟩ : ∃ ws0 : va_W, ws0 = wMd I a0 a1 a2 a3 a4 a5 x := ⟨_, rfl⟩
  have hw : fy D (va_A ws0 sz) s.heap s.heap [] (wMd I a0 a1 a2 a3 a4 a5 x) := by rw [hws]; exact hw
  rw [← hws]
  have hx := E.1
  have hb := E.2.1
  have hl : lv_has ls 3 [(0, .ref a0), (1, .int p0), (2, .int p1)] := hl
  unfold f_X6_cell at hf
  refine lv_aload_n hx hb dX6_cell_0 rfl (lv_at hl 0 rfl) ?_
  refine lv_iload_n hx hb dX6_cell_1 rfl (lv_at hl 1 rfl) ?_
  refine lv_iconst (v := 0) hx hb dX6_cell_2 (by decide) ?_
  refine lv_aload_n hx hb dX6_cell_3 rfl (lv_at hl 0 rfl) ?_
  refine x_get E hw.1 0 rfl rfl in6 1 (by decide) q802 rfl rfl dX6_cell_4 ?_
  refine lv_iconst (v := 0) hx hb dX6_cell_7 (by decide) ?_
  obtain ⟨g, hf⟩ := gi_s hf
  refine x_ald E hw.1 1 rfl g dX6_cell_8 ?_
  refine lv_iconst (v := 1) hx hb dX6_cell_9 (by decide) ?_
  refine lv_isub hx hb dX6_cell_10 ?_
  obtain ⟨z1, h, hf⟩ := bd_s hf
  refine x_ci (x_rS E (As := [.int p0, .int 0, .int ((x.2.1 (0 : Int32).toNatClampNeg) - 1)]) (rest := [.ref a0]) (mt_X6_in l D I J O p0 0 ((x.2.1 (0 : Int32).toNatClampNeg) - 1) z1 h) blR (x_pcR E x_none) ok_X6_in q846 rfl hl.1 rfl (Nat.le_of_ble_eq_true rfl) ⟨Nat.le_of_ble_eq_true rfl, Nat.le_of_ble_eq_true rfl⟩ ⟨Nat.le_of_ble_eq_true rfl, Nat.le_of_ble_eq_true rfl⟩ dX6_cell_11) ?_
  refine lv_if_ne (tgt := 21) hx hb dX6_cell_14 (by decide) (fun hc => ?_) (fun hc => ?_)
  · rw [if_neg hc] at hf
    refine lv_iload_n hx hb dX6_cell_21 rfl (lv_at hl 2 rfl) ?_
    refine lv_iconst (v := 0) hx hb dX6_cell_22 (by decide) ?_
    refine lv_iconst (v := 1) hx hb dX6_cell_23 (by decide) ?_
    obtain ⟨z2, h, hf⟩ := bd_s hf
    refine x_ci (x_rS E (As := [.int p1, .int 0, .int 1]) (rest := [.ref a0]) (mt_X6_in l D I J O p1 0 1 z2 h) blR (x_pcR E x_none) ok_X6_in q846 rfl hl.1 rfl (Nat.le_of_ble_eq_true rfl) ⟨Nat.le_of_ble_eq_true rfl, Nat.le_of_ble_eq_true rfl⟩ ⟨Nat.le_of_ble_eq_true rfl, Nat.le_of_ble_eq_true rfl⟩ dX6_cell_24) ?_
    refine lv_if_ne (tgt := 34) hx hb dX6_cell_27 (by decide) (fun hc => ?_) (fun hc => ?_)
    · rw [if_neg hc] at hf
      refine lv_iconst (v := 0) hx hb dX6_cell_34 (by decide) ?_
      exact k_X6_cell_35 E a0 a1 a2 a3 a4 a5 r y0 p0 p1 0 x hf _ _ hw _ (lv_sub hl [0, 1, 2] rfl)
    · rw [if_pos hc] at hf
      refine lv_iconst (v := 2) hx hb dX6_cell_30 (by decide) ?_
      refine lv_goto (tgt := 35) hx hb dX6_cell_31 (by decide) ?_
      exact k_X6_cell_35 E a0 a1 a2 a3 a4 a5 r y0 p0 p1 2 x hf _ _ hw _ (lv_sub hl [0, 1, 2] rfl)
  · rw [if_pos hc] at hf
    refine lv_iconst (v := 1) hx hb dX6_cell_17 (by decide) ?_
    refine lv_goto (tgt := 35) hx hb dX6_cell_18 (by decide) ?_
    exact k_X6_cell_35 E a0 a1 a2 a3 a4 a5 r y0 p0 p1 1 x hf _ _ hw _ (lv_sub hl [0, 1, 2] rfl)
theorem ok_X6_behind : yV yX6_behind cX6_behind 3 (some .int) 1 := ⟨q1038, q7, q1037, qs30, by decide +kernel, by decide +kernel, by decide +kernel⟩
set_option maxRecDepth 100000 in
set_option maxHeartbeats 4000000 in
theorem k_X6_behind_40 {p : Program} {l : Launch} {e : Env} {s : State} {m : MethodId} {args : Array Value} {below : List Frame} {meth : Method} {c : Code} {D : va_G} {I J O : ClassId} (E : fx p s m args meth c cX6_behind RX6 3 (some .int) D I J O) (a0 a1 a2 a3 a4 a5 : Nat)  (r : Int32) : ∀ (t0 : Int32) (t2 : Int32) (x : MdC), f_X6_behind_40 t0 t2 x = some r → va_P D vwCl (wMd I a0 a1 a2 a3 a4 a5 x) s.heap → ∀ ls : Array Slot, lv_has ls 3 [] → W p l e (rmB 3 66 0 0) s m args below meth c s.heap [] 0 0 (MQ below (qRi r) args s 0 0 (fun _ => False)) (F0 m 40 ls [.int t2, .ref a0, .int t0]) := by
  have hx := E.1
  have hb := E.2.1
  intro t0 t2 x hf hP ls hl
  unfold f_X6_behind_40 at hf
  obtain ⟨z2, h, hf⟩ := bd_s hf
  refine x_ci (x_rV E (As := [.int t2]) (rest := [.int t0]) (mt_X6_placeOf l D I J O a0 a1 a2 a3 a4 a5 t2 x z2 h) blR (x_recv E hP 0 6 rfl rfl rfl) (x_pcR E hP) ok_X6_placeOf q1011 rfl hl.1 rfl (Nat.le_of_ble_eq_true rfl) ⟨Nat.le_of_ble_eq_true rfl, Nat.le_of_ble_eq_true rfl⟩ ⟨Nat.le_of_ble_eq_true rfl, Nat.le_of_ble_eq_true rfl⟩ dX6_behind_40) ?_
  refine lv_isub hx hb dX6_behind_43 ?_
  exact x_iR E (Option.some.inj hf) dX6_behind_44
set_option maxRecDepth 100000 in
set_option maxHeartbeats 4000000 in
theorem mt_X6_behind (l : Launch) (D : va_G) (I J O : ClassId) (a0 a1 a2 a3 a4 a5 : Nat) (p0 : Int32) (x : MdC) (r : Int32) (hf : f_X6_behind p0 x = some r) : mR l yX6_behind cX6_behind 3 (some .int) 3 66 D I J O [.ref a0, .int p0] (wMd I a0 a1 a2 a3 a4 a5 x) (qRi r) := by
  refine mR_open (own := RX6) rfl (by decide +kernel) (Nat.le_of_ble_eq_true rfl) (fun p e s m below meth c ls E hP hl => ?_)
  have hx := E.1
  have hb := E.2.1
  have hl : lv_has ls 3 [(0, .ref a0), (1, .int p0)] := hl
  unfold f_X6_behind at hf
  refine lv_aload_n hx hb dX6_behind_0 rfl (lv_at hl 0 rfl) ?_
  refine x_get E hP 0 rfl rfl in6 1 (by decide) q802 rfl rfl dX6_behind_1 ?_
  refine lv_sipush (v := 410) hx hb dX6_behind_4 (by decide) ?_
  refine lv_iload_n hx hb dX6_behind_7 rfl (lv_at hl 1 rfl) ?_
  refine lv_iadd hx hb dX6_behind_8 ?_
  obtain ⟨g, hf⟩ := gi_s hf
  refine x_ald E hP 1 rfl g dX6_behind_9 ?_
  refine lv_istore_n (lv' := [(2, .int (x.2.1 (410 + p0).toNatClampNeg)), (0, .ref a0), (1, .int p0)]) hx hb dX6_behind_10 rfl hl (by decide) rfl (fun ls hl => ?_)
  refine lv_iload_n hx hb dX6_behind_11 rfl (lv_at hl 0 rfl) ?_
  refine lv_bipush (v := 99) hx hb dX6_behind_12 (by decide) ?_
  refine lv_icmp_ne (tgt := 21) hx hb dX6_behind_14 (by decide) (fun hc => ?_) (fun hc => ?_)
  · rw [if_neg hc] at hf
    refine lv_aload_n hx hb dX6_behind_21 rfl (lv_at hl 1 rfl) ?_
    refine x_get E hP 0 rfl rfl in6 1 (by decide) q802 rfl rfl dX6_behind_22 ?_
    obtain ⟨z1, h, hf⟩ := bd_s hf
    refine x_ci (x_rS E (As := [.ref a1]) (rest := []) (mt_X6_things l D I J O a1 x.2.1 z1 h) blR (x_pcR E (x_pick0 hP [1] rfl)) ok_X6_things q946 rfl hl.1 rfl (Nat.le_of_ble_eq_true rfl) ⟨Nat.le_of_ble_eq_true rfl, Nat.le_of_ble_eq_true rfl⟩ ⟨Nat.le_of_ble_eq_true rfl, Nat.le_of_ble_eq_true rfl⟩ dX6_behind_25) ?_
    refine lv_aload_n hx hb dX6_behind_28 rfl (lv_at hl 1 rfl) ?_
    refine lv_iload_n hx hb dX6_behind_29 rfl (lv_at hl 0 rfl) ?_
    refine lv_if_ge (tgt := 37) hx hb dX6_behind_30 (by decide) (fun hc => ?_) (fun hc => ?_)
    · rw [if_pos hc] at hf
      refine lv_iload_n hx hb dX6_behind_37 rfl (lv_at hl 0 rfl) ?_
      refine lv_iconst (v := 1) hx hb dX6_behind_38 (by decide) ?_
      refine lv_iadd hx hb dX6_behind_39 ?_
      exact k_X6_behind_40 E a0 a1 a2 a3 a4 a5 r z1 ((x.2.1 (410 + p0).toNatClampNeg) + 1) x hf hP _ (lv_sub hl [] rfl)
    · rw [if_neg hc] at hf
      refine lv_iconst (v := 0) hx hb dX6_behind_33 (by decide) ?_
      refine lv_goto (tgt := 40) hx hb dX6_behind_34 (by decide) ?_
      exact k_X6_behind_40 E a0 a1 a2 a3 a4 a5 r z1 0 x hf hP _ (lv_sub hl [] rfl)
  · rw [if_pos hc] at hf
    refine lv_iconst (v := 0) hx hb dX6_behind_17 (by decide) ?_
    refine lv_goto (tgt := 44) hx hb dX6_behind_18 (by decide) ?_
    exact x_iR E (Option.some.inj hf) dX6_behind_44
theorem ok_X6_ofWalker : yV yX6_ofWalker cX6_ofWalker 3 (some .int) 2 := ⟨q1034, q7, q1033, qs29, by decide +kernel, by decide +kernel, by decide +kernel⟩
set_option maxRecDepth 100000 in
set_option maxHeartbeats 4000000 in
theorem mt_X6_ofWalker (l : Launch) (D : va_G) (I J O : ClassId) (a0 a1 a2 a3 a4 a5 : Nat) (p0 : Int32) (p1 : Int32) (x : MdC) (r : Int32) (hf : f_X6_ofWalker p0 p1 x = some r) : mR l yX6_ofWalker cX6_ofWalker 3 (some .int) 4 88 D I J O [.ref a0, .int p0, .int p1] (wMd I a0 a1 a2 a3 a4 a5 x) (qRi r) := by
  refine mR_open (own := RX6) rfl (by decide +kernel) (Nat.le_of_ble_eq_true rfl) (fun p e s m below meth c ls E hP hl => ?_)
  have hx := E.1
  have hb := E.2.1
  have hl : lv_has ls 3 [(0, .ref a0), (1, .int p0), (2, .int p1)] := hl
  unfold f_X6_ofWalker at hf
  refine lv_iload_n hx hb dX6_ofWalker_0 rfl (lv_at hl 2 rfl) ?_
  refine lv_if_ne (tgt := 15) hx hb dX6_ofWalker_1 (by decide) (fun hc => ?_) (fun hc => ?_)
  · rw [if_neg hc] at hf
    refine lv_iload_n hx hb dX6_ofWalker_15 rfl (lv_at hl 2 rfl) ?_
    refine lv_iconst (v := 1) hx hb dX6_ofWalker_16 (by decide) ?_
    refine lv_icmp_ne (tgt := 28) hx hb dX6_ofWalker_17 (by decide) (fun hc => ?_) (fun hc => ?_)
    · rw [if_neg hc] at hf
      refine lv_aload_n hx hb dX6_ofWalker_28 rfl (lv_at hl 0 rfl) ?_
      refine lv_iload_n hx hb dX6_ofWalker_29 rfl (lv_at hl 1 rfl) ?_
      obtain ⟨z1, h, hf⟩ := bd_s hf
      refine x_ci (x_rV E (As := [.int p0]) (rest := []) (mt_X6_behind l D I J O a0 a1 a2 a3 a4 a5 p0 x z1 h) blR (x_recv E hP 0 6 rfl rfl rfl) (x_pcR E hP) ok_X6_behind q1035 rfl hl.1 rfl (Nat.le_of_ble_eq_true rfl) ⟨Nat.le_of_ble_eq_true rfl, Nat.le_of_ble_eq_true rfl⟩ ⟨Nat.le_of_ble_eq_true rfl, Nat.le_of_ble_eq_true rfl⟩ dX6_ofWalker_30) ?_
      exact x_iR E (Option.some.inj hf) dX6_ofWalker_33
    · rw [if_pos hc] at hf
      refine lv_aload_n hx hb dX6_ofWalker_20 rfl (lv_at hl 0 rfl) ?_
      refine lv_iload_n hx hb dX6_ofWalker_21 rfl (lv_at hl 1 rfl) ?_
      obtain ⟨z2, h, hf⟩ := bd_s hf
      refine x_ci (x_rV E (As := [.int p0]) (rest := []) (mt_X6_underHandle l D I J O a0 a1 a2 a3 a4 a5 p0 x z2 h) blR (x_recv E hP 0 6 rfl rfl rfl) (x_pcR E hP) ok_X6_underHandle q928 rfl hl.1 rfl (Nat.le_of_ble_eq_true rfl) ⟨Nat.le_of_ble_eq_true rfl, Nat.le_of_ble_eq_true rfl⟩ ⟨Nat.le_of_ble_eq_true rfl, Nat.le_of_ble_eq_true rfl⟩ dX6_ofWalker_22) ?_
      refine lv_goto (tgt := 33) hx hb dX6_ofWalker_25 (by decide) ?_
      exact x_iR E (Option.some.inj hf) dX6_ofWalker_33
  · rw [if_pos hc] at hf
    refine lv_aload_n hx hb dX6_ofWalker_4 rfl (lv_at hl 0 rfl) ?_
    refine x_get E hP 0 rfl rfl in6 1 (by decide) q802 rfl rfl dX6_ofWalker_5 ?_
    refine lv_iload_n hx hb dX6_ofWalker_8 rfl (lv_at hl 1 rfl) ?_
    obtain ⟨z3, h, hf⟩ := bd_s hf
    refine x_ci (x_rS E (As := [.ref a1, .int p0]) (rest := []) (mt_X6_stands l D I J O a1 p0 x.2.1 z3 h) blR (x_pcR E (x_pick0 hP [1] rfl)) ok_X6_stands q915 rfl hl.1 rfl (Nat.le_of_ble_eq_true rfl) ⟨Nat.le_of_ble_eq_true rfl, Nat.le_of_ble_eq_true rfl⟩ ⟨Nat.le_of_ble_eq_true rfl, Nat.le_of_ble_eq_true rfl⟩ dX6_ofWalker_9) ?_
    refine lv_goto (tgt := 33) hx hb dX6_ofWalker_12 (by decide) ?_
    exact x_iR E (Option.some.inj hf) dX6_ofWalker_33
theorem ok_X6_walker : yV yX6_walker cX6_walker 3 (some .int) 2 := ⟨q1030, q7, q1028, q1029, by decide +kernel, by decide +kernel, by decide +kernel⟩
set_option maxRecDepth 100000 in
set_option maxHeartbeats 4000000 in
theorem k_X6_walker_26 {p : Program} {l : Launch} {e : Env} {s : State} {m : MethodId} {args : Array Value} {below : List Frame} {meth : Method} {c : Code} {D : va_G} {I J O : ClassId} (E : fx p s m args meth c cX6_walker RX6 3 (some .int) D I J O) (a0 a1 a2 a3 a4 a5 : Nat)  {ws0 : va_W} {sz : Nat} (r : Int32) (y0 : MdC) : ∀ (v1 : Int32) (v2 : Int32) (t1 : Int32) (x : MdC), f_X6_walker_26 v1 v2 t1 x = some (r, y0) → ∀ (H : Heap) (locs : List Loc), fy D (va_A ws0 sz) s.heap H locs (wMd I a0 a1 a2 a3 a4 a5 x) → ∀ ls : Array Slot, lv_has ls 3 [(0, .ref a0), (1, .int v1), (2, .int v2)] → W p l e (rmB 5 110 0 0) s m args below meth c H locs 0 0 (MQ below (qMi D sz ws0 r (fun _ : Unit => wMd I a0 a1 a2 a3 a4 a5 y0)) args s 0 0 (va_A ws0 sz)) (F0 m 26 ls [.int t1, .ref a0]) := by
  have hx := E.1
  have hb := E.2.1
  intro v1 v2 t1 x hf H locs hw ls hl
  unfold f_X6_walker_26 at hf
  obtain ⟨z3, h, hf⟩ := bd_s hf
  refine x_mi0 hw [0, 1, 2, 3, 4, 5] rfl rfl (x_rV E (As := [.int t1]) (rest := []) (mt_X6_refuses l D I J O a0 a1 a2 a3 a4 a5 H.size t1 x z3.1 z3.2 h) blM (x_recv E hw.1 0 6 rfl rfl rfl) (x_pcMQ0 E hw [0, 1, 2, 3, 4, 5] rfl rfl) ok_X6_refuses q867 rfl hl.1 rfl (Nat.le_of_ble_eq_true rfl) ⟨Nat.le_of_ble_eq_true rfl, Nat.le_of_ble_eq_true rfl⟩ ⟨Nat.le_of_ble_eq_true rfl, Nat.le_of_ble_eq_true rfl⟩ dX6_walker_26) (fun _ => rfl) (fun _ H locs hw => ?_)
  have hw : fy D (va_A ws0 sz) s.heap H locs (wMd I a0 a1 a2 a3 a4 a5 z3.2) := hw
  refine lv_if_eq (tgt := 36) hx hb dX6_walker_29 (by decide) (fun hc => ?_) (fun hc => ?_)
  · rw [if_pos hc] at hf
    refine lv_aload_n hx hb dX6_walker_36 rfl (lv_at hl 0 rfl) ?_
    refine lv_iload_n hx hb dX6_walker_37 rfl (lv_at hl 1 rfl) ?_
    refine lv_iload_n hx hb dX6_walker_38 rfl (lv_at hl 2 rfl) ?_
    obtain ⟨z4, h, hf⟩ := bd_s hf
    refine x_ci (x_rV E (As := [.int v1, .int v2]) (rest := []) (mt_X6_ofWalker l D I J O a0 a1 a2 a3 a4 a5 v1 v2 z3.2 z4 h) blR (x_recv E hw.1 0 6 rfl rfl rfl) (x_pcR E hw.1) ok_X6_ofWalker q1031 rfl hl.1 rfl (Nat.le_of_ble_eq_true rfl) ⟨Nat.le_of_ble_eq_true rfl, Nat.le_of_ble_eq_true rfl⟩ ⟨Nat.le_of_ble_eq_true rfl, Nat.le_of_ble_eq_true rfl⟩ dX6_walker_39) ?_
    obtain ⟨he0, hr⟩ := Prod.mk.inj (Option.some.inj hf)
    have he1 := hr
    subst he1
    exact x_iM E () hw he0 dX6_walker_42
  · rw [if_neg hc] at hf
    refine lv_iconst (v := 0) hx hb dX6_walker_32 (by decide) ?_
    refine lv_goto (tgt := 42) hx hb dX6_walker_33 (by decide) ?_
    obtain ⟨he0, hr⟩ := Prod.mk.inj (Option.some.inj hf)
    have he1 := hr
    subst he1
    exact x_iM E () hw he0 dX6_walker_42
set_option maxRecDepth 100000 in
set_option maxHeartbeats 4000000 in
theorem mt_X6_walker (l : Launch) (D : va_G) (I J O : ClassId) (a0 a1 a2 a3 a4 a5 : Nat) (sz : Nat) (p0 : Int32) (p1 : Int32) (x : MdC) (r : Int32) (y0 : MdC) (hf : f_X6_walker p0 p1 x = some (r, y0)) : mM l yX6_walker cX6_walker 3 (some .int) 5 110 0 0 D I J O sz [.ref a0, .int p0, .int p1] (wMd I a0 a1 a2 a3 a4 a5 x) (qMi D sz (wMd I a0 a1 a2 a3 a4 a5 x) r (fun _ : Unit => wMd I a0 a1 a2 a3 a4 a5 y0)) := by
  refine mM_open (own := RX6) rfl (by decide +kernel) (Nat.le_of_ble_eq_true rfl) (fun p e s m below meth c ls E hnm hsz hw hl => ?_)
  obtain ⟨ws0, hws⟩ : ∃ ws0 : va_W, ws0 = wMd I a0 a1 a2 a3 a4 a5 x := ⟨_, rfl⟩
  have hw : fy D (va_A ws0 sz) s.heap s.heap [] (wMd I a0 a1 a2 a3 a4 a5 x) := by rw [hws]; exact hw
  rw [← hws]
  have hx := E.1
  have hb := E.2.1
  have hl : lv_has ls 3 [(0, .ref a0), (1, .int p0), (2, .int p1)] := hl
  unfold f_X6_walker at hf
  refine lv_aload_n hx hb dX6_walker_0 rfl (lv_at hl 0 rfl) ?_
  refine lv_iload_n hx hb dX6_walker_1 rfl (lv_at hl 1 rfl) ?_
  obtain ⟨z1, h, hf⟩ := bd_s hf
  refine x_ci (x_rS E (As := [.int p0]) (rest := [.ref a0]) (mt_X6_isWalker l D I J O p0 z1 h) blR (x_pcR E x_none) ok_X6_isWalker q912 rfl hl.1 rfl (Nat.le_of_ble_eq_true rfl) ⟨Nat.le_of_ble_eq_true rfl, Nat.le_of_ble_eq_true rfl⟩ ⟨Nat.le_of_ble_eq_true rfl, Nat.le_of_ble_eq_true rfl⟩ dX6_walker_2) ?_
  refine lv_if_ne (tgt := 12) hx hb dX6_walker_5 (by decide) (fun hc => ?_) (fun hc => ?_)
  · rw [if_neg hc] at hf
    refine lv_iload_n hx hb dX6_walker_12 rfl (lv_at hl 2 rfl) ?_
    refine lv_iconst (v := 0) hx hb dX6_walker_13 (by decide) ?_
    refine lv_iconst (v := 2) hx hb dX6_walker_14 (by decide) ?_
    obtain ⟨z2, h, hf⟩ := bd_s hf
    refine x_ci (x_rS E (As := [.int p1, .int 0, .int 2]) (rest := [.ref a0]) (mt_X6_in l D I J O p1 0 2 z2 h) blR (x_pcR E x_none) ok_X6_in q846 rfl hl.1 rfl (Nat.le_of_ble_eq_true rfl) ⟨Nat.le_of_ble_eq_true rfl, Nat.le_of_ble_eq_true rfl⟩ ⟨Nat.le_of_ble_eq_true rfl, Nat.le_of_ble_eq_true rfl⟩ dX6_walker_15) ?_
    refine lv_if_ne (tgt := 25) hx hb dX6_walker_18 (by decide) (fun hc => ?_) (fun hc => ?_)
    · rw [if_neg hc] at hf
      refine lv_iconst (v := 0) hx hb dX6_walker_25 (by decide) ?_
      exact k_X6_walker_26 E a0 a1 a2 a3 a4 a5 r y0 p0 p1 0 x hf _ _ hw _ (lv_sub hl [0, 1, 2] rfl)
    · rw [if_pos hc] at hf
      refine lv_iconst (v := 2) hx hb dX6_walker_21 (by decide) ?_
      refine lv_goto (tgt := 26) hx hb dX6_walker_22 (by decide) ?_
      exact k_X6_walker_26 E a0 a1 a2 a3 a4 a5 r y0 p0 p1 2 x hf _ _ hw _ (lv_sub hl [0, 1, 2] rfl)
  · rw [if_pos hc] at hf
    refine lv_iconst (v := 1) hx hb dX6_walker_8 (by decide) ?_
    refine lv_goto (tgt := 26) hx hb dX6_walker_9 (by decide) ?_
    exact k_X6_walker_26 E a0 a1 a2 a3 a4 a5 r y0 p0 p1 1 x hf _ _ hw _ (lv_sub hl [0, 1, 2] rfl)
theorem ok_X6_used : yV yX6_used cX6_used 3 (some .int) 0 := ⟨q1050, q7, q1049, qs32, by decide +kernel, by decide +kernel, by decide +kernel⟩
set_option maxRecDepth 100000 in
set_option maxHeartbeats 4000000 in
theorem k_X6_used_4 {p : Program} {l : Launch} {e : Env} {s : State} {m : MethodId} {args : Array Value} {below : List Frame} {meth : Method} {c : Code} {D : va_G} {I J O : ClassId} (E : fx p s m args meth c cX6_used RX6 3 (some .int) D I J O) (a0 a1 a2 a3 a4 a5 : Nat)  (r : Int32) : ∀ fu : Nat, ∀ (v1 : Int32) (v2 : Int32) (x : MdC), f_X6_used_4 fu v1 v2 x = some r → va_P D vwCl (wMd I a0 a1 a2 a3 a4 a5 x) s.heap → ∀ ls : Array Slot, lv_has ls 3 [(0, .ref a0), (1, .int v1), (2, .int v2)] → W p l e (rmB 1 22 0 0) s m args below meth c s.heap [] 0 0 (MQ below (qRi r) args s 0 0 (fun _ => False)) (F0 m 4 ls []) := by
  have hx := E.1
  have hb := E.2.1
  intro fu
  induction fu with
  | zero =>
    intro v1 v2 x hf hP ls hl
    rw [f_X6_used_4.eq_1] at hf
    cases hf
  | succ fu ih =>
    intro v1 v2 x hf hP ls hl
    rw [f_X6_used_4.eq_2] at hf
    refine lv_iload_n hx hb dX6_used_4 rfl (lv_at hl 2 rfl) ?_
    refine lv_aload_n hx hb dX6_used_5 rfl (lv_at hl 0 rfl) ?_
    refine x_get E hP 0 rfl rfl in6 1 (by decide) q802 rfl rfl dX6_used_6 ?_
    refine lv_iconst (v := 1) hx hb dX6_used_9 (by decide) ?_
    obtain ⟨g, hf⟩ := gi_s hf
    refine x_ald E hP 1 rfl g dX6_used_10 ?_
    refine lv_icmp_ge (tgt := 32) hx hb dX6_used_11 (by decide) (fun hc => ?_) (fun hc => ?_)
    · rw [if_pos hc] at hf
      refine lv_iload_n hx hb dX6_used_32 rfl (lv_at hl 1 rfl) ?_
      exact x_iR E (Option.some.inj hf) dX6_used_33
    · rw [if_neg hc] at hf
      refine lv_iload_n hx hb dX6_used_14 rfl (lv_at hl 1 rfl) ?_
      refine lv_aload_n hx hb dX6_used_15 rfl (lv_at hl 0 rfl) ?_
      refine x_get E hP 0 rfl rfl in6 1 (by decide) q802 rfl rfl dX6_used_16 ?_
      refine lv_iload_n hx hb dX6_used_19 rfl (lv_at hl 2 rfl) ?_
      refine lv_iconst (v := 1) hx hb dX6_used_20 (by decide) ?_
      obtain ⟨z1, h, hf⟩ := bd_s hf
      refine x_ci (x_rS E (As := [.ref a1, .int v2, .int 1]) (rest := [.int v1]) (mt_X6_of l D I J O a1 v2 1 x.2.1 z1 h) blR (x_pcR E (x_pick0 hP [1] rfl)) ok_X6_of q864 rfl hl.1 rfl (Nat.le_of_ble_eq_true rfl) ⟨Nat.le_of_ble_eq_true rfl, Nat.le_of_ble_eq_true rfl⟩ ⟨Nat.le_of_ble_eq_true rfl, Nat.le_of_ble_eq_true rfl⟩ dX6_used_21) ?_
      refine lv_iadd hx hb dX6_used_24 ?_
      refine lv_istore_n (lv' := [(1, .int (v1 + z1)), (0, .ref a0), (2, .int v2)]) hx hb dX6_used_25 rfl hl (by decide) rfl (fun ls hl => ?_)
      refine lv_iinc (v := v2 + 1) (lv' := [(2, .int (v2 + 1)), (1, .int (v1 + z1)), (0, .ref a0)]) hx hb dX6_used_26 hl (k := 2) rfl rfl (by decide) rfl (fun ls hl => ?_)
      refine lv_goto (tgt := 4) hx hb dX6_used_29 (by decide) ?_
      exact ih (v1 + z1) (v2 + 1) x hf hP _ (lv_sub hl [2, 1, 0] rfl)
set_option maxRecDepth 100000 in
set_option maxHeartbeats 4000000 in
theorem mt_X6_used (l : Launch) (D : va_G) (I J O : ClassId) (a0 a1 a2 a3 a4 a5 : Nat)  (x : MdC) (r : Int32) (hf : f_X6_used x = some r) : mR l yX6_used cX6_used 3 (some .int) 1 22 D I J O [.ref a0] (wMd I a0 a1 a2 a3 a4 a5 x) (qRi r) := by
  refine mR_open (own := RX6) rfl (by decide +kernel) (Nat.le_of_ble_eq_true rfl) (fun p e s m below meth c ls E hP hl => ?_)
  have hx := E.1
  have hb := E.2.1
  have hl : lv_has ls 3 [(0, .ref a0)] := hl
  unfold f_X6_used at hf
  refine lv_iconst (v := 0) hx hb dX6_used_0 (by decide) ?_
  refine lv_istore_n (lv' := [(1, .int 0), (0, .ref a0)]) hx hb dX6_used_1 rfl hl (by decide) rfl (fun ls hl => ?_)
  refine lv_iconst (v := 0) hx hb dX6_used_2 (by decide) ?_
  refine lv_istore_n (lv' := [(2, .int 0), (1, .int 0), (0, .ref a0)]) hx hb dX6_used_3 rfl hl (by decide) rfl (fun ls hl => ?_)
  exact k_X6_used_4 E a0 a1 a2 a3 a4 a5 r FU 0 0 x hf hP _ (lv_sub hl [2, 1, 0] rfl)
theorem ok_X6_values : yV yX6_values cX6_values 3 (some .int) 0 := ⟨q1054, q7, q1053, qs33, by decide +kernel, by decide +kernel, by decide +kernel⟩
set_option maxRecDepth 100000 in
set_option maxHeartbeats 4000000 in
theorem k_X6_values_4 {p : Program} {l : Launch} {e : Env} {s : State} {m : MethodId} {args : Array Value} {below : List Frame} {meth : Method} {c : Code} {D : va_G} {I J O : ClassId} (E : fx p s m args meth c cX6_values RX6 3 (some .int) D I J O) (a0 a1 a2 a3 a4 a5 : Nat)  (r : Int32) : ∀ fu : Nat, ∀ (v1 : Int32) (v2 : Int32) (x : MdC), f_X6_values_4 fu v1 v2 x = some r → va_P D vwCl (wMd I a0 a1 a2 a3 a4 a5 x) s.heap → ∀ ls : Array Slot, lv_has ls 3 [(0, .ref a0), (1, .int v1), (2, .int v2)] → W p l e (rmB 1 22 0 0) s m args below meth c s.heap [] 0 0 (MQ below (qRi r) args s 0 0 (fun _ => False)) (F0 m 4 ls []) := by
  have hx := E.1
  have hb := E.2.1
  intro fu
  induction fu with
  | zero =>
    intro v1 v2 x hf hP ls hl
    rw [f_X6_values_4.eq_1] at hf
    cases hf
  | succ fu ih =>
    intro v1 v2 x hf hP ls hl
    rw [f_X6_values_4.eq_2] at hf
    refine lv_iload_n hx hb dX6_values_4 rfl (lv_at hl 2 rfl) ?_
    refine lv_aload_n hx hb dX6_values_5 rfl (lv_at hl 0 rfl) ?_
    refine x_get E hP 0 rfl rfl in6 1 (by decide) q802 rfl rfl dX6_values_6 ?_
    refine lv_iconst (v := 1) hx hb dX6_values_9 (by decide) ?_
    obtain ⟨g, hf⟩ := gi_s hf
    refine x_ald E hP 1 rfl g dX6_values_10 ?_
    refine lv_icmp_ge (tgt := 32) hx hb dX6_values_11 (by decide) (fun hc => ?_) (fun hc => ?_)
    · rw [if_pos hc] at hf
      refine lv_iload_n hx hb dX6_values_32 rfl (lv_at hl 1 rfl) ?_
      exact x_iR E (Option.some.inj hf) dX6_values_33
    · rw [if_neg hc] at hf
      refine lv_iload_n hx hb dX6_values_14 rfl (lv_at hl 1 rfl) ?_
      refine lv_aload_n hx hb dX6_values_15 rfl (lv_at hl 0 rfl) ?_
      refine x_get E hP 0 rfl rfl in6 1 (by decide) q802 rfl rfl dX6_values_16 ?_
      refine lv_iload_n hx hb dX6_values_19 rfl (lv_at hl 2 rfl) ?_
      refine lv_iconst (v := 2) hx hb dX6_values_20 (by decide) ?_
      obtain ⟨z1, h, hf⟩ := bd_s hf
      refine x_ci (x_rS E (As := [.ref a1, .int v2, .int 2]) (rest := [.int v1]) (mt_X6_of l D I J O a1 v2 2 x.2.1 z1 h) blR (x_pcR E (x_pick0 hP [1] rfl)) ok_X6_of q864 rfl hl.1 rfl (Nat.le_of_ble_eq_true rfl) ⟨Nat.le_of_ble_eq_true rfl, Nat.le_of_ble_eq_true rfl⟩ ⟨Nat.le_of_ble_eq_true rfl, Nat.le_of_ble_eq_true rfl⟩ dX6_values_21) ?_
      refine lv_iadd hx hb dX6_values_24 ?_
      refine lv_istore_n (lv' := [(1, .int (v1 + z1)), (0, .ref a0), (2, .int v2)]) hx hb dX6_values_25 rfl hl (by decide) rfl (fun ls hl => ?_)
      refine lv_iinc (v := v2 + 1) (lv' := [(2, .int (v2 + 1)), (1, .int (v1 + z1)), (0, .ref a0)]) hx hb dX6_values_26 hl (k := 2) rfl rfl (by decide) rfl (fun ls hl => ?_)
      refine lv_goto (tgt := 4) hx hb dX6_values_29 (by decide) ?_
      exact ih (v1 + z1) (v2 + 1) x hf hP _ (lv_sub hl [2, 1, 0] rfl)
set_option maxRecDepth 100000 in
set_option maxHeartbeats 4000000 in
theorem mt_X6_values (l : Launch) (D : va_G) (I J O : ClassId) (a0 a1 a2 a3 a4 a5 : Nat)  (x : MdC) (r : Int32) (hf : f_X6_values x = some r) : mR l yX6_values cX6_values 3 (some .int) 1 22 D I J O [.ref a0] (wMd I a0 a1 a2 a3 a4 a5 x) (qRi r) := by
  refine mR_open (own := RX6) rfl (by decide +kernel) (Nat.le_of_ble_eq_true rfl) (fun p e s m below meth c ls E hP hl => ?_)
  have hx := E.1
  have hb := E.2.1
  have hl : lv_has ls 3 [(0, .ref a0)] := hl
  unfold f_X6_values at hf
  refine lv_iconst (v := 0) hx hb dX6_values_0 (by decide) ?_
  refine lv_istore_n (lv' := [(1, .int 0), (0, .ref a0)]) hx hb dX6_values_1 rfl hl (by decide) rfl (fun ls hl => ?_)
  refine lv_iconst (v := 0) hx hb dX6_values_2 (by decide) ?_
  refine lv_istore_n (lv' := [(2, .int 0), (1, .int 0), (0, .ref a0)]) hx hb dX6_values_3 rfl hl (by decide) rfl (fun ls hl => ?_)
  exact k_X6_values_4 E a0 a1 a2 a3 a4 a5 r FU 0 0 x hf hP _ (lv_sub hl [2, 1, 0] rfl)
theorem ok_X6_counted : yV yX6_counted cX6_counted 2 (some .int) 1 := ⟨q1046, q7, q1045, qs31, by decide +kernel, by decide +kernel, by decide +kernel⟩
set_option maxRecDepth 100000 in
set_option maxHeartbeats 4000000 in
theorem k_X6_counted_99 {p : Program} {l : Launch} {e : Env} {s : State} {m : MethodId} {args : Array Value} {below : List Frame} {meth : Method} {c : Code} {D : va_G} {I J O : ClassId} (E : fx p s m args meth c cX6_counted RX6 2 (some .int) D I J O) (a0 a1 a2 a3 a4 a5 : Nat)  (r : Int32) : ∀ (v1 : Int32) (x : MdC), f_X6_counted_99 v1 x = some r → va_P D vwCl (wMd I a0 a1 a2 a3 a4 a5 x) s.heap → ∀ ls : Array Slot, lv_has ls 2 [(0, .ref a0), (1, .int v1)] → W p l e (rmB 3 65 0 0) s m args below meth c s.heap [] 0 0 (MQ below (qRi r) args s 0 0 (fun _ => False)) (F0 m 99 ls []) := by
  have hx := E.1
  have hb := E.2.1
  intro v1 x hf hP ls hl
  unfold f_X6_counted_99 at hf
  refine lv_aload_n hx hb dX6_counted_99 rfl (lv_at hl 0 rfl) ?_
  refine x_get E hP 0 rfl rfl in6 1 (by decide) q802 rfl rfl dX6_counted_100 ?_
  refine lv_iconst (v := 2) hx hb dX6_counted_103 (by decide) ?_
  refine lv_iload_n hx hb dX6_counted_104 rfl (lv_at hl 1 rfl) ?_
  refine lv_iadd hx hb dX6_counted_105 ?_
  refine lv_iconst (v := 5) hx hb dX6_counted_106 (by decide) ?_
  refine lv_isub hx hb dX6_counted_107 ?_
  obtain ⟨g, hf⟩ := gi_s hf
  refine x_ald E hP 1 rfl g dX6_counted_108 ?_
  exact x_iR E (Option.some.inj hf) dX6_counted_109
set_option maxRecDepth 100000 in
set_option maxHeartbeats 4000000 in
theorem mt_X6_counted (l : Launch) (D : va_G) (I J O : ClassId) (a0 a1 a2 a3 a4 a5 : Nat) (p0 : Int32) (x : MdC) (r : Int32) (hf : f_X6_counted p0 x = some r) : mR l yX6_counted cX6_counted 2 (some .int) 3 65 D I J O [.ref a0, .int p0] (wMd I a0 a1 a2 a3 a4 a5 x) (qRi r) := by
  refine mR_open (own := RX6) rfl (by decide +kernel) (Nat.le_of_ble_eq_true rfl) (fun p e s m below meth c ls E hP hl => ?_)
  have hx := E.1
  have hb := E.2.1
  have hl : lv_has ls 2 [(0, .ref a0), (1, .int p0)] := hl
  unfold f_X6_counted at hf
  refine lv_iload_n hx hb dX6_counted_0 rfl (lv_at hl 1 rfl) ?_
  by_cases hc0 : p0 = 0
  · rw [if_pos hc0] at hf
    refine lv_tableIn (tgt := 52) hx hb dX6_counted_1 (by rw [hc0]; decide) (by rw [hc0]; decide) (by rw [hc0]; rfl) (by decide) ?_
    refine lv_aload_n hx hb dX6_counted_52 rfl (lv_at hl 0 rfl) ?_
    refine x_get E hP 0 rfl rfl in6 1 (by decide) q802 rfl rfl dX6_counted_53 ?_
    obtain ⟨z1, h, hf⟩ := bd_s hf
    refine x_ci (x_rS E (As := [.ref a1]) (rest := []) (mt_X6_things l D I J O a1 x.2.1 z1 h) blR (x_pcR E (x_pick0 hP [1] rfl)) ok_X6_things q946 rfl hl.1 rfl (Nat.le_of_ble_eq_true rfl) ⟨Nat.le_of_ble_eq_true rfl, Nat.le_of_ble_eq_true rfl⟩ ⟨Nat.le_of_ble_eq_true rfl, Nat.le_of_ble_eq_true rfl⟩ dX6_counted_56) ?_
    exact x_iR E (Option.some.inj hf) dX6_counted_59
  · rw [if_neg hc0] at hf
    by_cases hc1 : p0 = 1
    · rw [if_pos hc1] at hf
      refine lv_tableIn (tgt := 60) hx hb dX6_counted_1 (by rw [hc1]; decide) (by rw [hc1]; decide) (by rw [hc1]; rfl) (by decide) ?_
      refine lv_aload_n hx hb dX6_counted_60 rfl (lv_at hl 0 rfl) ?_
      refine x_get E hP 0 rfl rfl in6 1 (by decide) q802 rfl rfl dX6_counted_61 ?_
      refine lv_iconst (v := 1) hx hb dX6_counted_64 (by decide) ?_
      obtain ⟨g, hf⟩ := gi_s hf
      refine x_ald E hP 1 rfl g dX6_counted_65 ?_
      refine lv_aload_n hx hb dX6_counted_66 rfl (lv_at hl 0 rfl) ?_
      refine x_get E hP 0 rfl rfl in6 1 (by decide) q802 rfl rfl dX6_counted_67 ?_
      obtain ⟨z2, h, hf⟩ := bd_s hf
      refine x_ci (x_rS E (As := [.ref a1]) (rest := [.int (x.2.1 (1 : Int32).toNatClampNeg)]) (mt_X6_things l D I J O a1 x.2.1 z2 h) blR (x_pcR E (x_pick0 hP [1] rfl)) ok_X6_things q946 rfl hl.1 rfl (Nat.le_of_ble_eq_true rfl) ⟨Nat.le_of_ble_eq_true rfl, Nat.le_of_ble_eq_true rfl⟩ ⟨Nat.le_of_ble_eq_true rfl, Nat.le_of_ble_eq_true rfl⟩ dX6_counted_70) ?_
      refine lv_isub hx hb dX6_counted_73 ?_
      exact x_iR E (Option.some.inj hf) dX6_counted_74
    · rw [if_neg hc1] at hf
      by_cases hc2 : p0 = 2
      · rw [if_pos hc2] at hf
        refine lv_tableIn (tgt := 75) hx hb dX6_counted_1 (by rw [hc2]; decide) (by rw [hc2]; decide) (by rw [hc2]; rfl) (by decide) ?_
        refine lv_aload_n hx hb dX6_counted_75 rfl (lv_at hl 0 rfl) ?_
        refine x_get E hP 0 rfl rfl in6 1 (by decide) q802 rfl rfl dX6_counted_76 ?_
        refine lv_iconst (v := 0) hx hb dX6_counted_79 (by decide) ?_
        obtain ⟨g, hf⟩ := gi_s hf
        refine x_ald E hP 1 rfl g dX6_counted_80 ?_
        exact x_iR E (Option.some.inj hf) dX6_counted_81
      · rw [if_neg hc2] at hf
        by_cases hc3 : p0 = 3
        · rw [if_pos hc3] at hf
          refine lv_tableIn (tgt := 82) hx hb dX6_counted_1 (by rw [hc3]; decide) (by rw [hc3]; decide) (by rw [hc3]; rfl) (by decide) ?_
          refine lv_aload_n hx hb dX6_counted_82 rfl (lv_at hl 0 rfl) ?_
          refine x_get E hP 0 rfl rfl in6 1 (by decide) q802 rfl rfl dX6_counted_83 ?_
          refine lv_iconst (v := 0) hx hb dX6_counted_86 (by decide) ?_
          obtain ⟨g, hf⟩ := gi_s hf
          refine x_ald E hP 1 rfl g dX6_counted_87 ?_
          refine lv_aload_n hx hb dX6_counted_88 rfl (lv_at hl 0 rfl) ?_
          obtain ⟨z3, h, hf⟩ := bd_s hf
          refine x_ci (x_rV E (As := []) (rest := [.int (x.2.1 (0 : Int32).toNatClampNeg)]) (mt_X6_used l D I J O a0 a1 a2 a3 a4 a5 x z3 h) blR (x_recv E hP 0 6 rfl rfl rfl) (x_pcR E hP) ok_X6_used q1047 rfl hl.1 rfl (Nat.le_of_ble_eq_true rfl) ⟨Nat.le_of_ble_eq_true rfl, Nat.le_of_ble_eq_true rfl⟩ ⟨Nat.le_of_ble_eq_true rfl, Nat.le_of_ble_eq_true rfl⟩ dX6_counted_89) ?_
          refine lv_isub hx hb dX6_counted_92 ?_
          exact x_iR E (Option.some.inj hf) dX6_counted_93
        · rw [if_neg hc3] at hf
          by_cases hc4 : p0 = 4
          · rw [if_pos hc4] at hf
            refine lv_tableIn (tgt := 94) hx hb dX6_counted_1 (by rw [hc4]; decide) (by rw [hc4]; decide) (by rw [hc4]; rfl) (by decide) ?_
            refine lv_aload_n hx hb dX6_counted_94 rfl (lv_at hl 0 rfl) ?_
            obtain ⟨z4, h, hf⟩ := bd_s hf
            refine x_ci (x_rV E (As := []) (rest := []) (mt_X6_values l D I J O a0 a1 a2 a3 a4 a5 x z4 h) blR (x_recv E hP 0 6 rfl rfl rfl) (x_pcR E hP) ok_X6_values q1051 rfl hl.1 rfl (Nat.le_of_ble_eq_true rfl) ⟨Nat.le_of_ble_eq_true rfl, Nat.le_of_ble_eq_true rfl⟩ ⟨Nat.le_of_ble_eq_true rfl, Nat.le_of_ble_eq_true rfl⟩ dX6_counted_95) ?_
            exact x_iR E (Option.some.inj hf) dX6_counted_98
          · rw [if_neg hc4] at hf
            by_cases hc5 : p0 = 5
            · rw [if_pos hc5] at hf
              refine lv_tableIn (tgt := 99) hx hb dX6_counted_1 (by rw [hc5]; decide) (by rw [hc5]; decide) (by rw [hc5]; rfl) (by decide) ?_
              exact k_X6_counted_99 E a0 a1 a2 a3 a4 a5 r p0 x hf hP _ (lv_sub hl [0, 1] rfl)
            · rw [if_neg hc5] at hf
              by_cases hc6 : p0 = 6
              · rw [if_pos hc6] at hf
                refine lv_tableIn (tgt := 99) hx hb dX6_counted_1 (by rw [hc6]; decide) (by rw [hc6]; decide) (by rw [hc6]; rfl) (by decide) ?_
                exact k_X6_counted_99 E a0 a1 a2 a3 a4 a5 r p0 x hf hP _ (lv_sub hl [0, 1] rfl)
              · rw [if_neg hc6] at hf
                by_cases hc7 : p0 = 7
                · rw [if_pos hc7] at hf
                  refine lv_tableIn (tgt := 99) hx hb dX6_counted_1 (by rw [hc7]; decide) (by rw [hc7]; decide) (by rw [hc7]; rfl) (by decide) ?_
                  exact k_X6_counted_99 E a0 a1 a2 a3 a4 a5 r p0 x hf hP _ (lv_sub hl [0, 1] rfl)
                · rw [if_neg hc7] at hf
                  by_cases hc8 : p0 = 8
                  · rw [if_pos hc8] at hf
                    refine lv_tableIn (tgt := 99) hx hb dX6_counted_1 (by rw [hc8]; decide) (by rw [hc8]; decide) (by rw [hc8]; rfl) (by decide) ?_
                    exact k_X6_counted_99 E a0 a1 a2 a3 a4 a5 r p0 x hf hP _ (lv_sub hl [0, 1] rfl)
                  · rw [if_neg hc8] at hf
                    refine lv_tableOut (tgt := 110) hx hb dX6_counted_1 (by have q0 := sw_ne 0 0 (by decide) hc0; have q1 := sw_ne 1 1 (by decide) hc1; have q2 := sw_ne 2 2 (by decide) hc2; have q3 := sw_ne 3 3 (by decide) hc3; have q4 := sw_ne 4 4 (by decide) hc4; have q5 := sw_ne 5 5 (by decide) hc5; have q6 := sw_ne 6 6 (by decide) hc6; have q7 := sw_ne 7 7 (by decide) hc7; have q8 := sw_ne 8 8 (by decide) hc8; omega) (by decide) ?_
                    refine lv_aload_n hx hb dX6_counted_110 rfl (lv_at hl 0 rfl) ?_
                    refine x_get E hP 0 rfl rfl in6 4 (by decide) q805 rfl rfl dX6_counted_111 ?_
                    exact x_iR E (Option.some.inj hf) dX6_counted_114
theorem ok_X6_count : yV yX6_count cX6_count 2 (some .int) 1 := ⟨q1042, q7, q1040, q1041, by decide +kernel, by decide +kernel, by decide +kernel⟩
set_option maxRecDepth 100000 in
set_option maxHeartbeats 4000000 in
theorem k_X6_count_16 {p : Program} {l : Launch} {e : Env} {s : State} {m : MethodId} {args : Array Value} {below : List Frame} {meth : Method} {c : Code} {D : va_G} {I J O : ClassId} (E : fx p s m args meth c cX6_count RX6 2 (some .int) D I J O) (a0 a1 a2 a3 a4 a5 : Nat)  {ws0 : va_W} {sz : Nat} (r : Int32) (y0 : MdC) : ∀ (v1 : Int32) (t1 : Int32) (x : MdC), f_X6_count_16 v1 t1 x = some (r, y0) → ∀ (H : Heap) (locs : List Loc), fy D (va_A ws0 sz) s.heap H locs (wMd I a0 a1 a2 a3 a4 a5 x) → ∀ ls : Array Slot, lv_has ls 2 [(0, .ref a0), (1, .int v1)] → W p l e (rmB 4 86 0 0) s m args below meth c H locs 0 0 (MQ below (qMi D sz ws0 r (fun _ : Unit => wMd I a0 a1 a2 a3 a4 a5 y0)) args s 0 0 (va_A ws0 sz)) (F0 m 16 ls [.int t1, .ref a0]) := by
  have hx := E.1
  have hb := E.2.1
  intro v1 t1 x hf H locs hw ls hl
  unfold f_X6_count_16 at hf
  obtain ⟨z2, h, hf⟩ := bd_s hf
  refine x_mi0 hw [0, 1, 2, 3, 4, 5] rfl rfl (x_rV E (As := [.int t1]) (rest := []) (mt_X6_refuses l D I J O a0 a1 a2 a3 a4 a5 H.size t1 x z2.1 z2.2 h) blM (x_recv E hw.1 0 6 rfl rfl rfl) (x_pcMQ0 E hw [0, 1, 2, 3, 4, 5] rfl rfl) ok_X6_refuses q867 rfl hl.1 rfl (Nat.le_of_ble_eq_true rfl) ⟨Nat.le_of_ble_eq_true rfl, Nat.le_of_ble_eq_true rfl⟩ ⟨Nat.le_of_ble_eq_true rfl, Nat.le_of_ble_eq_true rfl⟩ dX6_count_16) (fun _ => rfl) (fun _ H locs hw => ?_)
  have hw : fy D (va_A ws0 sz) s.heap H locs (wMd I a0 a1 a2 a3 a4 a5 z2.2) := hw
  refine lv_if_eq (tgt := 26) hx hb dX6_count_19 (by decide) (fun hc => ?_) (fun hc => ?_)
  · rw [if_pos hc] at hf
    refine lv_aload_n hx hb dX6_count_26 rfl (lv_at hl 0 rfl) ?_
    refine lv_iload_n hx hb dX6_count_27 rfl (lv_at hl 1 rfl) ?_
    obtain ⟨z3, h, hf⟩ := bd_s hf
    refine x_ci (x_rV E (As := [.int v1]) (rest := []) (mt_X6_counted l D I J O a0 a1 a2 a3 a4 a5 v1 z2.2 z3 h) blR (x_recv E hw.1 0 6 rfl rfl rfl) (x_pcR E hw.1) ok_X6_counted q1043 rfl hl.1 rfl (Nat.le_of_ble_eq_true rfl) ⟨Nat.le_of_ble_eq_true rfl, Nat.le_of_ble_eq_true rfl⟩ ⟨Nat.le_of_ble_eq_true rfl, Nat.le_of_ble_eq_true rfl⟩ dX6_count_28) ?_
    obtain ⟨he0, hr⟩ := Prod.mk.inj (Option.some.inj hf)
    have he1 := hr
    subst he1
    exact x_iM E () hw he0 dX6_count_31
  · rw [if_neg hc] at hf
    refine lv_iconst (v := 0) hx hb dX6_count_22 (by decide) ?_
    refine lv_goto (tgt := 31) hx hb dX6_count_23 (by decide) ?_
    obtain ⟨he0, hr⟩ := Prod.mk.inj (Option.some.inj hf)
    have he1 := hr
    subst he1
    exact x_iM E () hw he0 dX6_count_31
set_option maxRecDepth 100000 in
set_option maxHeartbeats 4000000 in
theorem mt_X6_count (l : Launch) (D : va_G) (I J O : ClassId) (a0 a1 a2 a3 a4 a5 : Nat) (sz : Nat) (p0 : Int32) (x : MdC) (r : Int32) (y0 : MdC) (hf : f_X6_count p0 x = some (r, y0)) : mM l yX6_count cX6_count 2 (some .int) 4 86 0 0 D I J O sz [.ref a0, .int p0] (wMd I a0 a1 a2 a3 a4 a5 x) (qMi D sz (wMd I a0 a1 a2 a3 a4 a5 x) r (fun _ : Unit => wMd I a0 a1 a2 a3 a4 a5 y0)) := by
  refine mM_open (own := RX6) rfl (by decide +kernel) (Nat.le_of_ble_eq_true rfl) (fun p e s m below meth c ls E hnm hsz hw hl => ?_)
  obtain ⟨ws0, hws⟩ : ∃ ws0 : va_W, ws0 = wMd I a0 a1 a2 a3 a4 a5 x := ⟨_, rfl⟩
  have hw : fy D (va_A ws0 sz) s.heap s.heap [] (wMd I a0 a1 a2 a3 a4 a5 x) := by rw [hws]; exact hw
  rw [← hws]
  have hx := E.1
  have hb := E.2.1
  have hl : lv_has ls 2 [(0, .ref a0), (1, .int p0)] := hl
  unfold f_X6_count at hf
  refine lv_aload_n hx hb dX6_count_0 rfl (lv_at hl 0 rfl) ?_
  refine lv_iload_n hx hb dX6_count_1 rfl (lv_at hl 1 rfl) ?_
  refine lv_iconst (v := 0) hx hb dX6_count_2 (by decide) ?_
  refine lv_bipush (v := 9) hx hb dX6_count_3 (by decide) ?_
  obtain ⟨z1, h, hf⟩ := bd_s hf
  refine x_ci (x_rS E (As := [.int p0, .int 0, .int 9]) (rest := [.ref a0]) (mt_X6_in l D I J O p0 0 9 z1 h) blR (x_pcR E x_none) ok_X6_in q846 rfl hl.1 rfl (Nat.le_of_ble_eq_true rfl) ⟨Nat.le_of_ble_eq_true rfl, Nat.le_of_ble_eq_true rfl⟩ ⟨Nat.le_of_ble_eq_true rfl, Nat.le_of_ble_eq_true rfl⟩ dX6_count_5) ?_
  refine lv_if_eq (tgt := 15) hx hb dX6_count_8 (by decide) (fun hc => ?_) (fun hc => ?_)
  · rw [if_pos hc] at hf
    refine lv_iconst (v := 1) hx hb dX6_count_15 (by decide) ?_
    exact k_X6_count_16 E a0 a1 a2 a3 a4 a5 r y0 p0 1 x hf _ _ hw _ (lv_sub hl [0, 1] rfl)
  · rw [if_neg hc] at hf
    refine lv_iconst (v := 0) hx hb dX6_count_11 (by decide) ?_
    refine lv_goto (tgt := 16) hx hb dX6_count_12 (by decide) ?_
    exact k_X6_count_16 E a0 a1 a2 a3 a4 a5 r y0 p0 0 x hf _ _ hw _ (lv_sub hl [0, 1] rfl)
theorem ok_X6_beginsAt : yV yX6_beginsAt cX6_beginsAt 3 (some .int) 1 := ⟨q1062, q7, q1061, qs34, by decide +kernel, by decide +kernel, by decide +kernel⟩
set_option maxRecDepth 100000 in
set_option maxHeartbeats 4000000 in
theorem mt_X6_beginsAt (l : Launch) (D : va_G) (I J O : ClassId) (a0 a1 a2 a3 a4 a5 : Nat) (p0 : Int32) (x : MdC) (r : Int32) (hf : f_X6_beginsAt p0 x = some r) : mR l yX6_beginsAt cX6_beginsAt 3 (some .int) 6 133 D I J O [.ref a0, .int p0] (wMd I a0 a1 a2 a3 a4 a5 x) (qRi r) := by
  refine mR_open (own := RX6) rfl (by decide +kernel) (Nat.le_of_ble_eq_true rfl) (fun p e s m below meth c ls E hP hl => ?_)
  have hx := E.1
  have hb := E.2.1
  have hl : lv_has ls 3 [(0, .ref a0), (1, .int p0)] := hl
  unfold f_X6_beginsAt at hf
  refine lv_aload_n hx hb dX6_beginsAt_0 rfl (lv_at hl 0 rfl) ?_
  refine x_get E hP 0 rfl rfl in6 1 (by decide) q802 rfl rfl dX6_beginsAt_1 ?_
  refine lv_iload_n hx hb dX6_beginsAt_4 rfl (lv_at hl 1 rfl) ?_
  obtain ⟨z1, h, hf⟩ := bd_s hf
  refine x_ci (x_rS E (As := [.ref a1, .int p0]) (rest := []) (mt_X6_cellsFor l D I J O a1 p0 x.2.1 z1 h) blR (x_pcR E (x_pick0 hP [1] rfl)) ok_X6_cellsFor q849 rfl hl.1 rfl (Nat.le_of_ble_eq_true rfl) ⟨Nat.le_of_ble_eq_true rfl, Nat.le_of_ble_eq_true rfl⟩ ⟨Nat.le_of_ble_eq_true rfl, Nat.le_of_ble_eq_true rfl⟩ dX6_beginsAt_5) ?_
  refine lv_istore_n (lv' := [(2, .int z1), (0, .ref a0), (1, .int p0)]) hx hb dX6_beginsAt_8 rfl hl (by decide) rfl (fun ls hl => ?_)
  refine lv_iload_n hx hb dX6_beginsAt_9 rfl (lv_at hl 0 rfl) ?_
  refine lv_iconst (v := (-1)) hx hb dX6_beginsAt_10 (by decide) ?_
  refine lv_icmp_ne (tgt := 18) hx hb dX6_beginsAt_11 (by decide) (fun hc => ?_) (fun hc => ?_)
  · rw [if_neg hc] at hf
    refine lv_aload_n hx hb dX6_beginsAt_18 rfl (lv_at hl 1 rfl) ?_
    refine x_get E hP 0 rfl rfl in6 1 (by decide) q802 rfl rfl dX6_beginsAt_19 ?_
    refine lv_iload_n hx hb dX6_beginsAt_22 rfl (lv_at hl 2 rfl) ?_
    refine lv_iload_n hx hb dX6_beginsAt_23 rfl (lv_at hl 0 rfl) ?_
    obtain ⟨z2, h, hf⟩ := bd_s hf
    refine x_ci (x_rS E (As := [.ref a1, .int p0, .int z1]) (rest := []) (mt_X6_roomIn l D I J O a1 p0 z1 x.2.1 z2 h) blR (x_pcR E (x_pick0 hP [1] rfl)) ok_X6_roomIn q852 rfl hl.1 rfl (Nat.le_of_ble_eq_true rfl) ⟨Nat.le_of_ble_eq_true rfl, Nat.le_of_ble_eq_true rfl⟩ ⟨Nat.le_of_ble_eq_true rfl, Nat.le_of_ble_eq_true rfl⟩ dX6_beginsAt_24) ?_
    exact x_iR E (Option.some.inj hf) dX6_beginsAt_27
  · rw [if_pos hc] at hf
    refine lv_iconst (v := (-1)) hx hb dX6_beginsAt_14 (by decide) ?_
    refine lv_goto (tgt := 27) hx hb dX6_beginsAt_15 (by decide) ?_
    exact x_iR E (Option.some.inj hf) dX6_beginsAt_27
theorem ok_X6_begins : yV yX6_begins cX6_begins 2 (some .int) 1 := ⟨q1058, q7, q1056, q1057, by decide +kernel, by decide +kernel, by decide +kernel⟩
set_option maxRecDepth 100000 in
set_option maxHeartbeats 4000000 in
theorem k_X6_begins_15 {p : Program} {l : Launch} {e : Env} {s : State} {m : MethodId} {args : Array Value} {below : List Frame} {meth : Method} {c : Code} {D : va_G} {I J O : ClassId} (E : fx p s m args meth c cX6_begins RX6 2 (some .int) D I J O) (a0 a1 a2 a3 a4 a5 : Nat)  {ws0 : va_W} {sz : Nat} (r : Int32) (y0 : MdC) : ∀ (v1 : Int32) (t1 : Int32) (x : MdC), f_X6_begins_15 v1 t1 x = some (r, y0) → ∀ (H : Heap) (locs : List Loc), fy D (va_A ws0 sz) s.heap H locs (wMd I a0 a1 a2 a3 a4 a5 x) → ∀ ls : Array Slot, lv_has ls 2 [(0, .ref a0), (1, .int v1)] → W p l e (rmB 7 155 0 0) s m args below meth c H locs 0 0 (MQ below (qMi D sz ws0 r (fun _ : Unit => wMd I a0 a1 a2 a3 a4 a5 y0)) args s 0 0 (va_A ws0 sz)) (F0 m 15 ls [.int t1, .ref a0]) := by
  have hx := E.1
  have hb := E.2.1
  intro v1 t1 x hf H locs hw ls hl
  unfold f_X6_begins_15 at hf
  obtain ⟨z2, h, hf⟩ := bd_s hf
  refine x_mi0 hw [0, 1, 2, 3, 4, 5] rfl rfl (x_rV E (As := [.int t1]) (rest := []) (mt_X6_refuses l D I J O a0 a1 a2 a3 a4 a5 H.size t1 x z2.1 z2.2 h) blM (x_recv E hw.1 0 6 rfl rfl rfl) (x_pcMQ0 E hw [0, 1, 2, 3, 4, 5] rfl rfl) ok_X6_refuses q867 rfl hl.1 rfl (Nat.le_of_ble_eq_true rfl) ⟨Nat.le_of_ble_eq_true rfl, Nat.le_of_ble_eq_true rfl⟩ ⟨Nat.le_of_ble_eq_true rfl, Nat.le_of_ble_eq_true rfl⟩ dX6_begins_15) (fun _ => rfl) (fun _ H locs hw => ?_)
  have hw : fy D (va_A ws0 sz) s.heap H locs (wMd I a0 a1 a2 a3 a4 a5 z2.2) := hw
  refine lv_if_eq (tgt := 25) hx hb dX6_begins_18 (by decide) (fun hc => ?_) (fun hc => ?_)
  · rw [if_pos hc] at hf
    refine lv_aload_n hx hb dX6_begins_25 rfl (lv_at hl 0 rfl) ?_
    refine lv_iload_n hx hb dX6_begins_26 rfl (lv_at hl 1 rfl) ?_
    obtain ⟨z3, h, hf⟩ := bd_s hf
    refine x_ci (x_rV E (As := [.int v1]) (rest := []) (mt_X6_beginsAt l D I J O a0 a1 a2 a3 a4 a5 v1 z2.2 z3 h) blR (x_recv E hw.1 0 6 rfl rfl rfl) (x_pcR E hw.1) ok_X6_beginsAt q1059 rfl hl.1 rfl (Nat.le_of_ble_eq_true rfl) ⟨Nat.le_of_ble_eq_true rfl, Nat.le_of_ble_eq_true rfl⟩ ⟨Nat.le_of_ble_eq_true rfl, Nat.le_of_ble_eq_true rfl⟩ dX6_begins_27) ?_
    obtain ⟨he0, hr⟩ := Prod.mk.inj (Option.some.inj hf)
    have he1 := hr
    subst he1
    exact x_iM E () hw he0 dX6_begins_30
  · rw [if_neg hc] at hf
    refine lv_iconst (v := 0) hx hb dX6_begins_21 (by decide) ?_
    refine lv_goto (tgt := 30) hx hb dX6_begins_22 (by decide) ?_
    obtain ⟨he0, hr⟩ := Prod.mk.inj (Option.some.inj hf)
    have he1 := hr
    subst he1
    exact x_iM E () hw he0 dX6_begins_30
set_option maxRecDepth 100000 in
set_option maxHeartbeats 4000000 in
theorem mt_X6_begins (l : Launch) (D : va_G) (I J O : ClassId) (a0 a1 a2 a3 a4 a5 : Nat) (sz : Nat) (p0 : Int32) (x : MdC) (r : Int32) (y0 : MdC) (hf : f_X6_begins p0 x = some (r, y0)) : mM l yX6_begins cX6_begins 2 (some .int) 7 155 0 0 D I J O sz [.ref a0, .int p0] (wMd I a0 a1 a2 a3 a4 a5 x) (qMi D sz (wMd I a0 a1 a2 a3 a4 a5 x) r (fun _ : Unit => wMd I a0 a1 a2 a3 a4 a5 y0)) := by
  refine mM_open (own := RX6) rfl (by decide +kernel) (Nat.le_of_ble_eq_true rfl) (fun p e s m below meth c ls E hnm hsz hw hl => ?_)
  obtain ⟨ws0, hws⟩ : ∃ ws0 : va_W, ws0 = wMd I a0 a1 a2 a3 a4 a5 x := ⟨_, rfl⟩
  have hw : fy D (va_A ws0 sz) s.heap s.heap [] (wMd I a0 a1 a2 a3 a4 a5 x) := by rw [hws]; exact hw
  rw [← hws]
  have hx := E.1
  have hb := E.2.1
  have hl : lv_has ls 2 [(0, .ref a0), (1, .int p0)] := hl
  unfold f_X6_begins at hf
  refine lv_aload_n hx hb dX6_begins_0 rfl (lv_at hl 0 rfl) ?_
  refine lv_iload_n hx hb dX6_begins_1 rfl (lv_at hl 1 rfl) ?_
  refine lv_iconst (v := 1) hx hb dX6_begins_2 (by decide) ?_
  refine lv_iconst (v := 4) hx hb dX6_begins_3 (by decide) ?_
  obtain ⟨z1, h, hf⟩ := bd_s hf
  refine x_ci (x_rS E (As := [.int p0, .int 1, .int 4]) (rest := [.ref a0]) (mt_X6_in l D I J O p0 1 4 z1 h) blR (x_pcR E x_none) ok_X6_in q846 rfl hl.1 rfl (Nat.le_of_ble_eq_true rfl) ⟨Nat.le_of_ble_eq_true rfl, Nat.le_of_ble_eq_true rfl⟩ ⟨Nat.le_of_ble_eq_true rfl, Nat.le_of_ble_eq_true rfl⟩ dX6_begins_4) ?_
  refine lv_if_eq (tgt := 14) hx hb dX6_begins_7 (by decide) (fun hc => ?_) (fun hc => ?_)
  · rw [if_pos hc] at hf
    refine lv_iconst (v := 1) hx hb dX6_begins_14 (by decide) ?_
    exact k_X6_begins_15 E a0 a1 a2 a3 a4 a5 r y0 p0 1 x hf _ _ hw _ (lv_sub hl [0, 1] rfl)
  · rw [if_neg hc] at hf
    refine lv_iconst (v := 0) hx hb dX6_begins_10 (by decide) ?_
    refine lv_goto (tgt := 15) hx hb dX6_begins_11 (by decide) ?_
    exact k_X6_begins_15 E a0 a1 a2 a3 a4 a5 r y0 p0 0 x hf _ _ hw _ (lv_sub hl [0, 1] rfl)
theorem ok_X6_longest : yV yX6_longest cX6_longest 6 (some .int) 1 := ⟨q1070, q7, q1069, qs35, by decide +kernel, by decide +kernel, by decide +kernel⟩
set_option maxRecDepth 100000 in
set_option maxHeartbeats 4000000 in
theorem k_X6_longest_60 {p : Program} {l : Launch} {e : Env} {s : State} {m : MethodId} {args : Array Value} {below : List Frame} {meth : Method} {c : Code} {D : va_G} {I J O : ClassId} (E : fx p s m args meth c cX6_longest RX6 6 (some .int) D I J O) (a0 a1 a2 a3 a4 a5 : Nat)  (r : Int32) (k7 : Int32 → Int32 → Int32 → Int32 → MdC → Option (Int32)) (hk7 : ∀ (v1 : Int32) (v2 : Int32) (v3 : Int32) (v4 : Int32) (x : MdC), k7 v1 v2 v3 v4 x = some r → va_P D vwCl (wMd I a0 a1 a2 a3 a4 a5 x) s.heap → ∀ ls : Array Slot, lv_has ls 6 [(0, .ref a0), (1, .int v1), (2, .int v2), (3, .int v3), (4, .int v4)] → W p l e (rmB 4 88 0 0) s m args below meth c s.heap [] 0 0 (MQ below (qRi r) args s 0 0 (fun _ => False)) (F0 m 7 ls [])) : ∀ (v1 : Int32) (v2 : Int32) (v4 : Int32) (t0 : Int32) (x : MdC), f_X6_longest_60 k7 v1 v2 v4 t0 x = some r → va_P D vwCl (wMd I a0 a1 a2 a3 a4 a5 x) s.heap → ∀ ls : Array Slot, lv_has ls 6 [(0, .ref a0), (1, .int v1), (2, .int v2), (4, .int v4)] → W p l e (rmB 4 88 0 0) s m args below meth c s.heap [] 0 0 (MQ below (qRi r) args s 0 0 (fun _ => False)) (F0 m 60 ls [.int t0]) := by
  have hx := E.1
  have hb := E.2.1
  intro v1 v2 v4 t0 x hf hP ls hl
  unfold f_X6_longest_60 at hf
  refine lv_istore_n (lv' := [(3, .int t0), (0, .ref a0), (1, .int v1), (2, .int v2), (4, .int v4)]) hx hb dX6_longest_60 rfl hl (by decide) rfl (fun ls hl => ?_)
  refine lv_iinc (v := v4 + 1) (lv' := [(4, .int (v4 + 1)), (3, .int t0), (0, .ref a0), (1, .int v1), (2, .int v2)]) hx hb dX6_longest_61 hl (k := 4) rfl rfl (by decide) rfl (fun ls hl => ?_)
  refine lv_goto (tgt := 7) hx hb dX6_longest_64 (by decide) ?_
  exact hk7 v1 v2 t0 (v4 + 1) x hf hP _ (lv_sub hl [2, 3, 4, 1, 0] rfl)
set_option maxRecDepth 100000 in
set_option maxHeartbeats 4000000 in
theorem k_X6_longest_47 {p : Program} {l : Launch} {e : Env} {s : State} {m : MethodId} {args : Array Value} {below : List Frame} {meth : Method} {c : Code} {D : va_G} {I J O : ClassId} (E : fx p s m args meth c cX6_longest RX6 6 (some .int) D I J O) (a0 a1 a2 a3 a4 a5 : Nat)  (r : Int32) (k7 : Int32 → Int32 → Int32 → Int32 → MdC → Option (Int32)) (hk7 : ∀ (v1 : Int32) (v2 : Int32) (v3 : Int32) (v4 : Int32) (x : MdC), k7 v1 v2 v3 v4 x = some r → va_P D vwCl (wMd I a0 a1 a2 a3 a4 a5 x) s.heap → ∀ ls : Array Slot, lv_has ls 6 [(0, .ref a0), (1, .int v1), (2, .int v2), (3, .int v3), (4, .int v4)] → W p l e (rmB 4 88 0 0) s m args below meth c s.heap [] 0 0 (MQ below (qRi r) args s 0 0 (fun _ => False)) (F0 m 7 ls [])) : ∀ (v1 : Int32) (v3 : Int32) (v4 : Int32) (v5 : Int32) (t0 : Int32) (x : MdC), f_X6_longest_47 k7 v1 v3 v4 v5 t0 x = some r → va_P D vwCl (wMd I a0 a1 a2 a3 a4 a5 x) s.heap → ∀ ls : Array Slot, lv_has ls 6 [(0, .ref a0), (1, .int v1), (3, .int v3), (4, .int v4), (5, .int v5)] → W p l e (rmB 4 88 0 0) s m args below meth c s.heap [] 0 0 (MQ below (qRi r) args s 0 0 (fun _ => False)) (F0 m 47 ls [.int t0]) := by
  have hx := E.1
  have hb := E.2.1
  intro v1 v3 v4 v5 t0 x hf hP ls hl
  unfold f_X6_longest_47 at hf
  refine lv_istore_n (lv' := [(2, .int t0), (0, .ref a0), (1, .int v1), (3, .int v3), (4, .int v4), (5, .int v5)]) hx hb dX6_longest_47 rfl hl (by decide) rfl (fun ls hl => ?_)
  refine lv_iload hx hb dX6_longest_48 (lv_at hl 5 rfl) ?_
  refine lv_iload_n hx hb dX6_longest_50 rfl (lv_at hl 3 rfl) ?_
  refine lv_icmp_le (tgt := 59) hx hb dX6_longest_51 (by decide) (fun hc => ?_) (fun hc => ?_)
  · rw [if_pos hc] at hf
    refine lv_iload_n hx hb dX6_longest_59 rfl (lv_at hl 3 rfl) ?_
    exact k_X6_longest_60 E a0 a1 a2 a3 a4 a5 r k7 hk7 v1 t0 v4 v3 x hf hP _ (lv_sub hl [1, 2, 0, 4] rfl)
  · rw [if_neg hc] at hf
    refine lv_iload hx hb dX6_longest_54 (lv_at hl 5 rfl) ?_
    refine lv_goto (tgt := 60) hx hb dX6_longest_56 (by decide) ?_
    exact k_X6_longest_60 E a0 a1 a2 a3 a4 a5 r k7 hk7 v1 t0 v4 v5 x hf hP _ (lv_sub hl [1, 2, 0, 4] rfl)
set_option maxRecDepth 100000 in
set_option maxHeartbeats 4000000 in
theorem k_X6_longest_7 {p : Program} {l : Launch} {e : Env} {s : State} {m : MethodId} {args : Array Value} {below : List Frame} {meth : Method} {c : Code} {D : va_G} {I J O : ClassId} (E : fx p s m args meth c cX6_longest RX6 6 (some .int) D I J O) (a0 a1 a2 a3 a4 a5 : Nat)  (r : Int32) : ∀ fu : Nat, ∀ (v1 : Int32) (v2 : Int32) (v3 : Int32) (v4 : Int32) (x : MdC), f_X6_longest_7 fu v1 v2 v3 v4 x = some r → va_P D vwCl (wMd I a0 a1 a2 a3 a4 a5 x) s.heap → ∀ ls : Array Slot, lv_has ls 6 [(0, .ref a0), (1, .int v1), (2, .int v2), (3, .int v3), (4, .int v4)] → W p l e (rmB 4 88 0 0) s m args below meth c s.heap [] 0 0 (MQ below (qRi r) args s 0 0 (fun _ => False)) (F0 m 7 ls []) := by
  have hx := E.1
  have hb := E.2.1
  intro fu
  induction fu with
  | zero =>
    intro v1 v2 v3 v4 x hf hP ls hl
    rw [f_X6_longest_7.eq_1] at hf
    cases hf
  | succ fu ih =>
    intro v1 v2 v3 v4 x hf hP ls hl
    rw [f_X6_longest_7.eq_2] at hf
    refine lv_iload hx hb dX6_longest_7 (lv_at hl 4 rfl) ?_
    refine lv_aload_n hx hb dX6_longest_9 rfl (lv_at hl 0 rfl) ?_
    refine x_get E hP 0 rfl rfl in6 1 (by decide) q802 rfl rfl dX6_longest_10 ?_
    refine lv_iconst (v := 0) hx hb dX6_longest_13 (by decide) ?_
    obtain ⟨g, hf⟩ := gi_s hf
    refine x_ald E hP 1 rfl g dX6_longest_14 ?_
    refine lv_icmp_ge (tgt := 67) hx hb dX6_longest_15 (by decide) (fun hc => ?_) (fun hc => ?_)
    · rw [if_pos hc] at hf
      refine lv_iload_n hx hb dX6_longest_67 rfl (lv_at hl 1 rfl) ?_
      refine lv_if_ne (tgt := 75) hx hb dX6_longest_68 (by decide) (fun hc => ?_) (fun hc => ?_)
      · rw [if_neg hc] at hf
        refine lv_iload_n hx hb dX6_longest_75 rfl (lv_at hl 2 rfl) ?_
        exact x_iR E (Option.some.inj hf) dX6_longest_76
      · rw [if_pos hc] at hf
        refine lv_iload_n hx hb dX6_longest_71 rfl (lv_at hl 3 rfl) ?_
        refine lv_goto (tgt := 76) hx hb dX6_longest_72 (by decide) ?_
        exact x_iR E (Option.some.inj hf) dX6_longest_76
    · rw [if_neg hc] at hf
      refine lv_aload_n hx hb dX6_longest_18 rfl (lv_at hl 0 rfl) ?_
      refine x_get E hP 0 rfl rfl in6 1 (by decide) q802 rfl rfl dX6_longest_19 ?_
      refine lv_iload hx hb dX6_longest_22 (lv_at hl 4 rfl) ?_
      refine lv_aload_n hx hb dX6_longest_24 rfl (lv_at hl 0 rfl) ?_
      refine x_get E hP 0 rfl rfl in6 1 (by decide) q802 rfl rfl dX6_longest_25 ?_
      refine lv_iconst (v := 0) hx hb dX6_longest_28 (by decide) ?_
      obtain ⟨g, hf⟩ := gi_s hf
      refine x_ald E hP 1 rfl g dX6_longest_29 ?_
      obtain ⟨z1, h, hf⟩ := bd_s hf
      refine x_ci (x_rS E (As := [.ref a1, .int v4, .int (x.2.1 (0 : Int32).toNatClampNeg)]) (rest := []) (mt_X6_freeFrom l D I J O a1 v4 (x.2.1 (0 : Int32).toNatClampNeg) x.2.1 z1 h) blR (x_pcR E (x_pick0 hP [1] rfl)) ok_X6_freeFrom q855 rfl hl.1 rfl (Nat.le_of_ble_eq_true rfl) ⟨Nat.le_of_ble_eq_true rfl, Nat.le_of_ble_eq_true rfl⟩ ⟨Nat.le_of_ble_eq_true rfl, Nat.le_of_ble_eq_true rfl⟩ dX6_longest_30) ?_
      refine lv_istore (lv' := [(5, .int z1), (0, .ref a0), (1, .int v1), (2, .int v2), (3, .int v3), (4, .int v4)]) hx hb dX6_longest_33 hl (by decide) rfl (fun ls hl => ?_)
      refine lv_iload hx hb dX6_longest_35 (lv_at hl 0 rfl) ?_
      refine lv_iload_n hx hb dX6_longest_37 rfl (lv_at hl 4 rfl) ?_
      refine lv_icmp_le (tgt := 46) hx hb dX6_longest_38 (by decide) (fun hc => ?_) (fun hc => ?_)
      · rw [if_pos hc] at hf
        refine lv_iload_n hx hb dX6_longest_46 rfl (lv_at hl 3 rfl) ?_
        exact k_X6_longest_47 E a0 a1 a2 a3 a4 a5 r (f_X6_longest_7 fu) ih v1 v3 v4 z1 v2 x hf hP _ (lv_sub hl [1, 2, 4, 5, 0] rfl)
      · rw [if_neg hc] at hf
        refine lv_iload hx hb dX6_longest_41 (lv_at hl 5 rfl) ?_
        refine lv_goto (tgt := 47) hx hb dX6_longest_43 (by decide) ?_
        exact k_X6_longest_47 E a0 a1 a2 a3 a4 a5 r (f_X6_longest_7 fu) ih v1 v3 v4 z1 v4 x hf hP _ (lv_sub hl [1, 2, 4, 5, 0] rfl)
set_option maxRecDepth 100000 in
set_option maxHeartbeats 4000000 in
theorem mt_X6_longest (l : Launch) (D : va_G) (I J O : ClassId) (a0 a1 a2 a3 a4 a5 : Nat) (p0 : Int32) (x : MdC) (r : Int32) (hf : f_X6_longest p0 x = some r) : mR l yX6_longest cX6_longest 6 (some .int) 4 88 D I J O [.ref a0, .int p0] (wMd I a0 a1 a2 a3 a4 a5 x) (qRi r) := by
  refine mR_open (own := RX6) rfl (by decide +kernel) (Nat.le_of_ble_eq_true rfl) (fun p e s m below meth c ls E hP hl => ?_)
  have hx := E.1
  have hb := E.2.1
  have hl : lv_has ls 6 [(0, .ref a0), (1, .int p0)] := hl
  unfold f_X6_longest at hf
  refine lv_iconst (v := (-1)) hx hb dX6_longest_0 (by decide) ?_
  refine lv_istore_n (lv' := [(2, .int (-1)), (0, .ref a0), (1, .int p0)]) hx hb dX6_longest_1 rfl hl (by decide) rfl (fun ls hl => ?_)
  refine lv_iconst (v := 0) hx hb dX6_longest_2 (by decide) ?_
  refine lv_istore_n (lv' := [(3, .int 0), (2, .int (-1)), (0, .ref a0), (1, .int p0)]) hx hb dX6_longest_3 rfl hl (by decide) rfl (fun ls hl => ?_)
  refine lv_iconst (v := 0) hx hb dX6_longest_4 (by decide) ?_
  refine lv_istore (lv' := [(4, .int 0), (3, .int 0), (2, .int (-1)), (0, .ref a0), (1, .int p0)]) hx hb dX6_longest_5 hl (by decide) rfl (fun ls hl => ?_)
  exact k_X6_longest_7 E a0 a1 a2 a3 a4 a5 r FU p0 (-1) 0 0 x hf hP _ (lv_sub hl [3, 4, 2, 1, 0] rfl)
theorem ok_X6_gap : yV yX6_gap cX6_gap 2 (some .int) 1 := ⟨q1066, q7, q1064, q1065, by decide +kernel, by decide +kernel, by decide +kernel⟩
set_option maxRecDepth 100000 in
set_option maxHeartbeats 4000000 in
theorem k_X6_gap_15 {p : Program} {l : Launch} {e : Env} {s : State} {m : MethodId} {args : Array Value} {below : List Frame} {meth : Method} {c : Code} {D : va_G} {I J O : ClassId} (E : fx p s m args meth c cX6_gap RX6 2 (some .int) D I J O) (a0 a1 a2 a3 a4 a5 : Nat)  {ws0 : va_W} {sz : Nat} (r : Int32) (y0 : MdC) : ∀ (v1 : Int32) (t1 : Int32) (x : MdC), f_X6_gap_15 v1 t1 x = some (r, y0) → ∀ (H : Heap) (locs : List Loc), fy D (va_A ws0 sz) s.heap H locs (wMd I a0 a1 a2 a3 a4 a5 x) → ∀ ls : Array Slot, lv_has ls 2 [(0, .ref a0), (1, .int v1)] → W p l e (rmB 5 113 0 0) s m args below meth c H locs 0 0 (MQ below (qMi D sz ws0 r (fun _ : Unit => wMd I a0 a1 a2 a3 a4 a5 y0)) args s 0 0 (va_A ws0 sz)) (F0 m 15 ls [.int t1, .ref a0]) := by
  have hx := E.1
  have hb := E.2.1
  intro v1 t1 x hf H locs hw ls hl
  unfold f_X6_gap_15 at hf
  obtain ⟨z2, h, hf⟩ := bd_s hf
  refine x_mi0 hw [0, 1, 2, 3, 4, 5] rfl rfl (x_rV E (As := [.int t1]) (rest := []) (mt_X6_refuses l D I J O a0 a1 a2 a3 a4 a5 H.size t1 x z2.1 z2.2 h) blM (x_recv E hw.1 0 6 rfl rfl rfl) (x_pcMQ0 E hw [0, 1, 2, 3, 4, 5] rfl rfl) ok_X6_refuses q867 rfl hl.1 rfl (Nat.le_of_ble_eq_true rfl) ⟨Nat.le_of_ble_eq_true rfl, Nat.le_of_ble_eq_true rfl⟩ ⟨Nat.le_of_ble_eq_true rfl, Nat.le_of_ble_eq_true rfl⟩ dX6_gap_15) (fun _ => rfl) (fun _ H locs hw => ?_)
  have hw : fy D (va_A ws0 sz) s.heap H locs (wMd I a0 a1 a2 a3 a4 a5 z2.2) := hw
  refine lv_if_eq (tgt := 25) hx hb dX6_gap_18 (by decide) (fun hc => ?_) (fun hc => ?_)
  · rw [if_pos hc] at hf
    refine lv_aload_n hx hb dX6_gap_25 rfl (lv_at hl 0 rfl) ?_
    refine lv_iload_n hx hb dX6_gap_26 rfl (lv_at hl 1 rfl) ?_
    obtain ⟨z3, h, hf⟩ := bd_s hf
    refine x_ci (x_rV E (As := [.int v1]) (rest := []) (mt_X6_longest l D I J O a0 a1 a2 a3 a4 a5 v1 z2.2 z3 h) blR (x_recv E hw.1 0 6 rfl rfl rfl) (x_pcR E hw.1) ok_X6_longest q1067 rfl hl.1 rfl (Nat.le_of_ble_eq_true rfl) ⟨Nat.le_of_ble_eq_true rfl, Nat.le_of_ble_eq_true rfl⟩ ⟨Nat.le_of_ble_eq_true rfl, Nat.le_of_ble_eq_true rfl⟩ dX6_gap_27) ?_
    obtain ⟨he0, hr⟩ := Prod.mk.inj (Option.some.inj hf)
    have he1 := hr
    subst he1
    exact x_iM E () hw he0 dX6_gap_30
  · rw [if_neg hc] at hf
    refine lv_iconst (v := 0) hx hb dX6_gap_21 (by decide) ?_
    refine lv_goto (tgt := 30) hx hb dX6_gap_22 (by decide) ?_
    obtain ⟨he0, hr⟩ := Prod.mk.inj (Option.some.inj hf)
    have he1 := hr
    subst he1
    exact x_iM E () hw he0 dX6_gap_30
set_option maxRecDepth 100000 in
set_option maxHeartbeats 4000000 in
theorem mt_X6_gap (l : Launch) (D : va_G) (I J O : ClassId) (a0 a1 a2 a3 a4 a5 : Nat) (sz : Nat) (p0 : Int32) (x : MdC) (r : Int32) (y0 : MdC) (hf : f_X6_gap p0 x = some (r, y0)) : mM l yX6_gap cX6_gap 2 (some .int) 5 113 0 0 D I J O sz [.ref a0, .int p0] (wMd I a0 a1 a2 a3 a4 a5 x) (qMi D sz (wMd I a0 a1 a2 a3 a4 a5 x) r (fun _ : Unit => wMd I a0 a1 a2 a3 a4 a5 y0)) := by
  refine mM_open (own := RX6) rfl (by decide +kernel) (Nat.le_of_ble_eq_true rfl) (fun p e s m below meth c ls E hnm hsz hw hl => ?_)
  obtain ⟨ws0, hws⟩ : ∃ ws0 : va_W, ws0 = wMd I a0 a1 a2 a3 a4 a5 x := ⟨_, rfl⟩
  have hw : fy D (va_A ws0 sz) s.heap s.heap [] (wMd I a0 a1 a2 a3 a4 a5 x) := by rw [hws]; exact hw
  rw [← hws]
  have hx := E.1
  have hb := E.2.1
  have hl : lv_has ls 2 [(0, .ref a0), (1, .int p0)] := hl
  unfold f_X6_gap at hf
  refine lv_aload_n hx hb dX6_gap_0 rfl (lv_at hl 0 rfl) ?_
  refine lv_iload_n hx hb dX6_gap_1 rfl (lv_at hl 1 rfl) ?_
  refine lv_iconst (v := 0) hx hb dX6_gap_2 (by decide) ?_
  refine lv_iconst (v := 1) hx hb dX6_gap_3 (by decide) ?_
  obtain ⟨z1, h, hf⟩ := bd_s hf
  refine x_ci (x_rS E (As := [.int p0, .int 0, .int 1]) (rest := [.ref a0]) (mt_X6_in l D I J O p0 0 1 z1 h) blR (x_pcR E x_none) ok_X6_in q846 rfl hl.1 rfl (Nat.le_of_ble_eq_true rfl) ⟨Nat.le_of_ble_eq_true rfl, Nat.le_of_ble_eq_true rfl⟩ ⟨Nat.le_of_ble_eq_true rfl, Nat.le_of_ble_eq_true rfl⟩ dX6_gap_4) ?_
  refine lv_if_eq (tgt := 14) hx hb dX6_gap_7 (by decide) (fun hc => ?_) (fun hc => ?_)
  · rw [if_pos hc] at hf
    refine lv_iconst (v := 1) hx hb dX6_gap_14 (by decide) ?_
    exact k_X6_gap_15 E a0 a1 a2 a3 a4 a5 r y0 p0 1 x hf _ _ hw _ (lv_sub hl [0, 1] rfl)
  · rw [if_neg hc] at hf
    refine lv_iconst (v := 0) hx hb dX6_gap_10 (by decide) ?_
    refine lv_goto (tgt := 15) hx hb dX6_gap_11 (by decide) ?_
    exact k_X6_gap_15 E a0 a1 a2 a3 a4 a5 r y0 p0 0 x hf _ _ hw _ (lv_sub hl [0, 1] rfl)
theorem ok_X6_fired : yV yX6_fired cX6_fired 5 (some .int) 2 := ⟨q1078, q7, q1077, qs36, by decide +kernel, by decide +kernel, by decide +kernel⟩
set_option maxRecDepth 100000 in
set_option maxHeartbeats 4000000 in
theorem k_X6_fired_18 {p : Program} {l : Launch} {e : Env} {s : State} {m : MethodId} {args : Array Value} {below : List Frame} {meth : Method} {c : Code} {D : va_G} {I J O : ClassId} (E : fx p s m args meth c cX6_fired RX6 5 (some .int) D I J O) (a0 a1 a2 a3 a4 a5 : Nat)  {ws0 : va_W} {sz : Nat} (r : Int32) (y0 : MdC) : ∀ fu : Nat, ∀ (v1 : Int32) (v2 : Int32) (v3 : Int32) (v4 : Int32) (x : MdC), f_X6_fired_18 fu v1 v2 v3 v4 x = some (r, y0) → ∀ (H : Heap) (locs : List Loc), fy D (va_A ws0 sz) s.heap H locs (wMd I a0 a1 a2 a3 a4 a5 x) → ∀ ls : Array Slot, lv_has ls 5 [(0, .ref a0), (1, .int v1), (2, .int v2), (3, .int v3), (4, .int v4)] → W p l e (rmB 9 206 0 0) s m args below meth c H locs 0 0 (MQ below (qMi D sz ws0 r (fun _ : Unit => wMd I a0 a1 a2 a3 a4 a5 y0)) args s 0 0 (va_A ws0 sz)) (F0 m 18 ls []) := by
  have hx := E.1
  have hb := E.2.1
  intro fu
  induction fu with
  | zero =>
    intro v1 v2 v3 v4 x hf H locs hw ls hl
    rw [f_X6_fired_18.eq_1] at hf
    cases hf
  | succ fu ih =>
    intro v1 v2 v3 v4 x hf H locs hw ls hl
    rw [f_X6_fired_18.eq_2] at hf
    refine lv_iload hx hb dX6_fired_18 (lv_at hl 4 rfl) ?_
    refine lv_iload_n hx hb dX6_fired_20 rfl (lv_at hl 1 rfl) ?_
    refine lv_icmp_ge (tgt := 40) hx hb dX6_fired_21 (by decide) (fun hc => ?_) (fun hc => ?_)
    · rw [if_pos hc] at hf
      refine lv_iload_n hx hb dX6_fired_40 rfl (lv_at hl 2 rfl) ?_
      refine lv_if_ne (tgt := 48) hx hb dX6_fired_41 (by decide) (fun hc => ?_) (fun hc => ?_)
      · rw [if_neg hc] at hf
        refine lv_iload_n hx hb dX6_fired_48 rfl (lv_at hl 2 rfl) ?_
        refine lv_iconst (v := 1) hx hb dX6_fired_49 (by decide) ?_
        refine lv_icmp_ne (tgt := 63) hx hb dX6_fired_50 (by decide) (fun hc => ?_) (fun hc => ?_)
        · rw [if_neg hc] at hf
          refine lv_aload_n hx hb dX6_fired_63 rfl (lv_at hl 0 rfl) ?_
          refine x_get E hw.1 0 rfl rfl in6 2 (by decide) q803 rfl rfl dX6_fired_64 ?_
          refine lv_iconst (v := 0) hx hb dX6_fired_67 (by decide) ?_
          obtain ⟨g, hf⟩ := gi_s hf
          refine x_ald E hw.1 2 rfl g dX6_fired_68 ?_
          obtain ⟨he0, hr⟩ := Prod.mk.inj (Option.some.inj hf)
          have he1 := hr
          subst he1
          exact x_iM E () hw he0 dX6_fired_69
        · rw [if_pos hc] at hf
          refine lv_aload_n hx hb dX6_fired_53 rfl (lv_at hl 0 rfl) ?_
          refine x_get E hw.1 0 rfl rfl in6 2 (by decide) q803 rfl rfl dX6_fired_54 ?_
          obtain ⟨z2, h, hf⟩ := bd_s hf
          refine x_ci (x_rS E (As := [.ref a2]) (rest := []) (mt_X6_things l D I J O a2 x.2.2.1 z2 h) blR (x_pcR E (x_pick0 hw.1 [2] rfl)) ok_X6_things q946 rfl hl.1 rfl (Nat.le_of_ble_eq_true rfl) ⟨Nat.le_of_ble_eq_true rfl, Nat.le_of_ble_eq_true rfl⟩ ⟨Nat.le_of_ble_eq_true rfl, Nat.le_of_ble_eq_true rfl⟩ dX6_fired_57) ?_
          refine lv_goto (tgt := 69) hx hb dX6_fired_60 (by decide) ?_
          obtain ⟨he0, hr⟩ := Prod.mk.inj (Option.some.inj hf)
          have he1 := hr
          subst he1
          exact x_iM E () hw he0 dX6_fired_69
      · rw [if_pos hc] at hf
        refine lv_iload_n hx hb dX6_fired_44 rfl (lv_at hl 3 rfl) ?_
        refine lv_goto (tgt := 69) hx hb dX6_fired_45 (by decide) ?_
        obtain ⟨he0, hr⟩ := Prod.mk.inj (Option.some.inj hf)
        have he1 := hr
        subst he1
        exact x_iM E () hw he0 dX6_fired_69
    · rw [if_neg hc] at hf
      refine lv_iload_n hx hb dX6_fired_24 rfl (lv_at hl 3 rfl) ?_
      refine lv_aload_n hx hb dX6_fired_25 rfl (lv_at hl 0 rfl) ?_
      refine x_get E hw.1 0 rfl rfl in6 2 (by decide) q803 rfl rfl dX6_fired_26 ?_
      obtain ⟨z3, h, hf⟩ := bd_s hf
      refine x_mi0 hw [2] rfl rfl (x_rS E (As := [.ref a2]) (rest := [.int v3]) (mt_X6_fires l D I J O a2 H.size x.2.2.1 z3.1 z3.2 h) blM (x_pcMQ0 E hw [2] rfl rfl) ok_X6_fires q943 rfl hl.1 rfl (Nat.le_of_ble_eq_true rfl) ⟨Nat.le_of_ble_eq_true rfl, Nat.le_of_ble_eq_true rfl⟩ ⟨Nat.le_of_ble_eq_true rfl, Nat.le_of_ble_eq_true rfl⟩ dX6_fired_29) (fun _ => rfl) (fun _ H locs hw => ?_)
      have hw : fy D (va_A ws0 sz) s.heap H locs (wMd I a0 a1 a2 a3 a4 a5 (x.1, x.2.1, z3.2, x.2.2.2)) := hw
      refine lv_iadd hx hb dX6_fired_32 ?_
      refine lv_istore_n (lv' := [(3, .int (v3 + z3.1)), (0, .ref a0), (1, .int v1), (2, .int v2), (4, .int v4)]) hx hb dX6_fired_33 rfl hl (by decide) rfl (fun ls hl => ?_)
      refine lv_iinc (v := v4 + 1) (lv' := [(4, .int (v4 + 1)), (3, .int (v3 + z3.1)), (0, .ref a0), (1, .int v1), (2, .int v2)]) hx hb dX6_fired_34 hl (k := 4) rfl rfl (by decide) rfl (fun ls hl => ?_)
      refine lv_goto (tgt := 18) hx hb dX6_fired_37 (by decide) ?_
      exact ih v1 v2 (v3 + z3.1) (v4 + 1) (x.1, x.2.1, z3.2, x.2.2.2) hf _ _ hw _ (lv_sub hl [2, 3, 4, 1, 0] rfl)
set_option maxRecDepth 100000 in
set_option maxHeartbeats 4000000 in
theorem mt_X6_fired (l : Launch) (D : va_G) (I J O : ClassId) (a0 a1 a2 a3 a4 a5 : Nat) (sz : Nat) (p0 : Int32) (p1 : Int32) (x : MdC) (r : Int32) (y0 : MdC) (hf : f_X6_fired p0 p1 x = some (r, y0)) : mM l yX6_fired cX6_fired 5 (some .int) 9 206 0 0 D I J O sz [.ref a0, .int p0, .int p1] (wMd I a0 a1 a2 a3 a4 a5 x) (qMi D sz (wMd I a0 a1 a2 a3 a4 a5 x) r (fun _ : Unit => wMd I a0 a1 a2 a3 a4 a5 y0)) := by
  refine mM_open (own := RX6) rfl (by decide +kernel) (Nat.le_of_ble_eq_true rfl) (fun p e s m below meth c ls E hnm hsz hw hl => ?_)
  obtain ⟨ws0, hws⟩ : ∃ ws0 : va_W, ws0 = wMd I a0 a1 a2 a3 a4 a5 x := ⟨_, rfl⟩
  have hw : fy D (va_A ws0 sz) s.heap s.heap [] (wMd I a0 a1 a2 a3 a4 a5 x) := by rw [hws]; exact hw
  rw [← hws]
  have hx := E.1
  have hb := E.2.1
  have hl : lv_has ls 5 [(0, .ref a0), (1, .int p0), (2, .int p1)] := hl
  unfold f_X6_fired at hf
  refine lv_aload_n hx hb dX6_fired_0 rfl (lv_at hl 0 rfl) ?_
  refine x_get E hw.1 0 rfl rfl in6 1 (by decide) q802 rfl rfl dX6_fired_1 ?_
  refine lv_iconst (v := 0) hx hb dX6_fired_4 (by decide) ?_
  refine lv_aload_n hx hb dX6_fired_5 rfl (lv_at hl 0 rfl) ?_
  refine x_get E hw.1 0 rfl rfl in6 2 (by decide) q803 rfl rfl dX6_fired_6 ?_
  refine lv_iconst (v := 0) hx hb dX6_fired_9 (by decide) ?_
  obtain ⟨z1, h, hf⟩ := bd_s hf
  refine x_mv0 hw [1, 2] rfl rfl (x_rS E (As := [.ref a1, .int 0, .ref a2, .int 0]) (rest := []) (mt_X6_lays l D I J O a1 a2 414 414 s.heap.size 0 0 x.2.1 x.2.2.1 z1 h) blM (x_pcMQ0 E hw [1, 2] rfl rfl) ok_X6_lays q875 rfl hl.1 rfl (Nat.le_of_ble_eq_true rfl) ⟨Nat.le_of_ble_eq_true rfl, Nat.le_of_ble_eq_true rfl⟩ ⟨Nat.le_of_ble_eq_true rfl, Nat.le_of_ble_eq_true rfl⟩ dX6_fired_10) (fun _ => rfl) (fun _ H locs hw => ?_)
  have hw : fy D (va_A ws0 sz) s.heap H locs (wMd I a0 a1 a2 a3 a4 a5 (x.1, x.2.1, z1, x.2.2.2)) := hw
  refine lv_iconst (v := 0) hx hb dX6_fired_13 (by decide) ?_
  refine lv_istore_n (lv' := [(3, .int 0), (0, .ref a0), (1, .int p0), (2, .int p1)]) hx hb dX6_fired_14 rfl hl (by decide) rfl (fun ls hl => ?_)
  refine lv_iconst (v := 0) hx hb dX6_fired_15 (by decide) ?_
  refine lv_istore (lv' := [(4, .int 0), (3, .int 0), (0, .ref a0), (1, .int p0), (2, .int p1)]) hx hb dX6_fired_16 hl (by decide) rfl (fun ls hl => ?_)
  exact k_X6_fired_18 E a0 a1 a2 a3 a4 a5 r y0 FU p0 p1 0 0 (x.1, x.2.1, z1, x.2.2.2) hf _ _ hw _ (lv_sub hl [2, 3, 4, 1, 0] rfl)
theorem ok_X6_ifFired : yV yX6_ifFired cX6_ifFired 3 (some .int) 2 := ⟨q1074, q7, q1072, q1073, by decide +kernel, by decide +kernel, by decide +kernel⟩
set_option maxRecDepth 100000 in
set_option maxHeartbeats 4000000 in
theorem k_X6_ifFired_25 {p : Program} {l : Launch} {e : Env} {s : State} {m : MethodId} {args : Array Value} {below : List Frame} {meth : Method} {c : Code} {D : va_G} {I J O : ClassId} (E : fx p s m args meth c cX6_ifFired RX6 3 (some .int) D I J O) (a0 a1 a2 a3 a4 a5 : Nat)  {ws0 : va_W} {sz : Nat} (r : Int32) (y0 : MdC) : ∀ (v1 : Int32) (v2 : Int32) (t1 : Int32) (x : MdC), f_X6_ifFired_25 v1 v2 t1 x = some (r, y0) → ∀ (H : Heap) (locs : List Loc), fy D (va_A ws0 sz) s.heap H locs (wMd I a0 a1 a2 a3 a4 a5 x) → ∀ ls : Array Slot, lv_has ls 3 [(0, .ref a0), (1, .int v1), (2, .int v2)] → W p l e (rmB 10 230 0 0) s m args below meth c H locs 0 0 (MQ below (qMi D sz ws0 r (fun _ : Unit => wMd I a0 a1 a2 a3 a4 a5 y0)) args s 0 0 (va_A ws0 sz)) (F0 m 25 ls [.int t1, .ref a0]) := by
  have hx := E.1
  have hb := E.2.1
  intro v1 v2 t1 x hf H locs hw ls hl
  unfold f_X6_ifFired_25 at hf
  obtain ⟨z3, h, hf⟩ := bd_s hf
  refine x_mi0 hw [0, 1, 2, 3, 4, 5] rfl rfl (x_rV E (As := [.int t1]) (rest := []) (mt_X6_refuses l D I J O a0 a1 a2 a3 a4 a5 H.size t1 x z3.1 z3.2 h) blM (x_recv E hw.1 0 6 rfl rfl rfl) (x_pcMQ0 E hw [0, 1, 2, 3, 4, 5] rfl rfl) ok_X6_refuses q867 rfl hl.1 rfl (Nat.le_of_ble_eq_true rfl) ⟨Nat.le_of_ble_eq_true rfl, Nat.le_of_ble_eq_true rfl⟩ ⟨Nat.le_of_ble_eq_true rfl, Nat.le_of_ble_eq_true rfl⟩ dX6_ifFired_25) (fun _ => rfl) (fun _ H locs hw => ?_)
  have hw : fy D (va_A ws0 sz) s.heap H locs (wMd I a0 a1 a2 a3 a4 a5 z3.2) := hw
  refine lv_if_eq (tgt := 35) hx hb dX6_ifFired_28 (by decide) (fun hc => ?_) (fun hc => ?_)
  · rw [if_pos hc] at hf
    refine lv_aload_n hx hb dX6_ifFired_35 rfl (lv_at hl 0 rfl) ?_
    refine lv_iload_n hx hb dX6_ifFired_36 rfl (lv_at hl 1 rfl) ?_
    refine lv_iload_n hx hb dX6_ifFired_37 rfl (lv_at hl 2 rfl) ?_
    obtain ⟨z4, h, hf⟩ := bd_s hf
    refine x_mi0 hw [0, 1, 2, 3, 4, 5] rfl rfl (x_rV E (As := [.int v1, .int v2]) (rest := []) (mt_X6_fired l D I J O a0 a1 a2 a3 a4 a5 H.size v1 v2 z3.2 z4.1 z4.2 h) blM (x_recv E hw.1 0 6 rfl rfl rfl) (x_pcMQ0 E hw [0, 1, 2, 3, 4, 5] rfl rfl) ok_X6_fired q1075 rfl hl.1 rfl (Nat.le_of_ble_eq_true rfl) ⟨Nat.le_of_ble_eq_true rfl, Nat.le_of_ble_eq_true rfl⟩ ⟨Nat.le_of_ble_eq_true rfl, Nat.le_of_ble_eq_true rfl⟩ dX6_ifFired_38) (fun _ => rfl) (fun _ H locs hw => ?_)
    have hw : fy D (va_A ws0 sz) s.heap H locs (wMd I a0 a1 a2 a3 a4 a5 z4.2) := hw
    obtain ⟨he0, hr⟩ := Prod.mk.inj (Option.some.inj hf)
    have he1 := hr
    subst he1
    exact x_iM E () hw he0 dX6_ifFired_41
  · rw [if_neg hc] at hf
    refine lv_iconst (v := 0) hx hb dX6_ifFired_31 (by decide) ?_
    refine lv_goto (tgt := 41) hx hb dX6_ifFired_32 (by decide) ?_
    obtain ⟨he0, hr⟩ := Prod.mk.inj (Option.some.inj hf)
    have he1 := hr
    subst he1
    exact x_iM E () hw he0 dX6_ifFired_41
set_option maxRecDepth 100000 in
set_option maxHeartbeats 4000000 in
theorem k_X6_ifFired_24 {p : Program} {l : Launch} {e : Env} {s : State} {m : MethodId} {args : Array Value} {below : List Frame} {meth : Method} {c : Code} {D : va_G} {I J O : ClassId} (E : fx p s m args meth c cX6_ifFired RX6 3 (some .int) D I J O) (a0 a1 a2 a3 a4 a5 : Nat)  {ws0 : va_W} {sz : Nat} (r : Int32) (y0 : MdC) : ∀ (v1 : Int32) (v2 : Int32) (x : MdC), f_X6_ifFired_24 v1 v2 x = some (r, y0) → ∀ (H : Heap) (locs : List Loc), fy D (va_A ws0 sz) s.heap H locs (wMd I a0 a1 a2 a3 a4 a5 x) → ∀ ls : Array Slot, lv_has ls 3 [(0, .ref a0), (1, .int v1), (2, .int v2)] → W p l e (rmB 10 230 0 0) s m args below meth c H locs 0 0 (MQ below (qMi D sz ws0 r (fun _ : Unit => wMd I a0 a1 a2 a3 a4 a5 y0)) args s 0 0 (va_A ws0 sz)) (F0 m 24 ls [.ref a0]) := by
  have hx := E.1
  have hb := E.2.1
  intro v1 v2 x hf H locs hw ls hl
  unfold f_X6_ifFired_24 at hf
  refine lv_iconst (v := 1) hx hb dX6_ifFired_24 (by decide) ?_
  exact k_X6_ifFired_25 E a0 a1 a2 a3 a4 a5 r y0 v1 v2 1 x hf _ _ hw _ (lv_sub hl [0, 1, 2] rfl)
set_option maxRecDepth 100000 in
set_option maxHeartbeats 4000000 in
theorem mt_X6_ifFired (l : Launch) (D : va_G) (I J O : ClassId) (a0 a1 a2 a3 a4 a5 : Nat) (sz : Nat) (p0 : Int32) (p1 : Int32) (x : MdC) (r : Int32) (y0 : MdC) (hf : f_X6_ifFired p0 p1 x = some (r, y0)) : mM l yX6_ifFired cX6_ifFired 3 (some .int) 10 230 0 0 D I J O sz [.ref a0, .int p0, .int p1] (wMd I a0 a1 a2 a3 a4 a5 x) (qMi D sz (wMd I a0 a1 a2 a3 a4 a5 x) r (fun _ : Unit => wMd I a0 a1 a2 a3 a4 a5 y0)) := by
  refine mM_open (own := RX6) rfl (by decide +kernel) (Nat.le_of_ble_eq_true rfl) (fun p e s m below meth c ls E hnm hsz hw hl => ?_)
  obtain ⟨ws0, hws⟩ : ∃ ws0 : va_W, ws0 = wMd I a0 a1 a2 a3 a4 a5 x := ⟨_, rfl⟩
  have hw : fy D (va_A ws0 sz) s.heap s.heap [] (wMd I a0 a1 a2 a3 a4 a5 x) := by rw [hws]; exact hw
  rw [← hws]
  have hx := E.1
  have hb := E.2.1
  have hl : lv_has ls 3 [(0, .ref a0), (1, .int p0), (2, .int p1)] := hl
  unfold f_X6_ifFired at hf
  refine lv_aload_n hx hb dX6_ifFired_0 rfl (lv_at hl 0 rfl) ?_
  refine lv_iload_n hx hb dX6_ifFired_1 rfl (lv_at hl 1 rfl) ?_
  refine lv_iconst (v := 1) hx hb dX6_ifFired_2 (by decide) ?_
  refine lv_bipush (v := 9) hx hb dX6_ifFired_3 (by decide) ?_
  obtain ⟨z1, h, hf⟩ := bd_s hf
  refine x_ci (x_rS E (As := [.int p0, .int 1, .int 9]) (rest := [.ref a0]) (mt_X6_in l D I J O p0 1 9 z1 h) blR (x_pcR E x_none) ok_X6_in q846 rfl hl.1 rfl (Nat.le_of_ble_eq_true rfl) ⟨Nat.le_of_ble_eq_true rfl, Nat.le_of_ble_eq_true rfl⟩ ⟨Nat.le_of_ble_eq_true rfl, Nat.le_of_ble_eq_true rfl⟩ dX6_ifFired_5) ?_
  refine lv_if_eq (tgt := 24) hx hb dX6_ifFired_8 (by decide) (fun hc => ?_) (fun hc => ?_)
  · rw [if_pos hc] at hf
    exact k_X6_ifFired_24 E a0 a1 a2 a3 a4 a5 r y0 p0 p1 x hf _ _ hw _ (lv_sub hl [0, 1, 2] rfl)
  · rw [if_neg hc] at hf
    refine lv_iload_n hx hb dX6_ifFired_11 rfl (lv_at hl 2 rfl) ?_
    refine lv_iconst (v := 0) hx hb dX6_ifFired_12 (by decide) ?_
    refine lv_iconst (v := 2) hx hb dX6_ifFired_13 (by decide) ?_
    obtain ⟨z2, h, hf⟩ := bd_s hf
    refine x_ci (x_rS E (As := [.int p1, .int 0, .int 2]) (rest := [.ref a0]) (mt_X6_in l D I J O p1 0 2 z2 h) blR (x_pcR E x_none) ok_X6_in q846 rfl hl.1 rfl (Nat.le_of_ble_eq_true rfl) ⟨Nat.le_of_ble_eq_true rfl, Nat.le_of_ble_eq_true rfl⟩ ⟨Nat.le_of_ble_eq_true rfl, Nat.le_of_ble_eq_true rfl⟩ dX6_ifFired_14) ?_
    refine lv_if_eq (tgt := 24) hx hb dX6_ifFired_17 (by decide) (fun hc => ?_) (fun hc => ?_)
    · rw [if_pos hc] at hf
      exact k_X6_ifFired_24 E a0 a1 a2 a3 a4 a5 r y0 p0 p1 x hf _ _ hw _ (lv_sub hl [0, 1, 2] rfl)
    · rw [if_neg hc] at hf
      refine lv_iconst (v := 0) hx hb dX6_ifFired_20 (by decide) ?_
      refine lv_goto (tgt := 25) hx hb dX6_ifFired_21 (by decide) ?_
      exact k_X6_ifFired_25 E a0 a1 a2 a3 a4 a5 r y0 p0 p1 0 x hf _ _ hw _ (lv_sub hl [0, 1, 2] rfl)
theorem ok_X6_roomFor : yV yX6_roomFor cX6_roomFor 6 (some .int) 2 := ⟨q1086, q7, q1085, qs37, by decide +kernel, by decide +kernel, by decide +kernel⟩
set_option maxRecDepth 100000 in
set_option maxHeartbeats 4000000 in
theorem k_X6_roomFor_23 {p : Program} {l : Launch} {e : Env} {s : State} {m : MethodId} {args : Array Value} {below : List Frame} {meth : Method} {c : Code} {D : va_G} {I J O : ClassId} (E : fx p s m args meth c cX6_roomFor RX6 6 (some .int) D I J O) (a0 a1 a2 a3 a4 a5 : Nat)  (r : Int32) : ∀ fu : Nat, ∀ (v1 : Int32) (v3 : Int32) (v4 : Int32) (x : MdC), f_X6_roomFor_23 fu v1 v3 v4 x = some r → va_P D vwCl (wMd I a0 a1 a2 a3 a4 a5 x) s.heap → ∀ ls : Array Slot, lv_has ls 6 [(0, .ref a0), (1, .int v1), (3, .int v3), (4, .int v4)] → W p l e (rmB 4 88 0 0) s m args below meth c s.heap [] 0 0 (MQ below (qRi r) args s 0 0 (fun _ => False)) (F0 m 23 ls []) := by
  have hx := E.1
  have hb := E.2.1
  intro fu
  induction fu with
  | zero =>
    intro v1 v3 v4 x hf hP ls hl
    rw [f_X6_roomFor_23.eq_1] at hf
    cases hf
  | succ fu ih =>
    intro v1 v3 v4 x hf hP ls hl
    rw [f_X6_roomFor_23.eq_2] at hf
    refine lv_iload hx hb dX6_roomFor_23 (lv_at hl 3 rfl) ?_
    refine lv_aload_n hx hb dX6_roomFor_25 rfl (lv_at hl 0 rfl) ?_
    refine x_get E hP 0 rfl rfl in6 1 (by decide) q802 rfl rfl dX6_roomFor_26 ?_
    refine lv_iconst (v := 0) hx hb dX6_roomFor_29 (by decide) ?_
    obtain ⟨g, hf⟩ := gi_s hf
    refine x_ald E hP 1 rfl g dX6_roomFor_30 ?_
    refine lv_icmp_ge (tgt := 70) hx hb dX6_roomFor_31 (by decide) (fun hc => ?_) (fun hc => ?_)
    · rw [if_pos hc] at hf
      refine lv_iload_n hx hb dX6_roomFor_70 rfl (lv_at hl 2 rfl) ?_
      exact x_iR E (Option.some.inj hf) dX6_roomFor_71
    · rw [if_neg hc] at hf
      refine lv_aload_n hx hb dX6_roomFor_34 rfl (lv_at hl 0 rfl) ?_
      refine x_get E hP 0 rfl rfl in6 1 (by decide) q802 rfl rfl dX6_roomFor_35 ?_
      refine lv_iload hx hb dX6_roomFor_38 (lv_at hl 3 rfl) ?_
      refine lv_aload_n hx hb dX6_roomFor_40 rfl (lv_at hl 0 rfl) ?_
      refine x_get E hP 0 rfl rfl in6 1 (by decide) q802 rfl rfl dX6_roomFor_41 ?_
      refine lv_iconst (v := 0) hx hb dX6_roomFor_44 (by decide) ?_
      obtain ⟨g, hf⟩ := gi_s hf
      refine x_ald E hP 1 rfl g dX6_roomFor_45 ?_
      obtain ⟨z2, h, hf⟩ := bd_s hf
      refine x_ci (x_rS E (As := [.ref a1, .int v4, .int (x.2.1 (0 : Int32).toNatClampNeg)]) (rest := []) (mt_X6_freeFrom l D I J O a1 v4 (x.2.1 (0 : Int32).toNatClampNeg) x.2.1 z2 h) blR (x_pcR E (x_pick0 hP [1] rfl)) ok_X6_freeFrom q855 rfl hl.1 rfl (Nat.le_of_ble_eq_true rfl) ⟨Nat.le_of_ble_eq_true rfl, Nat.le_of_ble_eq_true rfl⟩ ⟨Nat.le_of_ble_eq_true rfl, Nat.le_of_ble_eq_true rfl⟩ dX6_roomFor_46) ?_
      refine lv_istore (lv' := [(5, .int z2), (0, .ref a0), (1, .int v1), (3, .int v3), (4, .int v4)]) hx hb dX6_roomFor_49 hl (by decide) rfl (fun ls hl => ?_)
      refine lv_iload_n hx hb dX6_roomFor_51 rfl (lv_at hl 3 rfl) ?_
      refine lv_iload hx hb dX6_roomFor_52 (lv_at hl 0 rfl) ?_
      refine lv_iload_n hx hb dX6_roomFor_54 rfl (lv_at hl 2 rfl) ?_
      obtain ⟨g, hf⟩ := gd_s hf
      refine lv_idiv hx hb dX6_roomFor_55 g ?_
      refine lv_iadd hx hb dX6_roomFor_56 ?_
      refine lv_istore_n (lv' := [(3, .int (v3 + (z2 / v1))), (5, .int z2), (0, .ref a0), (1, .int v1), (4, .int v4)]) hx hb dX6_roomFor_57 rfl hl (by decide) rfl (fun ls hl => ?_)
      refine lv_iload hx hb dX6_roomFor_58 (lv_at hl 4 rfl) ?_
      refine lv_iload hx hb dX6_roomFor_60 (lv_at hl 1 rfl) ?_
      refine lv_iconst (v := 1) hx hb dX6_roomFor_62 (by decide) ?_
      refine lv_iadd hx hb dX6_roomFor_63 ?_
      refine lv_iadd hx hb dX6_roomFor_64 ?_
      refine lv_istore (lv' := [(4, .int (v4 + (z2 + 1))), (3, .int (v3 + (z2 / v1))), (5, .int z2), (0, .ref a0), (1, .int v1)]) hx hb dX6_roomFor_65 hl (by decide) rfl (fun ls hl => ?_)
      refine lv_goto (tgt := 23) hx hb dX6_roomFor_67 (by decide) ?_
      exact ih v1 (v3 + (z2 / v1)) (v4 + (z2 + 1)) x hf hP _ (lv_sub hl [3, 4, 1, 0] rfl)
set_option maxRecDepth 100000 in
set_option maxHeartbeats 4000000 in
theorem mt_X6_roomFor (l : Launch) (D : va_G) (I J O : ClassId) (a0 a1 a2 a3 a4 a5 : Nat) (p0 : Int32) (p1 : Int32) (x : MdC) (r : Int32) (hf : f_X6_roomFor p0 p1 x = some r) : mR l yX6_roomFor cX6_roomFor 6 (some .int) 4 88 D I J O [.ref a0, .int p0, .int p1] (wMd I a0 a1 a2 a3 a4 a5 x) (qRi r) := by
  refine mR_open (own := RX6) rfl (by decide +kernel) (Nat.le_of_ble_eq_true rfl) (fun p e s m below meth c ls E hP hl => ?_)
  have hx := E.1
  have hb := E.2.1
  have hl : lv_has ls 6 [(0, .ref a0), (1, .int p0), (2, .int p1)] := hl
  unfold f_X6_roomFor at hf
  refine lv_iload_n hx hb dX6_roomFor_0 rfl (lv_at hl 2 rfl) ?_
  refine lv_if_eq (tgt := 18) hx hb dX6_roomFor_1 (by decide) (fun hc => ?_) (fun hc => ?_)
  · rw [if_pos hc] at hf
    refine lv_iconst (v := 0) hx hb dX6_roomFor_18 (by decide) ?_
    refine lv_istore_n (lv' := [(3, .int 0), (0, .ref a0), (1, .int p0), (2, .int p1)]) hx hb dX6_roomFor_19 rfl hl (by decide) rfl (fun ls hl => ?_)
    refine lv_iconst (v := 0) hx hb dX6_roomFor_20 (by decide) ?_
    refine lv_istore (lv' := [(4, .int 0), (3, .int 0), (0, .ref a0), (1, .int p0), (2, .int p1)]) hx hb dX6_roomFor_21 hl (by decide) rfl (fun ls hl => ?_)
    exact k_X6_roomFor_23 E a0 a1 a2 a3 a4 a5 r FU p0 0 0 x hf hP _ (lv_sub hl [2, 3, 1, 0] rfl)
  · rw [if_neg hc] at hf
    refine lv_aload_n hx hb dX6_roomFor_4 rfl (lv_at hl 0 rfl) ?_
    refine x_get E hP 0 rfl rfl in6 1 (by decide) q802 rfl rfl dX6_roomFor_5 ?_
    refine lv_iconst (v := 0) hx hb dX6_roomFor_8 (by decide) ?_
    obtain ⟨g, hf⟩ := gi_s hf
    refine x_ald E hP 1 rfl g dX6_roomFor_9 ?_
    refine lv_aload_n hx hb dX6_roomFor_10 rfl (lv_at hl 0 rfl) ?_
    obtain ⟨z1, h, hf⟩ := bd_s hf
    refine x_ci (x_rV E (As := []) (rest := [.int (x.2.1 (0 : Int32).toNatClampNeg)]) (mt_X6_used l D I J O a0 a1 a2 a3 a4 a5 x z1 h) blR (x_recv E hP 0 6 rfl rfl rfl) (x_pcR E hP) ok_X6_used q1047 rfl hl.1 rfl (Nat.le_of_ble_eq_true rfl) ⟨Nat.le_of_ble_eq_true rfl, Nat.le_of_ble_eq_true rfl⟩ ⟨Nat.le_of_ble_eq_true rfl, Nat.le_of_ble_eq_true rfl⟩ dX6_roomFor_11) ?_
    refine lv_isub hx hb dX6_roomFor_14 ?_
    refine lv_iload_n hx hb dX6_roomFor_15 rfl (lv_at hl 1 rfl) ?_
    obtain ⟨g, hf⟩ := gd_s hf
    refine lv_idiv hx hb dX6_roomFor_16 g ?_
    exact x_iR E (Option.some.inj hf) dX6_roomFor_17
theorem ok_X6_room : yV yX6_room cX6_room 3 (some .int) 2 := ⟨q1082, q7, q1080, q1081, by decide +kernel, by decide +kernel, by decide +kernel⟩
set_option maxRecDepth 100000 in
set_option maxHeartbeats 4000000 in
theorem k_X6_room_15 {p : Program} {l : Launch} {e : Env} {s : State} {m : MethodId} {args : Array Value} {below : List Frame} {meth : Method} {c : Code} {D : va_G} {I J O : ClassId} (E : fx p s m args meth c cX6_room RX6 3 (some .int) D I J O) (a0 a1 a2 a3 a4 a5 : Nat)  {ws0 : va_W} {sz : Nat} (r : Int32) (y0 : MdC) : ∀ (v1 : Int32) (v2 : Int32) (t1 : Int32) (x : MdC), f_X6_room_15 v1 v2 t1 x = some (r, y0) → ∀ (H : Heap) (locs : List Loc), fy D (va_A ws0 sz) s.heap H locs (wMd I a0 a1 a2 a3 a4 a5 x) → ∀ ls : Array Slot, lv_has ls 3 [(0, .ref a0), (1, .int v1), (2, .int v2)] → W p l e (rmB 5 113 0 0) s m args below meth c H locs 0 0 (MQ below (qMi D sz ws0 r (fun _ : Unit => wMd I a0 a1 a2 a3 a4 a5 y0)) args s 0 0 (va_A ws0 sz)) (F0 m 15 ls [.int t1, .ref a0]) := by
  have hx := E.1
  have hb := E.2.1
  intro v1 v2 t1 x hf H locs hw ls hl
  unfold f_X6_room_15 at hf
  obtain ⟨z2, h, hf⟩ := bd_s hf
  refine x_mi0 hw [0, 1, 2, 3, 4, 5] rfl rfl (x_rV E (As := [.int t1]) (rest := []) (mt_X6_refuses l D I J O a0 a1 a2 a3 a4 a5 H.size t1 x z2.1 z2.2 h) blM (x_recv E hw.1 0 6 rfl rfl rfl) (x_pcMQ0 E hw [0, 1, 2, 3, 4, 5] rfl rfl) ok_X6_refuses q867 rfl hl.1 rfl (Nat.le_of_ble_eq_true rfl) ⟨Nat.le_of_ble_eq_true rfl, Nat.le_of_ble_eq_true rfl⟩ ⟨Nat.le_of_ble_eq_true rfl, Nat.le_of_ble_eq_true rfl⟩ dX6_room_15) (fun _ => rfl) (fun _ H locs hw => ?_)
  have hw : fy D (va_A ws0 sz) s.heap H locs (wMd I a0 a1 a2 a3 a4 a5 z2.2) := hw
  refine lv_if_eq (tgt := 25) hx hb dX6_room_18 (by decide) (fun hc => ?_) (fun hc => ?_)
  · rw [if_pos hc] at hf
    refine lv_aload_n hx hb dX6_room_25 rfl (lv_at hl 0 rfl) ?_
    refine lv_iload_n hx hb dX6_room_26 rfl (lv_at hl 1 rfl) ?_
    refine lv_iload_n hx hb dX6_room_27 rfl (lv_at hl 2 rfl) ?_
    obtain ⟨z3, h, hf⟩ := bd_s hf
    refine x_ci (x_rV E (As := [.int v1, .int v2]) (rest := []) (mt_X6_roomFor l D I J O a0 a1 a2 a3 a4 a5 v1 v2 z2.2 z3 h) blR (x_recv E hw.1 0 6 rfl rfl rfl) (x_pcR E hw.1) ok_X6_roomFor q1083 rfl hl.1 rfl (Nat.le_of_ble_eq_true rfl) ⟨Nat.le_of_ble_eq_true rfl, Nat.le_of_ble_eq_true rfl⟩ ⟨Nat.le_of_ble_eq_true rfl, Nat.le_of_ble_eq_true rfl⟩ dX6_room_28) ?_
    obtain ⟨he0, hr⟩ := Prod.mk.inj (Option.some.inj hf)
    have he1 := hr
    subst he1
    exact x_iM E () hw he0 dX6_room_31
  · rw [if_neg hc] at hf
    refine lv_iconst (v := 0) hx hb dX6_room_21 (by decide) ?_
    refine lv_goto (tgt := 31) hx hb dX6_room_22 (by decide) ?_
    obtain ⟨he0, hr⟩ := Prod.mk.inj (Option.some.inj hf)
    have he1 := hr
    subst he1
    exact x_iM E () hw he0 dX6_room_31
set_option maxRecDepth 100000 in
set_option maxHeartbeats 4000000 in
theorem mt_X6_room (l : Launch) (D : va_G) (I J O : ClassId) (a0 a1 a2 a3 a4 a5 : Nat) (sz : Nat) (p0 : Int32) (p1 : Int32) (x : MdC) (r : Int32) (y0 : MdC) (hf : f_X6_room p0 p1 x = some (r, y0)) : mM l yX6_room cX6_room 3 (some .int) 5 113 0 0 D I J O sz [.ref a0, .int p0, .int p1] (wMd I a0 a1 a2 a3 a4 a5 x) (qMi D sz (wMd I a0 a1 a2 a3 a4 a5 x) r (fun _ : Unit => wMd I a0 a1 a2 a3 a4 a5 y0)) := by
  refine mM_open (own := RX6) rfl (by decide +kernel) (Nat.le_of_ble_eq_true rfl) (fun p e s m below meth c ls E hnm hsz hw hl => ?_)
  obtain ⟨ws0, hws⟩ : ∃ ws0 : va_W, ws0 = wMd I a0 a1 a2 a3 a4 a5 x := ⟨_, rfl⟩
  have hw : fy D (va_A ws0 sz) s.heap s.heap [] (wMd I a0 a1 a2 a3 a4 a5 x) := by rw [hws]; exact hw
  rw [← hws]
  have hx := E.1
  have hb := E.2.1
  have hl : lv_has ls 3 [(0, .ref a0), (1, .int p0), (2, .int p1)] := hl
  unfold f_X6_room at hf
  refine lv_aload_n hx hb dX6_room_0 rfl (lv_at hl 0 rfl) ?_
  refine lv_iload_n hx hb dX6_room_1 rfl (lv_at hl 1 rfl) ?_
  refine lv_iconst (v := 1) hx hb dX6_room_2 (by decide) ?_
  refine lv_iconst (v := 4) hx hb dX6_room_3 (by decide) ?_
  obtain ⟨z1, h, hf⟩ := bd_s hf
  refine x_ci (x_rS E (As := [.int p0, .int 1, .int 4]) (rest := [.ref a0]) (mt_X6_in l D I J O p0 1 4 z1 h) blR (x_pcR E x_none) ok_X6_in q846 rfl hl.1 rfl (Nat.le_of_ble_eq_true rfl) ⟨Nat.le_of_ble_eq_true rfl, Nat.le_of_ble_eq_true rfl⟩ ⟨Nat.le_of_ble_eq_true rfl, Nat.le_of_ble_eq_true rfl⟩ dX6_room_4) ?_
  refine lv_if_eq (tgt := 14) hx hb dX6_room_7 (by decide) (fun hc => ?_) (fun hc => ?_)
  · rw [if_pos hc] at hf
    refine lv_iconst (v := 1) hx hb dX6_room_14 (by decide) ?_
    exact k_X6_room_15 E a0 a1 a2 a3 a4 a5 r y0 p0 p1 1 x hf _ _ hw _ (lv_sub hl [0, 1, 2] rfl)
  · rw [if_neg hc] at hf
    refine lv_iconst (v := 0) hx hb dX6_room_10 (by decide) ?_
    refine lv_goto (tgt := 15) hx hb dX6_room_11 (by decide) ?_
    exact k_X6_room_15 E a0 a1 a2 a3 a4 a5 r y0 p0 p1 0 x hf _ _ hw _ (lv_sub hl [0, 1, 2] rfl)
theorem ok_X6_full : yV yX6_full cX6_full 3 (some .double) 0 := ⟨q1094, q7, q1093, qs38, by decide +kernel, by decide +kernel, by decide +kernel⟩
set_option maxRecDepth 100000 in
set_option maxHeartbeats 4000000 in
theorem mt_X6_full (l : Launch) (D : va_G) (I J O : ClassId) (a0 a1 a2 a3 a4 a5 : Nat)  (x : MdC) (r : UInt64) (hf : f_X6_full x = some r) : mR l yX6_full cX6_full 3 (some .double) 2 44 D I J O [.ref a0] (wMd I a0 a1 a2 a3 a4 a5 x) (qRd r) := by
  refine mR_open (own := RX6) rfl (by decide +kernel) (Nat.le_of_ble_eq_true rfl) (fun p e s m below meth c ls E hP hl => ?_)
  have hx := E.1
  have hb := E.2.1
  have hl : lv_has ls 3 [(0, .ref a0)] := hl
  unfold f_X6_full at hf
  refine lv_aload_n hx hb dX6_full_0 rfl (lv_at hl 0 rfl) ?_
  obtain ⟨z1, h, hf⟩ := bd_s hf
  refine x_ci (x_rV E (As := []) (rest := []) (mt_X6_used l D I J O a0 a1 a2 a3 a4 a5 x z1 h) blR (x_recv E hP 0 6 rfl rfl rfl) (x_pcR E hP) ok_X6_used q1047 rfl hl.1 rfl (Nat.le_of_ble_eq_true rfl) ⟨Nat.le_of_ble_eq_true rfl, Nat.le_of_ble_eq_true rfl⟩ ⟨Nat.le_of_ble_eq_true rfl, Nat.le_of_ble_eq_true rfl⟩ dX6_full_1) ?_
  refine lv_i2d hx hb dX6_full_4 ?_
  refine lv_dstore_n (lv' := [(1, .double (FP.i2d z1)), (0, .ref a0)]) hx hb dX6_full_5 rfl hl (by decide) rfl (fun ls hl => ?_)
  refine lv_dload_n hx hb dX6_full_6 rfl (lv_at hl 0 rfl) ?_
  refine lv_aload_n hx hb dX6_full_7 rfl (lv_at hl 1 rfl) ?_
  refine x_get E hP 0 rfl rfl in6 1 (by decide) q802 rfl rfl dX6_full_8 ?_
  refine lv_iconst (v := 0) hx hb dX6_full_11 (by decide) ?_
  obtain ⟨g, hf⟩ := gi_s hf
  refine x_ald E hP 1 rfl g dX6_full_12 ?_
  refine lv_i2d hx hb dX6_full_13 ?_
  obtain ⟨g, hf⟩ := gf_s hf
  refine lv_ddiv hx hb dX6_full_14 g ?_
  exact x_dR E (Option.some.inj hf) dX6_full_15
theorem ok_X6_fullness : yV yX6_fullness cX6_fullness 1 (some .double) 0 := ⟨q1090, q7, q1088, q1089, by decide +kernel, by decide +kernel, by decide +kernel⟩
set_option maxRecDepth 100000 in
set_option maxHeartbeats 4000000 in
theorem mt_X6_fullness (l : Launch) (D : va_G) (I J O : ClassId) (a0 a1 a2 a3 a4 a5 : Nat) (sz : Nat)  (x : MdC) (r : UInt64) (y0 : MdC) (hf : f_X6_fullness x = some (r, y0)) : mM l yX6_fullness cX6_fullness 1 (some .double) 3 66 0 0 D I J O sz [.ref a0] (wMd I a0 a1 a2 a3 a4 a5 x) (qMd D sz (wMd I a0 a1 a2 a3 a4 a5 x) r (fun _ : Unit => wMd I a0 a1 a2 a3 a4 a5 y0)) := by
  refine mM_open (own := RX6) rfl (by decide +kernel) (Nat.le_of_ble_eq_true rfl) (fun p e s m below meth c ls E hnm hsz hw hl => ?_)
  obtain ⟨ws0, hws⟩ : ∃ ws0 : va_W, ws0 = wMd I a0 a1 a2 a3 a4 a5 x := ⟨_, rfl⟩
  have hw : fy D (va_A ws0 sz) s.heap s.heap [] (wMd I a0 a1 a2 a3 a4 a5 x) := by rw [hws]; exact hw
  rw [← hws]
  have hx := E.1
  have hb := E.2.1
  have hl : lv_has ls 1 [(0, .ref a0)] := hl
  unfold f_X6_fullness at hf
  refine lv_aload_n hx hb dX6_fullness_0 rfl (lv_at hl 0 rfl) ?_
  refine lv_iconst (v := 0) hx hb dX6_fullness_1 (by decide) ?_
  refine x_put E hw 0 rfl rfl in6 tyX6_ok nmX6 0 (by decide) q801 rfl rfl rfl rfl (Nat.le_of_ble_eq_true rfl) dX6_fullness_2 (fun H locs hw => ?_)
  have hw : fy D (va_A ws0 sz) s.heap H locs (wMd I a0 a1 a2 a3 a4 a5 (0, x.2)) := hw
  refine lv_aload_n hx hb dX6_fullness_5 rfl (lv_at hl 0 rfl) ?_
  obtain ⟨z1, h, hf⟩ := bd_s hf
  refine x_cd (x_rV E (As := []) (rest := []) (mt_X6_full l D I J O a0 a1 a2 a3 a4 a5 (0, x.2) z1 h) blR (x_recv E hw.1 0 6 rfl rfl rfl) (x_pcR E hw.1) ok_X6_full q1091 rfl hl.1 rfl (Nat.le_of_ble_eq_true rfl) ⟨Nat.le_of_ble_eq_true rfl, Nat.le_of_ble_eq_true rfl⟩ ⟨Nat.le_of_ble_eq_true rfl, Nat.le_of_ble_eq_true rfl⟩ dX6_fullness_6) ?_
  obtain ⟨he0, hr⟩ := Prod.mk.inj (Option.some.inj hf)
  have he1 := hr
  subst he1
  exact x_dM E () hw he0 dX6_fullness_9
theorem ok_X6_mixes : yV yX6_mixes cX6_mixes 3 none 1 := ⟨q1103, q7, q1102, qs39, by decide +kernel, by decide +kernel, by decide +kernel⟩
set_option maxRecDepth 100000 in
set_option maxHeartbeats 4000000 in
theorem mt_X6_mixes (l : Launch) (D : va_G) (I J O : ClassId) (a0 a1 a2 a3 a4 a5 : Nat) (sz : Nat) (p0 : Int64) (x : MdC) (y0 : MdC) (hf : f_X6_mixes p0 x = some y0) : mM l yX6_mixes cX6_mixes 3 none 0 0 0 0 D I J O sz [.ref a0, .long p0] (wMd I a0 a1 a2 a3 a4 a5 x) (qMv D sz (wMd I a0 a1 a2 a3 a4 a5 x) (fun _ : Unit => wMd I a0 a1 a2 a3 a4 a5 y0)) := by
  refine mM_open (own := RX6) rfl (by decide +kernel) (Nat.le_of_ble_eq_true rfl) (fun p e s m below meth c ls E hnm hsz hw hl => ?_)
  obtain ⟨ws0, hws⟩ : ∃ ws0 : va_W, ws0 = wMd I a0 a1 a2 a3 a4 a5 x := ⟨_, rfl⟩
  have hw : fy D (va_A ws0 sz) s.heap s.heap [] (wMd I a0 a1 a2 a3 a4 a5 x) := by rw [hws]; exact hw
  rw [← hws]
  have hx := E.1
  have hb := E.2.1
  have hl : lv_has ls 3 [(0, .ref a0), (1, .long p0)] := hl
  unfold f_X6_mixes at hf
  refine lv_aload_n hx hb dX6_mixes_0 rfl (lv_at hl 0 rfl) ?_
  refine lv_ldc2 (v := 31) hx hb E.2.2.2.1 (E.2.2.2.2.1 _ q1104) dX6_mixes_1 ?_
  refine lv_aload_n hx hb dX6_mixes_4 rfl (lv_at hl 0 rfl) ?_
  refine x_get E hw.1 0 rfl rfl in6 10 (by decide) q811 rfl rfl dX6_mixes_5 ?_
  refine lv_lmul hx hb dX6_mixes_8 ?_
  refine lv_lload_n hx hb dX6_mixes_9 rfl (lv_at hl 1 rfl) ?_
  refine lv_ladd hx hb dX6_mixes_10 ?_
  refine x_put E hw 0 rfl rfl in6 tyX6_ok nmX6 10 (by decide) q811 rfl rfl rfl rfl (Nat.le_of_ble_eq_true rfl) dX6_mixes_11 (fun H locs hw => ?_)
  have hw : fy D (va_A ws0 sz) s.heap H locs (wMd I a0 a1 a2 a3 a4 a5 (x.1, x.2.1, x.2.2.1, x.2.2.2.1, x.2.2.2.2.1, x.2.2.2.2.2.1, x.2.2.2.2.2.2.1, x.2.2.2.2.2.2.2.1, x.2.2.2.2.2.2.2.2.1, x.2.2.2.2.2.2.2.2.2.1, (31 * x.2.2.2.2.2.2.2.2.2.2) + p0)) := hw
  have he0 := (Option.some.inj hf)
  subst he0
  exact x_vM E () hw dX6_mixes_14
theorem ok_X6_mixesRow : yV yX6_mixesRow cX6_mixesRow 3 none 0 := ⟨q1108, q7, q1107, qs40, by decide +kernel, by decide +kernel, by decide +kernel⟩
set_option maxRecDepth 100000 in
set_option maxHeartbeats 4000000 in
theorem k_X6_mixesRow_38 {p : Program} {l : Launch} {e : Env} {s : State} {m : MethodId} {args : Array Value} {below : List Frame} {meth : Method} {c : Code} {D : va_G} {I J O : ClassId} (E : fx p s m args meth c cX6_mixesRow RX6 3 none D I J O) (a0 a1 a2 a3 a4 a5 : Nat)  {ws0 : va_W} {sz : Nat} (y0 : MdC) (k2 : Int32 → MdC → Option (MdC)) (hk2 : ∀ (v1 : Int32) (x : MdC), k2 v1 x = some y0 → ∀ (H : Heap) (locs : List Loc), fy D (va_A ws0 sz) s.heap H locs (wMd I a0 a1 a2 a3 a4 a5 x) → ∀ ls : Array Slot, lv_has ls 3 [(0, .ref a0), (1, .int v1)] → W p l e (rmB 5 110 0 0) s m args below meth c H locs 0 0 (MQ below (qMv D sz ws0 (fun _ : Unit => wMd I a0 a1 a2 a3 a4 a5 y0)) args s 0 0 (va_A ws0 sz)) (F0 m 2 ls [])) : ∀ fu : Nat, ∀ (v1 : Int32) (v2 : Int32) (x : MdC), f_X6_mixesRow_38 k2 fu v1 v2 x = some y0 → ∀ (H : Heap) (locs : List Loc), fy D (va_A ws0 sz) s.heap H locs (wMd I a0 a1 a2 a3 a4 a5 x) → ∀ ls : Array Slot, lv_has ls 3 [(0, .ref a0), (1, .int v1), (2, .int v2)] → W p l e (rmB 5 110 0 0) s m args below meth c H locs 0 0 (MQ below (qMv D sz ws0 (fun _ : Unit => wMd I a0 a1 a2 a3 a4 a5 y0)) args s 0 0 (va_A ws0 sz)) (F0 m 38 ls []) := by
  have hx := E.1
  have hb := E.2.1
  intro fu
  induction fu with
  | zero =>
    intro v1 v2 x hf H locs hw ls hl
    rw [f_X6_mixesRow_38.eq_1] at hf
    cases hf
  | succ fu ih =>
    intro v1 v2 x hf H locs hw ls hl
    rw [f_X6_mixesRow_38.eq_2] at hf
    refine lv_iload_n hx hb dX6_mixesRow_38 rfl (lv_at hl 2 rfl) ?_
    refine lv_bipush (v := 6) hx hb dX6_mixesRow_39 (by decide) ?_
    refine lv_icmp_ge (tgt := 61) hx hb dX6_mixesRow_41 (by decide) (fun hc => ?_) (fun hc => ?_)
    · rw [if_pos hc] at hf
      refine lv_iinc (v := v1 + 1) (lv' := [(1, .int (v1 + 1)), (0, .ref a0), (2, .int v2)]) hx hb dX6_mixesRow_61 hl (k := 1) rfl rfl (by decide) rfl (fun ls hl => ?_)
      refine lv_goto (tgt := 2) hx hb dX6_mixesRow_64 (by decide) ?_
      exact hk2 (v1 + 1) x hf _ _ hw _ (lv_sub hl [1, 0] rfl)
    · rw [if_neg hc] at hf
      refine lv_aload_n hx hb dX6_mixesRow_44 rfl (lv_at hl 0 rfl) ?_
      refine lv_aload_n hx hb dX6_mixesRow_45 rfl (lv_at hl 0 rfl) ?_
      refine lv_iload_n hx hb dX6_mixesRow_46 rfl (lv_at hl 1 rfl) ?_
      refine lv_iload_n hx hb dX6_mixesRow_47 rfl (lv_at hl 2 rfl) ?_
      obtain ⟨z4, h, hf⟩ := bd_s hf
      refine x_ci (x_rV E (As := [.int v1, .int v2]) (rest := [.ref a0]) (mt_X6_ofThing l D I J O a0 a1 a2 a3 a4 a5 v1 v2 x z4 h) blR (x_recv E hw.1 0 6 rfl rfl rfl) (x_pcR E hw.1) ok_X6_ofThing q1007 rfl hl.1 rfl (Nat.le_of_ble_eq_true rfl) ⟨Nat.le_of_ble_eq_true rfl, Nat.le_of_ble_eq_true rfl⟩ ⟨Nat.le_of_ble_eq_true rfl, Nat.le_of_ble_eq_true rfl⟩ dX6_mixesRow_48) ?_
      refine lv_i2l (v := z4.toInt64) hx hb dX6_mixesRow_51 rfl ?_
      obtain ⟨z5, h, hf⟩ := bd_s hf
      refine x_mv0 hw [0, 1, 2, 3, 4, 5] rfl rfl (x_rV E (As := [.long z4.toInt64]) (rest := []) (mt_X6_mixes l D I J O a0 a1 a2 a3 a4 a5 H.size z4.toInt64 x z5 h) blM (x_recv E hw.1 0 6 rfl rfl rfl) (x_pcMQ0 E hw [0, 1, 2, 3, 4, 5] rfl rfl) ok_X6_mixes q1100 rfl hl.1 rfl (Nat.le_of_ble_eq_true rfl) ⟨Nat.le_of_ble_eq_true rfl, Nat.le_of_ble_eq_true rfl⟩ ⟨Nat.le_of_ble_eq_true rfl, Nat.le_of_ble_eq_true rfl⟩ dX6_mixesRow_52) (fun _ => rfl) (fun _ H locs hw => ?_)
      have hw : fy D (va_A ws0 sz) s.heap H locs (wMd I a0 a1 a2 a3 a4 a5 z5) := hw
      refine lv_iinc (v := v2 + 1) (lv' := [(2, .int (v2 + 1)), (0, .ref a0), (1, .int v1)]) hx hb dX6_mixesRow_55 hl (k := 2) rfl rfl (by decide) rfl (fun ls hl => ?_)
      refine lv_goto (tgt := 38) hx hb dX6_mixesRow_58 (by decide) ?_
      exact ih v1 (v2 + 1) z5 hf _ _ hw _ (lv_sub hl [1, 2, 0] rfl)
set_option maxRecDepth 100000 in
set_option maxHeartbeats 4000000 in
theorem k_X6_mixesRow_111 {p : Program} {l : Launch} {e : Env} {s : State} {m : MethodId} {args : Array Value} {below : List Frame} {meth : Method} {c : Code} {D : va_G} {I J O : ClassId} (E : fx p s m args meth c cX6_mixesRow RX6 3 none D I J O) (a0 a1 a2 a3 a4 a5 : Nat)  {ws0 : va_W} {sz : Nat} (y0 : MdC) : ∀ fu : Nat, ∀ (v1 : Int32) (x : MdC), f_X6_mixesRow_111 fu v1 x = some y0 → ∀ (H : Heap) (locs : List Loc), fy D (va_A ws0 sz) s.heap H locs (wMd I a0 a1 a2 a3 a4 a5 x) → ∀ ls : Array Slot, lv_has ls 3 [(0, .ref a0), (1, .int v1)] → W p l e (rmB 5 110 0 0) s m args below meth c H locs 0 0 (MQ below (qMv D sz ws0 (fun _ : Unit => wMd I a0 a1 a2 a3 a4 a5 y0)) args s 0 0 (va_A ws0 sz)) (F0 m 111 ls []) := by
  have hx := E.1
  have hb := E.2.1
  intro fu
  induction fu with
  | zero =>
    intro v1 x hf H locs hw ls hl
    rw [f_X6_mixesRow_111.eq_1] at hf
    cases hf
  | succ fu ih =>
    intro v1 x hf H locs hw ls hl
    rw [f_X6_mixesRow_111.eq_2] at hf
    refine lv_iload_n hx hb dX6_mixesRow_111 rfl (lv_at hl 1 rfl) ?_
    refine lv_bipush (v := 12) hx hb dX6_mixesRow_112 (by decide) ?_
    refine lv_icmp_ge (tgt := 138) hx hb dX6_mixesRow_114 (by decide) (fun hc => ?_) (fun hc => ?_)
    · rw [if_pos hc] at hf
      have he0 := (Option.some.inj hf)
      subst he0
      exact x_vM E () hw dX6_mixesRow_138
    · rw [if_neg hc] at hf
      refine lv_aload_n hx hb dX6_mixesRow_117 rfl (lv_at hl 0 rfl) ?_
      refine lv_aload_n hx hb dX6_mixesRow_118 rfl (lv_at hl 0 rfl) ?_
      refine lv_iload_n hx hb dX6_mixesRow_119 rfl (lv_at hl 1 rfl) ?_
      refine lv_iconst (v := 3) hx hb dX6_mixesRow_120 (by decide) ?_
      refine lv_idiv hx hb dX6_mixesRow_121 (by decide) ?_
      refine lv_iload_n hx hb dX6_mixesRow_122 rfl (lv_at hl 1 rfl) ?_
      refine lv_iconst (v := 3) hx hb dX6_mixesRow_123 (by decide) ?_
      refine lv_irem hx hb dX6_mixesRow_124 (by decide) ?_
      obtain ⟨z9, h, hf⟩ := bd_s hf
      refine x_ci (x_rV E (As := [.int (v1 / 3), .int (v1 - v1 / 3 * 3)]) (rest := [.ref a0]) (mt_X6_ofWalker l D I J O a0 a1 a2 a3 a4 a5 (v1 / 3) (v1 - v1 / 3 * 3) x z9 h) blR (x_recv E hw.1 0 6 rfl rfl rfl) (x_pcR E hw.1) ok_X6_ofWalker q1031 rfl hl.1 rfl (Nat.le_of_ble_eq_true rfl) ⟨Nat.le_of_ble_eq_true rfl, Nat.le_of_ble_eq_true rfl⟩ ⟨Nat.le_of_ble_eq_true rfl, Nat.le_of_ble_eq_true rfl⟩ dX6_mixesRow_125) ?_
      refine lv_i2l (v := z9.toInt64) hx hb dX6_mixesRow_128 rfl ?_
      obtain ⟨z10, h, hf⟩ := bd_s hf
      refine x_mv0 hw [0, 1, 2, 3, 4, 5] rfl rfl (x_rV E (As := [.long z9.toInt64]) (rest := []) (mt_X6_mixes l D I J O a0 a1 a2 a3 a4 a5 H.size z9.toInt64 x z10 h) blM (x_recv E hw.1 0 6 rfl rfl rfl) (x_pcMQ0 E hw [0, 1, 2, 3, 4, 5] rfl rfl) ok_X6_mixes q1100 rfl hl.1 rfl (Nat.le_of_ble_eq_true rfl) ⟨Nat.le_of_ble_eq_true rfl, Nat.le_of_ble_eq_true rfl⟩ ⟨Nat.le_of_ble_eq_true rfl, Nat.le_of_ble_eq_true rfl⟩ dX6_mixesRow_129) (fun _ => rfl) (fun _ H locs hw => ?_)
      have hw : fy D (va_A ws0 sz) s.heap H locs (wMd I a0 a1 a2 a3 a4 a5 z10) := hw
      refine lv_iinc (v := v1 + 1) (lv' := [(1, .int (v1 + 1)), (0, .ref a0)]) hx hb dX6_mixesRow_132 hl (k := 1) rfl rfl (by decide) rfl (fun ls hl => ?_)
      refine lv_goto (tgt := 111) hx hb dX6_mixesRow_135 (by decide) ?_
      exact ih (v1 + 1) z10 hf _ _ hw _ (lv_sub hl [1, 0] rfl)
set_option maxRecDepth 100000 in
set_option maxHeartbeats 4000000 in
theorem k_X6_mixesRow_69 {p : Program} {l : Launch} {e : Env} {s : State} {m : MethodId} {args : Array Value} {below : List Frame} {meth : Method} {c : Code} {D : va_G} {I J O : ClassId} (E : fx p s m args meth c cX6_mixesRow RX6 3 none D I J O) (a0 a1 a2 a3 a4 a5 : Nat)  {ws0 : va_W} {sz : Nat} (y0 : MdC) : ∀ fu : Nat, ∀ (v1 : Int32) (x : MdC), f_X6_mixesRow_69 fu v1 x = some y0 → ∀ (H : Heap) (locs : List Loc), fy D (va_A ws0 sz) s.heap H locs (wMd I a0 a1 a2 a3 a4 a5 x) → ∀ ls : Array Slot, lv_has ls 3 [(0, .ref a0), (1, .int v1)] → W p l e (rmB 5 110 0 0) s m args below meth c H locs 0 0 (MQ below (qMv D sz ws0 (fun _ : Unit => wMd I a0 a1 a2 a3 a4 a5 y0)) args s 0 0 (va_A ws0 sz)) (F0 m 69 ls []) := by
  have hx := E.1
  have hb := E.2.1
  intro fu
  induction fu with
  | zero =>
    intro v1 x hf H locs hw ls hl
    rw [f_X6_mixesRow_69.eq_1] at hf
    cases hf
  | succ fu ih =>
    intro v1 x hf H locs hw ls hl
    rw [f_X6_mixesRow_69.eq_2] at hf
    refine lv_iload_n hx hb dX6_mixesRow_69 rfl (lv_at hl 1 rfl) ?_
    refine lv_aload_n hx hb dX6_mixesRow_70 rfl (lv_at hl 0 rfl) ?_
    refine x_get E hw.1 0 rfl rfl in6 1 (by decide) q802 rfl rfl dX6_mixesRow_71 ?_
    refine lv_iconst (v := 0) hx hb dX6_mixesRow_74 (by decide) ?_
    obtain ⟨g, hf⟩ := gi_s hf
    refine x_ald E hw.1 1 rfl g dX6_mixesRow_75 ?_
    refine lv_icmp_ge (tgt := 109) hx hb dX6_mixesRow_76 (by decide) (fun hc => ?_) (fun hc => ?_)
    · rw [if_pos hc] at hf
      refine lv_iconst (v := 0) hx hb dX6_mixesRow_109 (by decide) ?_
      refine lv_istore_n (lv' := [(1, .int 0), (0, .ref a0)]) hx hb dX6_mixesRow_110 rfl hl (by decide) rfl (fun ls hl => ?_)
      exact k_X6_mixesRow_111 E a0 a1 a2 a3 a4 a5 y0 FU 0 x hf _ _ hw _ (lv_sub hl [1, 0] rfl)
    · rw [if_neg hc] at hf
      refine lv_aload_n hx hb dX6_mixesRow_79 rfl (lv_at hl 0 rfl) ?_
      refine lv_aload_n hx hb dX6_mixesRow_80 rfl (lv_at hl 0 rfl) ?_
      refine x_get E hw.1 0 rfl rfl in6 1 (by decide) q802 rfl rfl dX6_mixesRow_81 ?_
      refine lv_bipush (v := 6) hx hb dX6_mixesRow_84 (by decide) ?_
      refine lv_iload_n hx hb dX6_mixesRow_86 rfl (lv_at hl 1 rfl) ?_
      refine lv_iadd hx hb dX6_mixesRow_87 ?_
      obtain ⟨g, hf⟩ := gi_s hf
      refine x_ald E hw.1 1 rfl g dX6_mixesRow_88 ?_
      refine lv_i2l (v := (x.2.1 (6 + v1).toNatClampNeg).toInt64) hx hb dX6_mixesRow_89 rfl ?_
      obtain ⟨z6, h, hf⟩ := bd_s hf
      refine x_mv0 hw [0, 1, 2, 3, 4, 5] rfl rfl (x_rV E (As := [.long ((x.2.1 (6 + v1).toNatClampNeg).toInt64)]) (rest := []) (mt_X6_mixes l D I J O a0 a1 a2 a3 a4 a5 H.size ((x.2.1 (6 + v1).toNatClampNeg).toInt64) x z6 h) blM (x_recv E hw.1 0 6 rfl rfl rfl) (x_pcMQ0 E hw [0, 1, 2, 3, 4, 5] rfl rfl) ok_X6_mixes q1100 rfl hl.1 rfl (Nat.le_of_ble_eq_true rfl) ⟨Nat.le_of_ble_eq_true rfl, Nat.le_of_ble_eq_true rfl⟩ ⟨Nat.le_of_ble_eq_true rfl, Nat.le_of_ble_eq_true rfl⟩ dX6_mixesRow_90) (fun _ => rfl) (fun _ H locs hw => ?_)
      have hw : fy D (va_A ws0 sz) s.heap H locs (wMd I a0 a1 a2 a3 a4 a5 z6) := hw
      refine lv_aload_n hx hb dX6_mixesRow_93 rfl (lv_at hl 0 rfl) ?_
      refine lv_aload_n hx hb dX6_mixesRow_94 rfl (lv_at hl 0 rfl) ?_
      refine lv_iload_n hx hb dX6_mixesRow_95 rfl (lv_at hl 1 rfl) ?_
      obtain ⟨z7, h, hf⟩ := bd_s hf
      refine x_ci (x_rV E (As := [.int v1]) (rest := [.ref a0]) (mt_X6_ofCell l D I J O a0 a1 a2 a3 a4 a5 v1 z6 z7 h) blR (x_recv E hw.1 0 6 rfl rfl rfl) (x_pcR E hw.1) ok_X6_ofCell q1023 rfl hl.1 rfl (Nat.le_of_ble_eq_true rfl) ⟨Nat.le_of_ble_eq_true rfl, Nat.le_of_ble_eq_true rfl⟩ ⟨Nat.le_of_ble_eq_true rfl, Nat.le_of_ble_eq_true rfl⟩ dX6_mixesRow_96) ?_
      refine lv_i2l (v := z7.toInt64) hx hb dX6_mixesRow_99 rfl ?_
      obtain ⟨z8, h, hf⟩ := bd_s hf
      refine x_mv0 hw [0, 1, 2, 3, 4, 5] rfl rfl (x_rV E (As := [.long z7.toInt64]) (rest := []) (mt_X6_mixes l D I J O a0 a1 a2 a3 a4 a5 H.size z7.toInt64 z6 z8 h) blM (x_recv E hw.1 0 6 rfl rfl rfl) (x_pcMQ0 E hw [0, 1, 2, 3, 4, 5] rfl rfl) ok_X6_mixes q1100 rfl hl.1 rfl (Nat.le_of_ble_eq_true rfl) ⟨Nat.le_of_ble_eq_true rfl, Nat.le_of_ble_eq_true rfl⟩ ⟨Nat.le_of_ble_eq_true rfl, Nat.le_of_ble_eq_true rfl⟩ dX6_mixesRow_100) (fun _ => rfl) (fun _ H locs hw => ?_)
      have hw : fy D (va_A ws0 sz) s.heap H locs (wMd I a0 a1 a2 a3 a4 a5 z8) := hw
      refine lv_iinc (v := v1 + 1) (lv' := [(1, .int (v1 + 1)), (0, .ref a0)]) hx hb dX6_mixesRow_103 hl (k := 1) rfl rfl (by decide) rfl (fun ls hl => ?_)
      refine lv_goto (tgt := 69) hx hb dX6_mixesRow_106 (by decide) ?_
      exact ih (v1 + 1) z8 hf _ _ hw _ (lv_sub hl [1, 0] rfl)
set_option maxRecDepth 100000 in
set_option maxHeartbeats 4000000 in
theorem k_X6_mixesRow_2 {p : Program} {l : Launch} {e : Env} {s : State} {m : MethodId} {args : Array Value} {below : List Frame} {meth : Method} {c : Code} {D : va_G} {I J O : ClassId} (E : fx p s m args meth c cX6_mixesRow RX6 3 none D I J O) (a0 a1 a2 a3 a4 a5 : Nat)  {ws0 : va_W} {sz : Nat} (y0 : MdC) : ∀ fu : Nat, ∀ (v1 : Int32) (x : MdC), f_X6_mixesRow_2 fu v1 x = some y0 → ∀ (H : Heap) (locs : List Loc), fy D (va_A ws0 sz) s.heap H locs (wMd I a0 a1 a2 a3 a4 a5 x) → ∀ ls : Array Slot, lv_has ls 3 [(0, .ref a0), (1, .int v1)] → W p l e (rmB 5 110 0 0) s m args below meth c H locs 0 0 (MQ below (qMv D sz ws0 (fun _ : Unit => wMd I a0 a1 a2 a3 a4 a5 y0)) args s 0 0 (va_A ws0 sz)) (F0 m 2 ls []) := by
  have hx := E.1
  have hb := E.2.1
  intro fu
  induction fu with
  | zero =>
    intro v1 x hf H locs hw ls hl
    rw [f_X6_mixesRow_2.eq_1] at hf
    cases hf
  | succ fu ih =>
    intro v1 x hf H locs hw ls hl
    rw [f_X6_mixesRow_2.eq_2] at hf
    refine lv_iload_n hx hb dX6_mixesRow_2 rfl (lv_at hl 1 rfl) ?_
    refine lv_aload_n hx hb dX6_mixesRow_3 rfl (lv_at hl 0 rfl) ?_
    refine x_get E hw.1 0 rfl rfl in6 1 (by decide) q802 rfl rfl dX6_mixesRow_4 ?_
    refine lv_iconst (v := 1) hx hb dX6_mixesRow_7 (by decide) ?_
    obtain ⟨g, hf⟩ := gi_s hf
    refine x_ald E hw.1 1 rfl g dX6_mixesRow_8 ?_
    refine lv_icmp_ge (tgt := 67) hx hb dX6_mixesRow_9 (by decide) (fun hc => ?_) (fun hc => ?_)
    · rw [if_pos hc] at hf
      refine lv_iconst (v := 0) hx hb dX6_mixesRow_67 (by decide) ?_
      refine lv_istore_n (lv' := [(1, .int 0), (0, .ref a0)]) hx hb dX6_mixesRow_68 rfl hl (by decide) rfl (fun ls hl => ?_)
      exact k_X6_mixesRow_69 E a0 a1 a2 a3 a4 a5 y0 FU 0 x hf _ _ hw _ (lv_sub hl [1, 0] rfl)
    · rw [if_neg hc] at hf
      refine lv_aload_n hx hb dX6_mixesRow_12 rfl (lv_at hl 0 rfl) ?_
      refine x_get E hw.1 0 rfl rfl in6 1 (by decide) q802 rfl rfl dX6_mixesRow_13 ?_
      refine lv_iload_n hx hb dX6_mixesRow_16 rfl (lv_at hl 1 rfl) ?_
      obtain ⟨z1, h, hf⟩ := bd_s hf
      refine x_ci (x_rS E (As := [.ref a1, .int v1]) (rest := []) (mt_X6_isThing l D I J O a1 v1 x.2.1 z1 h) blR (x_pcR E (x_pick0 hw.1 [1] rfl)) ok_X6_isThing q861 rfl hl.1 rfl (Nat.le_of_ble_eq_true rfl) ⟨Nat.le_of_ble_eq_true rfl, Nat.le_of_ble_eq_true rfl⟩ ⟨Nat.le_of_ble_eq_true rfl, Nat.le_of_ble_eq_true rfl⟩ dX6_mixesRow_17) ?_
      refine lv_if_eq (tgt := 61) hx hb dX6_mixesRow_20 (by decide) (fun hc => ?_) (fun hc => ?_)
      · rw [if_pos hc] at hf
        refine lv_iinc (v := v1 + 1) (lv' := [(1, .int (v1 + 1)), (0, .ref a0)]) hx hb dX6_mixesRow_61 hl (k := 1) rfl rfl (by decide) rfl (fun ls hl => ?_)
        refine lv_goto (tgt := 2) hx hb dX6_mixesRow_64 (by decide) ?_
        exact ih (v1 + 1) x hf _ _ hw _ (lv_sub hl [1, 0] rfl)
      · rw [if_neg hc] at hf
        refine lv_aload_n hx hb dX6_mixesRow_23 rfl (lv_at hl 0 rfl) ?_
        refine lv_aload_n hx hb dX6_mixesRow_24 rfl (lv_at hl 0 rfl) ?_
        refine x_get E hw.1 0 rfl rfl in6 1 (by decide) q802 rfl rfl dX6_mixesRow_25 ?_
        refine lv_iload_n hx hb dX6_mixesRow_28 rfl (lv_at hl 1 rfl) ?_
        obtain ⟨z2, h, hf⟩ := bd_s hf
        refine x_ci (x_rS E (As := [.ref a1, .int v1]) (rest := [.ref a0]) (mt_X6_handleOf l D I J O a1 v1 x.2.1 z2 h) blR (x_pcR E (x_pick0 hw.1 [1] rfl)) ok_X6_handleOf q932 rfl hl.1 rfl (Nat.le_of_ble_eq_true rfl) ⟨Nat.le_of_ble_eq_true rfl, Nat.le_of_ble_eq_true rfl⟩ ⟨Nat.le_of_ble_eq_true rfl, Nat.le_of_ble_eq_true rfl⟩ dX6_mixesRow_29) ?_
        refine lv_i2l (v := z2.toInt64) hx hb dX6_mixesRow_32 rfl ?_
        obtain ⟨z3, h, hf⟩ := bd_s hf
        refine x_mv0 hw [0, 1, 2, 3, 4, 5] rfl rfl (x_rV E (As := [.long z2.toInt64]) (rest := []) (mt_X6_mixes l D I J O a0 a1 a2 a3 a4 a5 H.size z2.toInt64 x z3 h) blM (x_recv E hw.1 0 6 rfl rfl rfl) (x_pcMQ0 E hw [0, 1, 2, 3, 4, 5] rfl rfl) ok_X6_mixes q1100 rfl hl.1 rfl (Nat.le_of_ble_eq_true rfl) ⟨Nat.le_of_ble_eq_true rfl, Nat.le_of_ble_eq_true rfl⟩ ⟨Nat.le_of_ble_eq_true rfl, Nat.le_of_ble_eq_true rfl⟩ dX6_mixesRow_33) (fun _ => rfl) (fun _ H locs hw => ?_)
        have hw : fy D (va_A ws0 sz) s.heap H locs (wMd I a0 a1 a2 a3 a4 a5 z3) := hw
        refine lv_iconst (v := 0) hx hb dX6_mixesRow_36 (by decide) ?_
        refine lv_istore_n (lv' := [(2, .int 0), (0, .ref a0), (1, .int v1)]) hx hb dX6_mixesRow_37 rfl hl (by decide) rfl (fun ls hl => ?_)
        exact k_X6_mixesRow_38 E a0 a1 a2 a3 a4 a5 y0 (f_X6_mixesRow_2 fu) ih FU v1 0 z3 hf _ _ hw _ (lv_sub hl [1, 2, 0] rfl)
set_option maxRecDepth 100000 in
set_option maxHeartbeats 4000000 in
theorem mt_X6_mixesRow (l : Launch) (D : va_G) (I J O : ClassId) (a0 a1 a2 a3 a4 a5 : Nat) (sz : Nat)  (x : MdC) (y0 : MdC) (hf : f_X6_mixesRow x = some y0) : mM l yX6_mixesRow cX6_mixesRow 3 none 5 110 0 0 D I J O sz [.ref a0] (wMd I a0 a1 a2 a3 a4 a5 x) (qMv D sz (wMd I a0 a1 a2 a3 a4 a5 x) (fun _ : Unit => wMd I a0 a1 a2 a3 a4 a5 y0)) := by
  refine mM_open (own := RX6) rfl (by decide +kernel) (Nat.le_of_ble_eq_true rfl) (fun p e s m below meth c ls E hnm hsz hw hl => ?_)
  obtain ⟨ws0, hws⟩ : ∃ ws0 : va_W, ws0 = wMd I a0 a1 a2 a3 a4 a5 x := ⟨_, rfl⟩
  have hw : fy D (va_A ws0 sz) s.heap s.heap [] (wMd I a0 a1 a2 a3 a4 a5 x) := by rw [hws]; exact hw
  rw [← hws]
  have hx := E.1
  have hb := E.2.1
  have hl : lv_has ls 3 [(0, .ref a0)] := hl
  unfold f_X6_mixesRow at hf
  refine lv_iconst (v := 0) hx hb dX6_mixesRow_0 (by decide) ?_
  refine lv_istore_n (lv' := [(1, .int 0), (0, .ref a0)]) hx hb dX6_mixesRow_1 rfl hl (by decide) rfl (fun ls hl => ?_)
  exact k_X6_mixesRow_2 E a0 a1 a2 a3 a4 a5 y0 FU 0 x hf _ _ hw _ (lv_sub hl [1, 0] rfl)
theorem ok_Jxe99ae_isNaN_b9ae7 : yS yJxe99ae_isNaN_b9ae7 cJxe99ae_isNaN_b9ae7 2 (some .boolean) 1 := ⟨q1114, q16, q1113, by decide +kernel, by decide +kernel, by decide +kernel⟩
set_option maxRecDepth 100000 in
set_option maxHeartbeats 4000000 in
theorem mt_Jxe99ae_isNaN_b9ae7 (l : Launch) (D : va_G) (I J O : ClassId) (p0 : UInt64)  (r : Int32) (hf : f_Jxe99ae_isNaN_b9ae7 p0 = some r) : mR l yJxe99ae_isNaN_b9ae7 cJxe99ae_isNaN_b9ae7 2 (some .boolean) 0 0 D I J O [.double p0] ([]) (qRi r) := by
  refine mR_open (own := RJxe99ae) rfl (by decide +kernel) (Nat.le_of_ble_eq_true rfl) (fun p e s m below meth c ls E hP hl => ?_)
  have hx := E.1
  have hb := E.2.1
  have hl : lv_has ls 2 [(0, .double p0)] := hl
  unfold f_Jxe99ae_isNaN_b9ae7 at hf
  refine lv_dload_n hx hb dJxe99ae_isNaN_b9ae7_0 rfl (lv_at hl 0 rfl) ?_
  refine lv_dload_n hx hb dJxe99ae_isNaN_b9ae7_1 rfl (lv_at hl 0 rfl) ?_
  refine lv_dcmp hx hb dJxe99ae_isNaN_b9ae7_2 ?_
  refine lv_if_eq (tgt := 10) hx hb dJxe99ae_isNaN_b9ae7_3 (by decide) (fun hc => ?_) (fun hc => ?_)
  · rw [if_pos hc] at hf
    refine lv_iconst (v := 0) hx hb dJxe99ae_isNaN_b9ae7_10 (by decide) ?_
    exact x_zR E (Or.inl rfl) (Option.some.inj hf) dJxe99ae_isNaN_b9ae7_11
  · rw [if_neg hc] at hf
    refine lv_iconst (v := 1) hx hb dJxe99ae_isNaN_b9ae7_6 (by decide) ?_
    refine lv_goto (tgt := 11) hx hb dJxe99ae_isNaN_b9ae7_7 (by decide) ?_
    exact x_zR E (Or.inr rfl) (Option.some.inj hf) dJxe99ae_isNaN_b9ae7_11
theorem ok_Jxe99ae_doubleToLongBits_ccdee : yS yJxe99ae_doubleToLongBits_ccdee cJxe99ae_doubleToLongBits_ccdee 2 (some .long) 1 := ⟨q1111, q16, q1110, by decide +kernel, by decide +kernel, by decide +kernel⟩
set_option maxRecDepth 100000 in
set_option maxHeartbeats 4000000 in
theorem mt_Jxe99ae_doubleToLongBits_ccdee (l : Launch) (D : va_G) (I J O : ClassId) (p0 : UInt64)  (r : Int64) (hf : f_Jxe99ae_doubleToLongBits_ccdee p0 = some r) : mR l yJxe99ae_doubleToLongBits_ccdee cJxe99ae_doubleToLongBits_ccdee 2 (some .long) 1 21 D I J O [.double p0] ([]) (qRl r) := by
  refine mR_open (own := RJxe99ae) rfl (by decide +kernel) (Nat.le_of_ble_eq_true rfl) (fun p e s m below meth c ls E hP hl => ?_)
  have hx := E.1
  have hb := E.2.1
  have hl : lv_has ls 2 [(0, .double p0)] := hl
  unfold f_Jxe99ae_doubleToLongBits_ccdee at hf
  refine lv_dload_n hx hb dJxe99ae_doubleToLongBits_ccdee_0 rfl (lv_at hl 0 rfl) ?_
  obtain ⟨z1, h, hf⟩ := bd_s hf
  refine x_ci (x_rS E (As := [.double p0]) (rest := []) (mt_Jxe99ae_isNaN_b9ae7 l D I J O p0 z1 h) blR (x_pcR E x_none) ok_Jxe99ae_isNaN_b9ae7 q1112 rfl hl.1 rfl (Nat.le_of_ble_eq_true rfl) ⟨Nat.le_of_ble_eq_true rfl, Nat.le_of_ble_eq_true rfl⟩ ⟨Nat.le_of_ble_eq_true rfl, Nat.le_of_ble_eq_true rfl⟩ dJxe99ae_doubleToLongBits_ccdee_1) ?_
  refine lv_if_ne (tgt := 12) hx hb dJxe99ae_doubleToLongBits_ccdee_4 (by decide) (fun hc => ?_) (fun hc => ?_)
  · rw [if_neg hc] at hf
    refine lv_ldc2 (v := 9221120237041090560) hx hb E.2.2.2.1 (E.2.2.2.2.1 _ q1118) dJxe99ae_doubleToLongBits_ccdee_12 ?_
    exact x_lR E (Option.some.inj hf) dJxe99ae_doubleToLongBits_ccdee_15
  · rw [if_pos hc] at hf
    refine lv_dload_n hx hb dJxe99ae_doubleToLongBits_ccdee_7 rfl (lv_at hl 0 rfl) ?_
    refine vn_d2l hx hb (E.2.2.1.trans hl.1.symm) E.2.2.2.1 (E.2.2.2.2.1 _ q1115) (E.2.2.2.2.1 _ q1117) (E.2.2.2.2.1 _ q1116) (E.2.2.2.2.1 _ q16) (Nat.le_of_ble_eq_true rfl) (Nat.le_of_ble_eq_true rfl) dJxe99ae_doubleToLongBits_ccdee_8 ?_
    exact x_lR E (Option.some.inj hf) dJxe99ae_doubleToLongBits_ccdee_11
theorem ok_X6_digest : yV yX6_digest cX6_digest 2 (some .long) 0 := ⟨q1098, q7, q1096, q1097, by decide +kernel, by decide +kernel, by decide +kernel⟩
set_option maxRecDepth 100000 in
set_option maxHeartbeats 4000000 in
theorem k_X6_digest_164 {p : Program} {l : Launch} {e : Env} {s : State} {m : MethodId} {args : Array Value} {below : List Frame} {meth : Method} {c : Code} {D : va_G} {I J O : ClassId} (E : fx p s m args meth c cX6_digest RX6 2 (some .long) D I J O) (a0 a1 a2 a3 a4 a5 : Nat)  {ws0 : va_W} {sz : Nat} (r : Int64) (y0 : MdC) : ∀ fu : Nat, ∀ (v1 : Int32) (x : MdC), f_X6_digest_164 fu v1 x = some (r, y0) → ∀ (H : Heap) (locs : List Loc), fy D (va_A ws0 sz) s.heap H locs (wMd I a0 a1 a2 a3 a4 a5 x) → ∀ ls : Array Slot, lv_has ls 2 [(0, .ref a0), (1, .int v1)] → W p l e (rmB 10 230 0 0) s m args below meth c H locs 0 0 (MQ below (qMl D sz ws0 r (fun _ : Unit => wMd I a0 a1 a2 a3 a4 a5 y0)) args s 0 0 (va_A ws0 sz)) (F0 m 164 ls []) := by
  have hx := E.1
  have hb := E.2.1
  intro fu
  induction fu with
  | zero =>
    intro v1 x hf H locs hw ls hl
    rw [f_X6_digest_164.eq_1] at hf
    cases hf
  | succ fu ih =>
    intro v1 x hf H locs hw ls hl
    rw [f_X6_digest_164.eq_2] at hf
    refine lv_iload_n hx hb dX6_digest_164 rfl (lv_at hl 1 rfl) ?_
    refine lv_aload_n hx hb dX6_digest_165 rfl (lv_at hl 0 rfl) ?_
    refine x_get E hw.1 0 rfl rfl in6 6 (by decide) q807 rfl rfl dX6_digest_166 ?_
    refine lv_icmp_ge (tgt := 189) hx hb dX6_digest_169 (by decide) (fun hc => ?_) (fun hc => ?_)
    · rw [if_pos hc] at hf
      refine lv_aload_n hx hb dX6_digest_189 rfl (lv_at hl 0 rfl) ?_
      refine x_get E hw.1 0 rfl rfl in6 10 (by decide) q811 rfl rfl dX6_digest_190 ?_
      obtain ⟨he0, hr⟩ := Prod.mk.inj (Option.some.inj hf)
      have he1 := hr
      subst he1
      exact x_lM E () hw he0 dX6_digest_193
    · rw [if_neg hc] at hf
      refine lv_aload_n hx hb dX6_digest_172 rfl (lv_at hl 0 rfl) ?_
      refine lv_aload_n hx hb dX6_digest_173 rfl (lv_at hl 0 rfl) ?_
      refine x_get E hw.1 0 rfl rfl in6 5 (by decide) q806 rfl rfl dX6_digest_174 ?_
      refine lv_iload_n hx hb dX6_digest_177 rfl (lv_at hl 1 rfl) ?_
      obtain ⟨g, hf⟩ := gi_s hf
      refine x_ald E hw.1 4 rfl g dX6_digest_178 ?_
      refine lv_i2l (v := (x.2.2.2.2.2.1 v1.toNatClampNeg).toInt64) hx hb dX6_digest_179 rfl ?_
      obtain ⟨z20, h, hf⟩ := bd_s hf
      refine x_mv0 hw [0, 1, 2, 3, 4, 5] rfl rfl (x_rV E (As := [.long ((x.2.2.2.2.2.1 v1.toNatClampNeg).toInt64)]) (rest := []) (mt_X6_mixes l D I J O a0 a1 a2 a3 a4 a5 H.size ((x.2.2.2.2.2.1 v1.toNatClampNeg).toInt64) x z20 h) blM (x_recv E hw.1 0 6 rfl rfl rfl) (x_pcMQ0 E hw [0, 1, 2, 3, 4, 5] rfl rfl) ok_X6_mixes q1100 rfl hl.1 rfl (Nat.le_of_ble_eq_true rfl) ⟨Nat.le_of_ble_eq_true rfl, Nat.le_of_ble_eq_true rfl⟩ ⟨Nat.le_of_ble_eq_true rfl, Nat.le_of_ble_eq_true rfl⟩ dX6_digest_180) (fun _ => rfl) (fun _ H locs hw => ?_)
      have hw : fy D (va_A ws0 sz) s.heap H locs (wMd I a0 a1 a2 a3 a4 a5 z20) := hw
      refine lv_iinc (v := v1 + 1) (lv' := [(1, .int (v1 + 1)), (0, .ref a0)]) hx hb dX6_digest_183 hl (k := 1) rfl rfl (by decide) rfl (fun ls hl => ?_)
      refine lv_goto (tgt := 164) hx hb dX6_digest_186 (by decide) ?_
      exact ih (v1 + 1) z20 hf _ _ hw _ (lv_sub hl [1, 0] rfl)
set_option maxRecDepth 100000 in
set_option maxHeartbeats 4000000 in
theorem k_X6_digest_109 {p : Program} {l : Launch} {e : Env} {s : State} {m : MethodId} {args : Array Value} {below : List Frame} {meth : Method} {c : Code} {D : va_G} {I J O : ClassId} (E : fx p s m args meth c cX6_digest RX6 2 (some .long) D I J O) (a0 a1 a2 a3 a4 a5 : Nat)  {ws0 : va_W} {sz : Nat} (r : Int64) (y0 : MdC) : ∀ fu : Nat, ∀ (v1 : Int32) (x : MdC), f_X6_digest_109 fu v1 x = some (r, y0) → ∀ (H : Heap) (locs : List Loc), fy D (va_A ws0 sz) s.heap H locs (wMd I a0 a1 a2 a3 a4 a5 x) → ∀ ls : Array Slot, lv_has ls 2 [(0, .ref a0), (1, .int v1)] → W p l e (rmB 10 230 0 0) s m args below meth c H locs 0 0 (MQ below (qMl D sz ws0 r (fun _ : Unit => wMd I a0 a1 a2 a3 a4 a5 y0)) args s 0 0 (va_A ws0 sz)) (F0 m 109 ls []) := by
  have hx := E.1
  have hb := E.2.1
  intro fu
  induction fu with
  | zero =>
    intro v1 x hf H locs hw ls hl
    rw [f_X6_digest_109.eq_1] at hf
    cases hf
  | succ fu ih =>
    intro v1 x hf H locs hw ls hl
    rw [f_X6_digest_109.eq_2] at hf
    refine lv_iload_n hx hb dX6_digest_109 rfl (lv_at hl 1 rfl) ?_
    refine lv_iconst (v := 5) hx hb dX6_digest_110 (by decide) ?_
    refine lv_icmp_ge (tgt := 142) hx hb dX6_digest_111 (by decide) (fun hc => ?_) (fun hc => ?_)
    · rw [if_pos hc] at hf
      refine lv_aload_n hx hb dX6_digest_142 rfl (lv_at hl 0 rfl) ?_
      refine lv_aload_n hx hb dX6_digest_143 rfl (lv_at hl 0 rfl) ?_
      obtain ⟨z12, h, hf⟩ := bd_s hf
      refine x_cd (x_rV E (As := []) (rest := [.ref a0]) (mt_X6_full l D I J O a0 a1 a2 a3 a4 a5 x z12 h) blR (x_recv E hw.1 0 6 rfl rfl rfl) (x_pcR E hw.1) ok_X6_full q1091 rfl hl.1 rfl (Nat.le_of_ble_eq_true rfl) ⟨Nat.le_of_ble_eq_true rfl, Nat.le_of_ble_eq_true rfl⟩ ⟨Nat.le_of_ble_eq_true rfl, Nat.le_of_ble_eq_true rfl⟩ dX6_digest_144) ?_
      obtain ⟨z13, h, hf⟩ := bd_s hf
      refine x_cl (x_rS E (As := [.double z12]) (rest := [.ref a0]) (mt_Jxe99ae_doubleToLongBits_ccdee l D I J O z12 z13 h) blR (x_pcR E x_none) ok_Jxe99ae_doubleToLongBits_ccdee q1109 rfl hl.1 rfl (Nat.le_of_ble_eq_true rfl) ⟨Nat.le_of_ble_eq_true rfl, Nat.le_of_ble_eq_true rfl⟩ ⟨Nat.le_of_ble_eq_true rfl, Nat.le_of_ble_eq_true rfl⟩ dX6_digest_147) ?_
      obtain ⟨z14, h, hf⟩ := bd_s hf
      refine x_mv0 hw [0, 1, 2, 3, 4, 5] rfl rfl (x_rV E (As := [.long z13]) (rest := []) (mt_X6_mixes l D I J O a0 a1 a2 a3 a4 a5 H.size z13 x z14 h) blM (x_recv E hw.1 0 6 rfl rfl rfl) (x_pcMQ0 E hw [0, 1, 2, 3, 4, 5] rfl rfl) ok_X6_mixes q1100 rfl hl.1 rfl (Nat.le_of_ble_eq_true rfl) ⟨Nat.le_of_ble_eq_true rfl, Nat.le_of_ble_eq_true rfl⟩ ⟨Nat.le_of_ble_eq_true rfl, Nat.le_of_ble_eq_true rfl⟩ dX6_digest_150) (fun _ => rfl) (fun _ H locs hw => ?_)
      have hw : fy D (va_A ws0 sz) s.heap H locs (wMd I a0 a1 a2 a3 a4 a5 z14) := hw
      refine lv_aload_n hx hb dX6_digest_153 rfl (lv_at hl 0 rfl) ?_
      refine lv_aload_n hx hb dX6_digest_154 rfl (lv_at hl 0 rfl) ?_
      refine x_get E hw.1 0 rfl rfl in6 6 (by decide) q807 rfl rfl dX6_digest_155 ?_
      refine lv_i2l (v := z14.2.2.2.2.2.2.1.toInt64) hx hb dX6_digest_158 rfl ?_
      obtain ⟨z15, h, hf⟩ := bd_s hf
      refine x_mv0 hw [0, 1, 2, 3, 4, 5] rfl rfl (x_rV E (As := [.long z14.2.2.2.2.2.2.1.toInt64]) (rest := []) (mt_X6_mixes l D I J O a0 a1 a2 a3 a4 a5 H.size z14.2.2.2.2.2.2.1.toInt64 z14 z15 h) blM (x_recv E hw.1 0 6 rfl rfl rfl) (x_pcMQ0 E hw [0, 1, 2, 3, 4, 5] rfl rfl) ok_X6_mixes q1100 rfl hl.1 rfl (Nat.le_of_ble_eq_true rfl) ⟨Nat.le_of_ble_eq_true rfl, Nat.le_of_ble_eq_true rfl⟩ ⟨Nat.le_of_ble_eq_true rfl, Nat.le_of_ble_eq_true rfl⟩ dX6_digest_159) (fun _ => rfl) (fun _ H locs hw => ?_)
      have hw : fy D (va_A ws0 sz) s.heap H locs (wMd I a0 a1 a2 a3 a4 a5 z15) := hw
      refine lv_iconst (v := 0) hx hb dX6_digest_162 (by decide) ?_
      refine lv_istore_n (lv' := [(1, .int 0), (0, .ref a0)]) hx hb dX6_digest_163 rfl hl (by decide) rfl (fun ls hl => ?_)
      exact k_X6_digest_164 E a0 a1 a2 a3 a4 a5 r y0 FU 0 z15 hf _ _ hw _ (lv_sub hl [1, 0] rfl)
    · rw [if_neg hc] at hf
      refine lv_aload_n hx hb dX6_digest_114 rfl (lv_at hl 0 rfl) ?_
      refine lv_aload_n hx hb dX6_digest_115 rfl (lv_at hl 0 rfl) ?_
      refine lv_iload_n hx hb dX6_digest_116 rfl (lv_at hl 1 rfl) ?_
      refine lv_iconst (v := 0) hx hb dX6_digest_117 (by decide) ?_
      obtain ⟨z16, h, hf⟩ := bd_s hf
      refine x_ci (x_rV E (As := [.int v1, .int 0]) (rest := [.ref a0]) (mt_X6_roomFor l D I J O a0 a1 a2 a3 a4 a5 v1 0 x z16 h) blR (x_recv E hw.1 0 6 rfl rfl rfl) (x_pcR E hw.1) ok_X6_roomFor q1083 rfl hl.1 rfl (Nat.le_of_ble_eq_true rfl) ⟨Nat.le_of_ble_eq_true rfl, Nat.le_of_ble_eq_true rfl⟩ ⟨Nat.le_of_ble_eq_true rfl, Nat.le_of_ble_eq_true rfl⟩ dX6_digest_118) ?_
      refine lv_i2l (v := z16.toInt64) hx hb dX6_digest_121 rfl ?_
      obtain ⟨z17, h, hf⟩ := bd_s hf
      refine x_mv0 hw [0, 1, 2, 3, 4, 5] rfl rfl (x_rV E (As := [.long z16.toInt64]) (rest := []) (mt_X6_mixes l D I J O a0 a1 a2 a3 a4 a5 H.size z16.toInt64 x z17 h) blM (x_recv E hw.1 0 6 rfl rfl rfl) (x_pcMQ0 E hw [0, 1, 2, 3, 4, 5] rfl rfl) ok_X6_mixes q1100 rfl hl.1 rfl (Nat.le_of_ble_eq_true rfl) ⟨Nat.le_of_ble_eq_true rfl, Nat.le_of_ble_eq_true rfl⟩ ⟨Nat.le_of_ble_eq_true rfl, Nat.le_of_ble_eq_true rfl⟩ dX6_digest_122) (fun _ => rfl) (fun _ H locs hw => ?_)
      have hw : fy D (va_A ws0 sz) s.heap H locs (wMd I a0 a1 a2 a3 a4 a5 z17) := hw
      refine lv_aload_n hx hb dX6_digest_125 rfl (lv_at hl 0 rfl) ?_
      refine lv_aload_n hx hb dX6_digest_126 rfl (lv_at hl 0 rfl) ?_
      refine lv_iload_n hx hb dX6_digest_127 rfl (lv_at hl 1 rfl) ?_
      refine lv_iconst (v := 1) hx hb dX6_digest_128 (by decide) ?_
      obtain ⟨z18, h, hf⟩ := bd_s hf
      refine x_ci (x_rV E (As := [.int v1, .int 1]) (rest := [.ref a0]) (mt_X6_roomFor l D I J O a0 a1 a2 a3 a4 a5 v1 1 z17 z18 h) blR (x_recv E hw.1 0 6 rfl rfl rfl) (x_pcR E hw.1) ok_X6_roomFor q1083 rfl hl.1 rfl (Nat.le_of_ble_eq_true rfl) ⟨Nat.le_of_ble_eq_true rfl, Nat.le_of_ble_eq_true rfl⟩ ⟨Nat.le_of_ble_eq_true rfl, Nat.le_of_ble_eq_true rfl⟩ dX6_digest_129) ?_
      refine lv_i2l (v := z18.toInt64) hx hb dX6_digest_132 rfl ?_
      obtain ⟨z19, h, hf⟩ := bd_s hf
      refine x_mv0 hw [0, 1, 2, 3, 4, 5] rfl rfl (x_rV E (As := [.long z18.toInt64]) (rest := []) (mt_X6_mixes l D I J O a0 a1 a2 a3 a4 a5 H.size z18.toInt64 z17 z19 h) blM (x_recv E hw.1 0 6 rfl rfl rfl) (x_pcMQ0 E hw [0, 1, 2, 3, 4, 5] rfl rfl) ok_X6_mixes q1100 rfl hl.1 rfl (Nat.le_of_ble_eq_true rfl) ⟨Nat.le_of_ble_eq_true rfl, Nat.le_of_ble_eq_true rfl⟩ ⟨Nat.le_of_ble_eq_true rfl, Nat.le_of_ble_eq_true rfl⟩ dX6_digest_133) (fun _ => rfl) (fun _ H locs hw => ?_)
      have hw : fy D (va_A ws0 sz) s.heap H locs (wMd I a0 a1 a2 a3 a4 a5 z19) := hw
      refine lv_iinc (v := v1 + 1) (lv' := [(1, .int (v1 + 1)), (0, .ref a0)]) hx hb dX6_digest_136 hl (k := 1) rfl rfl (by decide) rfl (fun ls hl => ?_)
      refine lv_goto (tgt := 109) hx hb dX6_digest_139 (by decide) ?_
      exact ih (v1 + 1) z19 hf _ _ hw _ (lv_sub hl [1, 0] rfl)
set_option maxRecDepth 100000 in
set_option maxHeartbeats 4000000 in
theorem k_X6_digest_85 {p : Program} {l : Launch} {e : Env} {s : State} {m : MethodId} {args : Array Value} {below : List Frame} {meth : Method} {c : Code} {D : va_G} {I J O : ClassId} (E : fx p s m args meth c cX6_digest RX6 2 (some .long) D I J O) (a0 a1 a2 a3 a4 a5 : Nat)  {ws0 : va_W} {sz : Nat} (r : Int64) (y0 : MdC) : ∀ fu : Nat, ∀ (v1 : Int32) (x : MdC), f_X6_digest_85 fu v1 x = some (r, y0) → ∀ (H : Heap) (locs : List Loc), fy D (va_A ws0 sz) s.heap H locs (wMd I a0 a1 a2 a3 a4 a5 x) → ∀ ls : Array Slot, lv_has ls 2 [(0, .ref a0), (1, .int v1)] → W p l e (rmB 10 230 0 0) s m args below meth c H locs 0 0 (MQ below (qMl D sz ws0 r (fun _ : Unit => wMd I a0 a1 a2 a3 a4 a5 y0)) args s 0 0 (va_A ws0 sz)) (F0 m 85 ls []) := by
  have hx := E.1
  have hb := E.2.1
  intro fu
  induction fu with
  | zero =>
    intro v1 x hf H locs hw ls hl
    rw [f_X6_digest_85.eq_1] at hf
    cases hf
  | succ fu ih =>
    intro v1 x hf H locs hw ls hl
    rw [f_X6_digest_85.eq_2] at hf
    refine lv_iload_n hx hb dX6_digest_85 rfl (lv_at hl 1 rfl) ?_
    refine lv_iconst (v := 3) hx hb dX6_digest_86 (by decide) ?_
    refine lv_icmp_ge (tgt := 107) hx hb dX6_digest_87 (by decide) (fun hc => ?_) (fun hc => ?_)
    · rw [if_pos hc] at hf
      refine lv_iconst (v := 1) hx hb dX6_digest_107 (by decide) ?_
      refine lv_istore_n (lv' := [(1, .int 1), (0, .ref a0)]) hx hb dX6_digest_108 rfl hl (by decide) rfl (fun ls hl => ?_)
      exact k_X6_digest_109 E a0 a1 a2 a3 a4 a5 r y0 FU 1 x hf _ _ hw _ (lv_sub hl [1, 0] rfl)
    · rw [if_neg hc] at hf
      refine lv_aload_n hx hb dX6_digest_90 rfl (lv_at hl 0 rfl) ?_
      refine lv_aload_n hx hb dX6_digest_91 rfl (lv_at hl 0 rfl) ?_
      refine lv_iconst (v := 2) hx hb dX6_digest_92 (by decide) ?_
      refine lv_iload_n hx hb dX6_digest_93 rfl (lv_at hl 1 rfl) ?_
      obtain ⟨z10, h, hf⟩ := bd_s hf
      refine x_mi0 hw [0, 1, 2, 3, 4, 5] rfl rfl (x_rV E (As := [.int 2, .int v1]) (rest := [.ref a0]) (mt_X6_fired l D I J O a0 a1 a2 a3 a4 a5 H.size 2 v1 x z10.1 z10.2 h) blM (x_recv E hw.1 0 6 rfl rfl rfl) (x_pcMQ0 E hw [0, 1, 2, 3, 4, 5] rfl rfl) ok_X6_fired q1075 rfl hl.1 rfl (Nat.le_of_ble_eq_true rfl) ⟨Nat.le_of_ble_eq_true rfl, Nat.le_of_ble_eq_true rfl⟩ ⟨Nat.le_of_ble_eq_true rfl, Nat.le_of_ble_eq_true rfl⟩ dX6_digest_94) (fun _ => rfl) (fun _ H locs hw => ?_)
      have hw : fy D (va_A ws0 sz) s.heap H locs (wMd I a0 a1 a2 a3 a4 a5 z10.2) := hw
      refine lv_i2l (v := z10.1.toInt64) hx hb dX6_digest_97 rfl ?_
      obtain ⟨z11, h, hf⟩ := bd_s hf
      refine x_mv0 hw [0, 1, 2, 3, 4, 5] rfl rfl (x_rV E (As := [.long z10.1.toInt64]) (rest := []) (mt_X6_mixes l D I J O a0 a1 a2 a3 a4 a5 H.size z10.1.toInt64 z10.2 z11 h) blM (x_recv E hw.1 0 6 rfl rfl rfl) (x_pcMQ0 E hw [0, 1, 2, 3, 4, 5] rfl rfl) ok_X6_mixes q1100 rfl hl.1 rfl (Nat.le_of_ble_eq_true rfl) ⟨Nat.le_of_ble_eq_true rfl, Nat.le_of_ble_eq_true rfl⟩ ⟨Nat.le_of_ble_eq_true rfl, Nat.le_of_ble_eq_true rfl⟩ dX6_digest_98) (fun _ => rfl) (fun _ H locs hw => ?_)
      have hw : fy D (va_A ws0 sz) s.heap H locs (wMd I a0 a1 a2 a3 a4 a5 z11) := hw
      refine lv_iinc (v := v1 + 1) (lv' := [(1, .int (v1 + 1)), (0, .ref a0)]) hx hb dX6_digest_101 hl (k := 1) rfl rfl (by decide) rfl (fun ls hl => ?_)
      refine lv_goto (tgt := 85) hx hb dX6_digest_104 (by decide) ?_
      exact ih (v1 + 1) z11 hf _ _ hw _ (lv_sub hl [1, 0] rfl)
set_option maxRecDepth 100000 in
set_option maxHeartbeats 4000000 in
theorem k_X6_digest_42 {p : Program} {l : Launch} {e : Env} {s : State} {m : MethodId} {args : Array Value} {below : List Frame} {meth : Method} {c : Code} {D : va_G} {I J O : ClassId} (E : fx p s m args meth c cX6_digest RX6 2 (some .long) D I J O) (a0 a1 a2 a3 a4 a5 : Nat)  {ws0 : va_W} {sz : Nat} (r : Int64) (y0 : MdC) : ∀ fu : Nat, ∀ (v1 : Int32) (x : MdC), f_X6_digest_42 fu v1 x = some (r, y0) → ∀ (H : Heap) (locs : List Loc), fy D (va_A ws0 sz) s.heap H locs (wMd I a0 a1 a2 a3 a4 a5 x) → ∀ ls : Array Slot, lv_has ls 2 [(0, .ref a0), (1, .int v1)] → W p l e (rmB 10 230 0 0) s m args below meth c H locs 0 0 (MQ below (qMl D sz ws0 r (fun _ : Unit => wMd I a0 a1 a2 a3 a4 a5 y0)) args s 0 0 (va_A ws0 sz)) (F0 m 42 ls []) := by
  have hx := E.1
  have hb := E.2.1
  intro fu
  induction fu with
  | zero =>
    intro v1 x hf H locs hw ls hl
    rw [f_X6_digest_42.eq_1] at hf
    cases hf
  | succ fu ih =>
    intro v1 x hf H locs hw ls hl
    rw [f_X6_digest_42.eq_2] at hf
    refine lv_iload_n hx hb dX6_digest_42 rfl (lv_at hl 1 rfl) ?_
    refine lv_iconst (v := 5) hx hb dX6_digest_43 (by decide) ?_
    refine lv_icmp_ge (tgt := 63) hx hb dX6_digest_44 (by decide) (fun hc => ?_) (fun hc => ?_)
    · rw [if_pos hc] at hf
      refine lv_aload_n hx hb dX6_digest_63 rfl (lv_at hl 0 rfl) ?_
      refine lv_aload_n hx hb dX6_digest_64 rfl (lv_at hl 0 rfl) ?_
      refine lv_iconst (v := 0) hx hb dX6_digest_65 (by decide) ?_
      obtain ⟨z4, h, hf⟩ := bd_s hf
      refine x_ci (x_rV E (As := [.int 0]) (rest := [.ref a0]) (mt_X6_longest l D I J O a0 a1 a2 a3 a4 a5 0 x z4 h) blR (x_recv E hw.1 0 6 rfl rfl rfl) (x_pcR E hw.1) ok_X6_longest q1067 rfl hl.1 rfl (Nat.le_of_ble_eq_true rfl) ⟨Nat.le_of_ble_eq_true rfl, Nat.le_of_ble_eq_true rfl⟩ ⟨Nat.le_of_ble_eq_true rfl, Nat.le_of_ble_eq_true rfl⟩ dX6_digest_66) ?_
      refine lv_i2l (v := z4.toInt64) hx hb dX6_digest_69 rfl ?_
      obtain ⟨z5, h, hf⟩ := bd_s hf
      refine x_mv0 hw [0, 1, 2, 3, 4, 5] rfl rfl (x_rV E (As := [.long z4.toInt64]) (rest := []) (mt_X6_mixes l D I J O a0 a1 a2 a3 a4 a5 H.size z4.toInt64 x z5 h) blM (x_recv E hw.1 0 6 rfl rfl rfl) (x_pcMQ0 E hw [0, 1, 2, 3, 4, 5] rfl rfl) ok_X6_mixes q1100 rfl hl.1 rfl (Nat.le_of_ble_eq_true rfl) ⟨Nat.le_of_ble_eq_true rfl, Nat.le_of_ble_eq_true rfl⟩ ⟨Nat.le_of_ble_eq_true rfl, Nat.le_of_ble_eq_true rfl⟩ dX6_digest_70) (fun _ => rfl) (fun _ H locs hw => ?_)
      have hw : fy D (va_A ws0 sz) s.heap H locs (wMd I a0 a1 a2 a3 a4 a5 z5) := hw
      refine lv_aload_n hx hb dX6_digest_73 rfl (lv_at hl 0 rfl) ?_
      refine lv_aload_n hx hb dX6_digest_74 rfl (lv_at hl 0 rfl) ?_
      refine lv_iconst (v := 1) hx hb dX6_digest_75 (by decide) ?_
      obtain ⟨z6, h, hf⟩ := bd_s hf
      refine x_ci (x_rV E (As := [.int 1]) (rest := [.ref a0]) (mt_X6_longest l D I J O a0 a1 a2 a3 a4 a5 1 z5 z6 h) blR (x_recv E hw.1 0 6 rfl rfl rfl) (x_pcR E hw.1) ok_X6_longest q1067 rfl hl.1 rfl (Nat.le_of_ble_eq_true rfl) ⟨Nat.le_of_ble_eq_true rfl, Nat.le_of_ble_eq_true rfl⟩ ⟨Nat.le_of_ble_eq_true rfl, Nat.le_of_ble_eq_true rfl⟩ dX6_digest_76) ?_
      refine lv_i2l (v := z6.toInt64) hx hb dX6_digest_79 rfl ?_
      obtain ⟨z7, h, hf⟩ := bd_s hf
      refine x_mv0 hw [0, 1, 2, 3, 4, 5] rfl rfl (x_rV E (As := [.long z6.toInt64]) (rest := []) (mt_X6_mixes l D I J O a0 a1 a2 a3 a4 a5 H.size z6.toInt64 z5 z7 h) blM (x_recv E hw.1 0 6 rfl rfl rfl) (x_pcMQ0 E hw [0, 1, 2, 3, 4, 5] rfl rfl) ok_X6_mixes q1100 rfl hl.1 rfl (Nat.le_of_ble_eq_true rfl) ⟨Nat.le_of_ble_eq_true rfl, Nat.le_of_ble_eq_true rfl⟩ ⟨Nat.le_of_ble_eq_true rfl, Nat.le_of_ble_eq_true rfl⟩ dX6_digest_80) (fun _ => rfl) (fun _ H locs hw => ?_)
      have hw : fy D (va_A ws0 sz) s.heap H locs (wMd I a0 a1 a2 a3 a4 a5 z7) := hw
      refine lv_iconst (v := 0) hx hb dX6_digest_83 (by decide) ?_
      refine lv_istore_n (lv' := [(1, .int 0), (0, .ref a0)]) hx hb dX6_digest_84 rfl hl (by decide) rfl (fun ls hl => ?_)
      exact k_X6_digest_85 E a0 a1 a2 a3 a4 a5 r y0 FU 0 z7 hf _ _ hw _ (lv_sub hl [1, 0] rfl)
    · rw [if_neg hc] at hf
      refine lv_aload_n hx hb dX6_digest_47 rfl (lv_at hl 0 rfl) ?_
      refine lv_aload_n hx hb dX6_digest_48 rfl (lv_at hl 0 rfl) ?_
      refine lv_iload_n hx hb dX6_digest_49 rfl (lv_at hl 1 rfl) ?_
      obtain ⟨z8, h, hf⟩ := bd_s hf
      refine x_ci (x_rV E (As := [.int v1]) (rest := [.ref a0]) (mt_X6_beginsAt l D I J O a0 a1 a2 a3 a4 a5 v1 x z8 h) blR (x_recv E hw.1 0 6 rfl rfl rfl) (x_pcR E hw.1) ok_X6_beginsAt q1059 rfl hl.1 rfl (Nat.le_of_ble_eq_true rfl) ⟨Nat.le_of_ble_eq_true rfl, Nat.le_of_ble_eq_true rfl⟩ ⟨Nat.le_of_ble_eq_true rfl, Nat.le_of_ble_eq_true rfl⟩ dX6_digest_50) ?_
      refine lv_i2l (v := z8.toInt64) hx hb dX6_digest_53 rfl ?_
      obtain ⟨z9, h, hf⟩ := bd_s hf
      refine x_mv0 hw [0, 1, 2, 3, 4, 5] rfl rfl (x_rV E (As := [.long z8.toInt64]) (rest := []) (mt_X6_mixes l D I J O a0 a1 a2 a3 a4 a5 H.size z8.toInt64 x z9 h) blM (x_recv E hw.1 0 6 rfl rfl rfl) (x_pcMQ0 E hw [0, 1, 2, 3, 4, 5] rfl rfl) ok_X6_mixes q1100 rfl hl.1 rfl (Nat.le_of_ble_eq_true rfl) ⟨Nat.le_of_ble_eq_true rfl, Nat.le_of_ble_eq_true rfl⟩ ⟨Nat.le_of_ble_eq_true rfl, Nat.le_of_ble_eq_true rfl⟩ dX6_digest_54) (fun _ => rfl) (fun _ H locs hw => ?_)
      have hw : fy D (va_A ws0 sz) s.heap H locs (wMd I a0 a1 a2 a3 a4 a5 z9) := hw
      refine lv_iinc (v := v1 + 1) (lv' := [(1, .int (v1 + 1)), (0, .ref a0)]) hx hb dX6_digest_57 hl (k := 1) rfl rfl (by decide) rfl (fun ls hl => ?_)
      refine lv_goto (tgt := 42) hx hb dX6_digest_60 (by decide) ?_
      exact ih (v1 + 1) z9 hf _ _ hw _ (lv_sub hl [1, 0] rfl)
set_option maxRecDepth 100000 in
set_option maxHeartbeats 4000000 in
theorem k_X6_digest_14 {p : Program} {l : Launch} {e : Env} {s : State} {m : MethodId} {args : Array Value} {below : List Frame} {meth : Method} {c : Code} {D : va_G} {I J O : ClassId} (E : fx p s m args meth c cX6_digest RX6 2 (some .long) D I J O) (a0 a1 a2 a3 a4 a5 : Nat)  {ws0 : va_W} {sz : Nat} (r : Int64) (y0 : MdC) : ∀ fu : Nat, ∀ (v1 : Int32) (x : MdC), f_X6_digest_14 fu v1 x = some (r, y0) → ∀ (H : Heap) (locs : List Loc), fy D (va_A ws0 sz) s.heap H locs (wMd I a0 a1 a2 a3 a4 a5 x) → ∀ ls : Array Slot, lv_has ls 2 [(0, .ref a0), (1, .int v1)] → W p l e (rmB 10 230 0 0) s m args below meth c H locs 0 0 (MQ below (qMl D sz ws0 r (fun _ : Unit => wMd I a0 a1 a2 a3 a4 a5 y0)) args s 0 0 (va_A ws0 sz)) (F0 m 14 ls []) := by
  have hx := E.1
  have hb := E.2.1
  intro fu
  induction fu with
  | zero =>
    intro v1 x hf H locs hw ls hl
    rw [f_X6_digest_14.eq_1] at hf
    cases hf
  | succ fu ih =>
    intro v1 x hf H locs hw ls hl
    rw [f_X6_digest_14.eq_2] at hf
    refine lv_iload_n hx hb dX6_digest_14 rfl (lv_at hl 1 rfl) ?_
    refine lv_bipush (v := 10) hx hb dX6_digest_15 (by decide) ?_
    refine lv_icmp_ge (tgt := 36) hx hb dX6_digest_17 (by decide) (fun hc => ?_) (fun hc => ?_)
    · rw [if_pos hc] at hf
      refine lv_aload_n hx hb dX6_digest_36 rfl (lv_at hl 0 rfl) ?_
      obtain ⟨z1, h, hf⟩ := bd_s hf
      refine x_mv0 hw [0, 1, 2, 3, 4, 5] rfl rfl (x_rV E (As := []) (rest := []) (mt_X6_mixesRow l D I J O a0 a1 a2 a3 a4 a5 H.size x z1 h) blM (x_recv E hw.1 0 6 rfl rfl rfl) (x_pcMQ0 E hw [0, 1, 2, 3, 4, 5] rfl rfl) ok_X6_mixesRow q1105 rfl hl.1 rfl (Nat.le_of_ble_eq_true rfl) ⟨Nat.le_of_ble_eq_true rfl, Nat.le_of_ble_eq_true rfl⟩ ⟨Nat.le_of_ble_eq_true rfl, Nat.le_of_ble_eq_true rfl⟩ dX6_digest_37) (fun _ => rfl) (fun _ H locs hw => ?_)
      have hw : fy D (va_A ws0 sz) s.heap H locs (wMd I a0 a1 a2 a3 a4 a5 z1) := hw
      refine lv_iconst (v := 1) hx hb dX6_digest_40 (by decide) ?_
      refine lv_istore_n (lv' := [(1, .int 1), (0, .ref a0)]) hx hb dX6_digest_41 rfl hl (by decide) rfl (fun ls hl => ?_)
      exact k_X6_digest_42 E a0 a1 a2 a3 a4 a5 r y0 FU 1 z1 hf _ _ hw _ (lv_sub hl [1, 0] rfl)
    · rw [if_neg hc] at hf
      refine lv_aload_n hx hb dX6_digest_20 rfl (lv_at hl 0 rfl) ?_
      refine lv_aload_n hx hb dX6_digest_21 rfl (lv_at hl 0 rfl) ?_
      refine lv_iload_n hx hb dX6_digest_22 rfl (lv_at hl 1 rfl) ?_
      obtain ⟨z2, h, hf⟩ := bd_s hf
      refine x_ci (x_rV E (As := [.int v1]) (rest := [.ref a0]) (mt_X6_counted l D I J O a0 a1 a2 a3 a4 a5 v1 x z2 h) blR (x_recv E hw.1 0 6 rfl rfl rfl) (x_pcR E hw.1) ok_X6_counted q1043 rfl hl.1 rfl (Nat.le_of_ble_eq_true rfl) ⟨Nat.le_of_ble_eq_true rfl, Nat.le_of_ble_eq_true rfl⟩ ⟨Nat.le_of_ble_eq_true rfl, Nat.le_of_ble_eq_true rfl⟩ dX6_digest_23) ?_
      refine lv_i2l (v := z2.toInt64) hx hb dX6_digest_26 rfl ?_
      obtain ⟨z3, h, hf⟩ := bd_s hf
      refine x_mv0 hw [0, 1, 2, 3, 4, 5] rfl rfl (x_rV E (As := [.long z2.toInt64]) (rest := []) (mt_X6_mixes l D I J O a0 a1 a2 a3 a4 a5 H.size z2.toInt64 x z3 h) blM (x_recv E hw.1 0 6 rfl rfl rfl) (x_pcMQ0 E hw [0, 1, 2, 3, 4, 5] rfl rfl) ok_X6_mixes q1100 rfl hl.1 rfl (Nat.le_of_ble_eq_true rfl) ⟨Nat.le_of_ble_eq_true rfl, Nat.le_of_ble_eq_true rfl⟩ ⟨Nat.le_of_ble_eq_true rfl, Nat.le_of_ble_eq_true rfl⟩ dX6_digest_27) (fun _ => rfl) (fun _ H locs hw => ?_)
      have hw : fy D (va_A ws0 sz) s.heap H locs (wMd I a0 a1 a2 a3 a4 a5 z3) := hw
      refine lv_iinc (v := v1 + 1) (lv' := [(1, .int (v1 + 1)), (0, .ref a0)]) hx hb dX6_digest_30 hl (k := 1) rfl rfl (by decide) rfl (fun ls hl => ?_)
      refine lv_goto (tgt := 14) hx hb dX6_digest_33 (by decide) ?_
      exact ih (v1 + 1) z3 hf _ _ hw _ (lv_sub hl [1, 0] rfl)
set_option maxRecDepth 100000 in
set_option maxHeartbeats 4000000 in
theorem mt_X6_digest (l : Launch) (D : va_G) (I J O : ClassId) (a0 a1 a2 a3 a4 a5 : Nat) (sz : Nat)  (x : MdC) (r : Int64) (y0 : MdC) (hf : f_X6_digest x = some (r, y0)) : mM l yX6_digest cX6_digest 2 (some .long) 10 230 0 0 D I J O sz [.ref a0] (wMd I a0 a1 a2 a3 a4 a5 x) (qMl D sz (wMd I a0 a1 a2 a3 a4 a5 x) r (fun _ : Unit => wMd I a0 a1 a2 a3 a4 a5 y0)) := by
  refine mM_open (own := RX6) rfl (by decide +kernel) (Nat.le_of_ble_eq_true rfl) (fun p e s m below meth c ls E hnm hsz hw hl => ?_)
  obtain ⟨ws0, hws⟩ : ∃ ws0 : va_W, ws0 = wMd I a0 a1 a2 a3 a4 a5 x := ⟨_, rfl⟩
  have hw : fy D (va_A ws0 sz) s.heap s.heap [] (wMd I a0 a1 a2 a3 a4 a5 x) := by rw [hws]; exact hw
  rw [← hws]
  have hx := E.1
  have hb := E.2.1
  have hl : lv_has ls 2 [(0, .ref a0)] := hl
  unfold f_X6_digest at hf
  refine lv_aload_n hx hb dX6_digest_0 rfl (lv_at hl 0 rfl) ?_
  refine lv_iconst (v := 0) hx hb dX6_digest_1 (by decide) ?_
  refine x_put E hw 0 rfl rfl in6 tyX6_ok nmX6 0 (by decide) q801 rfl rfl rfl rfl (Nat.le_of_ble_eq_true rfl) dX6_digest_2 (fun H locs hw => ?_)
  have hw : fy D (va_A ws0 sz) s.heap H locs (wMd I a0 a1 a2 a3 a4 a5 (0, x.2)) := hw
  refine lv_aload_n hx hb dX6_digest_5 rfl (lv_at hl 0 rfl) ?_
  refine lv_ldc2 (v := 3251) hx hb E.2.2.2.1 (E.2.2.2.2.1 _ q1099) dX6_digest_6 ?_
  refine x_put E hw 0 rfl rfl in6 tyX6_ok nmX6 10 (by decide) q811 rfl rfl rfl rfl (Nat.le_of_ble_eq_true rfl) dX6_digest_9 (fun H locs hw => ?_)
  have hw : fy D (va_A ws0 sz) s.heap H locs (wMd I a0 a1 a2 a3 a4 a5 (0, x.2.1, x.2.2.1, x.2.2.2.1, x.2.2.2.2.1, x.2.2.2.2.2.1, x.2.2.2.2.2.2.1, x.2.2.2.2.2.2.2.1, x.2.2.2.2.2.2.2.2.1, x.2.2.2.2.2.2.2.2.2.1, 3251)) := hw
  refine lv_iconst (v := 0) hx hb dX6_digest_12 (by decide) ?_
  refine lv_istore_n (lv' := [(1, .int 0), (0, .ref a0)]) hx hb dX6_digest_13 rfl hl (by decide) rfl (fun ls hl => ?_)
  exact k_X6_digest_14 E a0 a1 a2 a3 a4 a5 r y0 FU 0 (0, x.2.1, x.2.2.1, x.2.2.2.1, x.2.2.2.2.1, x.2.2.2.2.2.1, x.2.2.2.2.2.2.1, x.2.2.2.2.2.2.2.1, x.2.2.2.2.2.2.2.2.1, x.2.2.2.2.2.2.2.2.2.1, 3251) hf _ _ hw _ (lv_sub hl [1, 0] rfl)
