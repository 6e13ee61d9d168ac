theorem ok_L_row : yS yL_row cL_row 1 (some .boolean) 0 := ⟨q741, q0, q740, by decide +kernel, by decide +kernel, by decide +kernel⟩
set_option maxRecDepth 100000 in
set_option maxHeartbeats 4000000 in
theorem k_L_row_883 {p : Program} {l : Launch} {e : Env} {s : State} {m : MethodId} {args : Array Value} {below : List Frame} {meth : Method} {c : Code} {D : va_G} {I J O : ClassId} {ws0 : va_W} {sz : Nat} (E : fx p s m args meth c cL_row RL 1 (some .boolean) D I J O) (hfl : l.stackTraces = false) (hXZ : XZ (va_A ws0 sz) s) (h0 : Nat) (n t : Nat → Nat) (b0 b1 hh ha : Nat)  (r : Int32) : ∀ (x : ClC), f_L_row_883 x = some r → ∀ (ad : Nat → Nat → Nat) (H : Heap) (locs : List Loc), fy D (va_A ws0 sz) s.heap H locs (wCl I h0 n t b0 b1 hh x ++ wHi I O hh ha ad x.2.2.1) → ∀ ls : Array Slot, lv_has ls 1 [(0, .ref h0)] → W p l e (rmB 12 272 218 5072) s m args below meth c H locs 218 5072 (MQ below (qMi D sz ws0 r (fun _ : Unit => ([] : va_W))) args s 218 5072 (va_A ws0 sz)) (F0 m 883 ls []) := by
  have hx := E.1
  have hb := E.2.1
  intro x hf ad H locs hw ls hl
  unfold f_L_row_883 at hf
  refine lv_aload_n hx hb dL_row_883 rfl (lv_at hl 0 rfl) ?_
  refine lv_sipush (v := 3000) hx hb dL_row_884 (by decide) ?_
  refine lv_iconst (v := 3) hx hb dL_row_887 (by decide) ?_
  obtain ⟨z116, h, hf⟩ := rt_s hf
  refine x_ci (x_rV E (As := [.int 3000, .int 3]) (rest := []) (mt_X5_thing l D I J O h0 n t b0 b1 hh ha ad 3000 3 x z116 h) blR (x_recv E hw.1 0 5 rfl rfl rfl) (x_pcR E hw.1) ok_X5_thing q622 rfl hl.1 rfl (Nat.le_of_ble_eq_true rfl) ⟨Nat.le_of_ble_eq_true rfl, Nat.le_of_ble_eq_true rfl⟩ ⟨Nat.le_of_ble_eq_true rfl, Nat.le_of_ble_eq_true rfl⟩ dL_row_888) ?_
  refine lv_if_ne (tgt := 898) hx hb dL_row_891 (by decide) (fun hc => ?_) (fun hc => ?_)
  · rw [if_neg hc] at hf
    refine lv_iconst (v := 0) hx hb dL_row_898 (by decide) ?_
    have he0 := Option.some.inj hf
    have hw : fy D (va_A ws0 sz) s.heap H locs ([] : va_W) := fy.sub hw [] rfl rfl
    refine W.widen (k := 218) (n := 5072) (Nat.le_of_ble_eq_true rfl) (Nat.le_of_ble_eq_true rfl) ?_
    exact x_zM (w1 := fun _ : Unit => ([] : va_W)) E () hw (Or.inl rfl) he0 dL_row_899
  · rw [if_pos hc] at hf
    refine lv_iconst (v := 1) hx hb dL_row_894 (by decide) ?_
    refine lv_goto (tgt := 899) hx hb dL_row_895 (by decide) ?_
    have he0 := Option.some.inj hf
    have hw : fy D (va_A ws0 sz) s.heap H locs ([] : va_W) := fy.sub hw [] rfl rfl
    refine W.widen (k := 218) (n := 5072) (Nat.le_of_ble_eq_true rfl) (Nat.le_of_ble_eq_true rfl) ?_
    exact x_zM (w1 := fun _ : Unit => ([] : va_W)) E () hw (Or.inr rfl) he0 dL_row_899
set_option maxRecDepth 100000 in
set_option maxHeartbeats 4000000 in
theorem k_L_row_812 {p : Program} {l : Launch} {e : Env} {s : State} {m : MethodId} {args : Array Value} {below : List Frame} {meth : Method} {c : Code} {D : va_G} {I J O : ClassId} {ws0 : va_W} {sz : Nat} (E : fx p s m args meth c cL_row RL 1 (some .boolean) D I J O) (hfl : l.stackTraces = false) (hXZ : XZ (va_A ws0 sz) s) (h0 : Nat) (n t : Nat → Nat) (b0 b1 hh ha : Nat)  (r : Int32) : ∀ (x : ClC), f_L_row_812 x = some r → ∀ (ad : Nat → Nat → Nat) (H : Heap) (locs : List Loc), fy D (va_A ws0 sz) s.heap H locs (wCl I h0 n t b0 b1 hh x ++ wHi I O hh ha ad x.2.2.1) → ∀ ls : Array Slot, lv_has ls 1 [(0, .ref h0)] → W p l e (rmB 12 272 218 5072) s m args below meth c H locs 218 5072 (MQ below (qMi D sz ws0 r (fun _ : Unit => ([] : va_W))) args s 218 5072 (va_A ws0 sz)) (F0 m 812 ls []) := by
  have hx := E.1
  have hb := E.2.1
  intro x hf ad H locs hw ls hl
  unfold f_L_row_812 at hf
  refine lv_aload_n hx hb dL_row_812 rfl (lv_at hl 0 rfl) ?_
  obtain ⟨z105, h, hf⟩ := rt_s hf
  refine x_miFP0 hw (x_rV E (As := []) (rest := []) (mt_X5_undo l D I J O h0 n t b0 b1 hh ha ad H.size x z105.1 z105.2 h) blM (x_recv E hw.1 0 5 rfl rfl rfl) (x_pcMPF0 E hw) ok_X5_undo q291 rfl hl.1 rfl (Nat.le_of_ble_eq_true rfl) ⟨Nat.le_of_ble_eq_true rfl, Nat.le_of_ble_eq_true rfl⟩ ⟨Nat.le_of_ble_eq_true rfl, Nat.le_of_ble_eq_true rfl⟩ dL_row_813) (fun _ => rfl) (fun ad106 H locs hw => ?_)
  have hw : fy D (va_A ws0 sz) s.heap H locs (wCl I h0 n t b0 b1 hh z105.2 ++ wHi I O hh ha ad106 z105.2.2.2.1) := hw
  refine lv_iconst (v := 4) hx hb dL_row_816 (by decide) ?_
  refine lv_icmp_ne (tgt := 898) hx hb dL_row_817 (by decide) (fun hc => ?_) (fun hc => ?_)
  · rw [if_neg hc] at hf
    refine lv_iconst (v := 0) hx hb dL_row_898 (by decide) ?_
    have he0 := Option.some.inj hf
    have hw : fy D (va_A ws0 sz) s.heap H locs ([] : va_W) := fy.sub hw [] rfl rfl
    refine W.widen (k := 218) (n := 5072) (Nat.le_of_ble_eq_true rfl) (Nat.le_of_ble_eq_true rfl) ?_
    exact x_zM (w1 := fun _ : Unit => ([] : va_W)) E () hw (Or.inl rfl) he0 dL_row_899
  · rw [if_pos hc] at hf
    refine lv_aload_n hx hb dL_row_820 rfl (lv_at hl 0 rfl) ?_
    refine lv_iconst (v := 0) hx hb dL_row_821 (by decide) ?_
    obtain ⟨z107, h, hf⟩ := rt_s hf
    refine x_ci (x_rV E (As := [.int 0]) (rest := []) (mt_X5_at l D I J O h0 n t b0 b1 hh ha ad106 0 z105.2 z107 h) blR (x_recv E hw.1 0 5 rfl rfl rfl) (x_pcR E hw.1) ok_X5_at q371 rfl hl.1 rfl (Nat.le_of_ble_eq_true rfl) ⟨Nat.le_of_ble_eq_true rfl, Nat.le_of_ble_eq_true rfl⟩ ⟨Nat.le_of_ble_eq_true rfl, Nat.le_of_ble_eq_true rfl⟩ dL_row_822) ?_
    refine lv_sipush (v := 2001) hx hb dL_row_825 (by decide) ?_
    refine lv_icmp_ne (tgt := 898) hx hb dL_row_828 (by decide) (fun hc => ?_) (fun hc => ?_)
    · rw [if_neg hc] at hf
      refine lv_iconst (v := 0) hx hb dL_row_898 (by decide) ?_
      have he0 := Option.some.inj hf
      have hw : fy D (va_A ws0 sz) s.heap H locs ([] : va_W) := fy.sub hw [] rfl rfl
      refine W.widen (k := 218) (n := 5072) (Nat.le_of_ble_eq_true rfl) (Nat.le_of_ble_eq_true rfl) ?_
      exact x_zM (w1 := fun _ : Unit => ([] : va_W)) E () hw (Or.inl rfl) he0 dL_row_899
    · rw [if_pos hc] at hf
      refine lv_aload_n hx hb dL_row_831 rfl (lv_at hl 0 rfl) ?_
      refine lv_iconst (v := 2) hx hb dL_row_832 (by decide) ?_
      refine lv_iconst (v := 0) hx hb dL_row_833 (by decide) ?_
      obtain ⟨z108, h, hf⟩ := rt_s hf
      refine x_ci (x_rV E (As := [.int 2, .int 0]) (rest := []) (mt_X5_cell l D I J O h0 n t b0 b1 hh ha ad106 2 0 z105.2 z108 h) blR (x_recv E hw.1 0 5 rfl rfl rfl) (x_pcR E hw.1) ok_X5_cell q635 rfl hl.1 rfl (Nat.le_of_ble_eq_true rfl) ⟨Nat.le_of_ble_eq_true rfl, Nat.le_of_ble_eq_true rfl⟩ ⟨Nat.le_of_ble_eq_true rfl, Nat.le_of_ble_eq_true rfl⟩ dL_row_834) ?_
      refine lv_iconst (v := 1) hx hb dL_row_837 (by decide) ?_
      refine lv_icmp_ne (tgt := 898) hx hb dL_row_838 (by decide) (fun hc => ?_) (fun hc => ?_)
      · rw [if_neg hc] at hf
        refine lv_iconst (v := 0) hx hb dL_row_898 (by decide) ?_
        have he0 := Option.some.inj hf
        have hw : fy D (va_A ws0 sz) s.heap H locs ([] : va_W) := fy.sub hw [] rfl rfl
        refine W.widen (k := 218) (n := 5072) (Nat.le_of_ble_eq_true rfl) (Nat.le_of_ble_eq_true rfl) ?_
        exact x_zM (w1 := fun _ : Unit => ([] : va_W)) E () hw (Or.inl rfl) he0 dL_row_899
      · rw [if_pos hc] at hf
        refine lv_aload_n hx hb dL_row_841 rfl (lv_at hl 0 rfl) ?_
        obtain ⟨z109, h, hf⟩ := rt_s hf
        refine x_miFP0 hw (x_rV E (As := []) (rest := []) (mt_X5_undo l D I J O h0 n t b0 b1 hh ha ad106 H.size z105.2 z109.1 z109.2 h) blM (x_recv E hw.1 0 5 rfl rfl rfl) (x_pcMPF0 E hw) ok_X5_undo q291 rfl hl.1 rfl (Nat.le_of_ble_eq_true rfl) ⟨Nat.le_of_ble_eq_true rfl, Nat.le_of_ble_eq_true rfl⟩ ⟨Nat.le_of_ble_eq_true rfl, Nat.le_of_ble_eq_true rfl⟩ dL_row_842) (fun _ => rfl) (fun ad110 H locs hw => ?_)
        have hw : fy D (va_A ws0 sz) s.heap H locs (wCl I h0 n t b0 b1 hh z109.2 ++ wHi I O hh ha ad110 z109.2.2.2.1) := hw
        refine lv_iconst (v := 3) hx hb dL_row_845 (by decide) ?_
        refine lv_icmp_ne (tgt := 898) hx hb dL_row_846 (by decide) (fun hc => ?_) (fun hc => ?_)
        · rw [if_neg hc] at hf
          refine lv_iconst (v := 0) hx hb dL_row_898 (by decide) ?_
          have he0 := Option.some.inj hf
          have hw : fy D (va_A ws0 sz) s.heap H locs ([] : va_W) := fy.sub hw [] rfl rfl
          refine W.widen (k := 218) (n := 5072) (Nat.le_of_ble_eq_true rfl) (Nat.le_of_ble_eq_true rfl) ?_
          exact x_zM (w1 := fun _ : Unit => ([] : va_W)) E () hw (Or.inl rfl) he0 dL_row_899
        · rw [if_pos hc] at hf
          refine lv_aload_n hx hb dL_row_849 rfl (lv_at hl 0 rfl) ?_
          refine lv_iconst (v := 0) hx hb dL_row_850 (by decide) ?_
          obtain ⟨z111, h, hf⟩ := rt_s hf
          refine x_ci (x_rV E (As := [.int 0]) (rest := []) (mt_X5_at l D I J O h0 n t b0 b1 hh ha ad110 0 z109.2 z111 h) blR (x_recv E hw.1 0 5 rfl rfl rfl) (x_pcR E hw.1) ok_X5_at q371 rfl hl.1 rfl (Nat.le_of_ble_eq_true rfl) ⟨Nat.le_of_ble_eq_true rfl, Nat.le_of_ble_eq_true rfl⟩ ⟨Nat.le_of_ble_eq_true rfl, Nat.le_of_ble_eq_true rfl⟩ dL_row_851) ?_
          refine lv_if_ne (tgt := 898) hx hb dL_row_854 (by decide) (fun hc => ?_) (fun hc => ?_)
          · rw [if_neg hc] at hf
            refine lv_iconst (v := 0) hx hb dL_row_898 (by decide) ?_
            have he0 := Option.some.inj hf
            have hw : fy D (va_A ws0 sz) s.heap H locs ([] : va_W) := fy.sub hw [] rfl rfl
            refine W.widen (k := 218) (n := 5072) (Nat.le_of_ble_eq_true rfl) (Nat.le_of_ble_eq_true rfl) ?_
            exact x_zM (w1 := fun _ : Unit => ([] : va_W)) E () hw (Or.inl rfl) he0 dL_row_899
          · rw [if_pos hc] at hf
            refine lv_aload_n hx hb dL_row_857 rfl (lv_at hl 0 rfl) ?_
            refine lv_iconst (v := 1) hx hb dL_row_858 (by decide) ?_
            refine lv_iconst (v := 0) hx hb dL_row_859 (by decide) ?_
            obtain ⟨z112, h, hf⟩ := rt_s hf
            refine x_ci (x_rV E (As := [.int 1, .int 0]) (rest := []) (mt_X5_walker l D I J O h0 n t b0 b1 hh ha ad110 1 0 z109.2 z112 h) blR (x_recv E hw.1 0 5 rfl rfl rfl) (x_pcR E hw.1) ok_X5_walker q644 rfl hl.1 rfl (Nat.le_of_ble_eq_true rfl) ⟨Nat.le_of_ble_eq_true rfl, Nat.le_of_ble_eq_true rfl⟩ ⟨Nat.le_of_ble_eq_true rfl, Nat.le_of_ble_eq_true rfl⟩ dL_row_860) ?_
            refine lv_iconst (v := 1) hx hb dL_row_863 (by decide) ?_
            refine lv_icmp_ne (tgt := 898) hx hb dL_row_864 (by decide) (fun hc => ?_) (fun hc => ?_)
            · rw [if_neg hc] at hf
              refine lv_iconst (v := 0) hx hb dL_row_898 (by decide) ?_
              have he0 := Option.some.inj hf
              have hw : fy D (va_A ws0 sz) s.heap H locs ([] : va_W) := fy.sub hw [] rfl rfl
              refine W.widen (k := 218) (n := 5072) (Nat.le_of_ble_eq_true rfl) (Nat.le_of_ble_eq_true rfl) ?_
              exact x_zM (w1 := fun _ : Unit => ([] : va_W)) E () hw (Or.inl rfl) he0 dL_row_899
            · rw [if_pos hc] at hf
              refine lv_aload_n hx hb dL_row_867 rfl (lv_at hl 0 rfl) ?_
              obtain ⟨z113, h, hf⟩ := rt_s hf
              refine x_miFP0 hw (x_rV E (As := []) (rest := []) (mt_X5_undo l D I J O h0 n t b0 b1 hh ha ad110 H.size z109.2 z113.1 z113.2 h) blM (x_recv E hw.1 0 5 rfl rfl rfl) (x_pcMPF0 E hw) ok_X5_undo q291 rfl hl.1 rfl (Nat.le_of_ble_eq_true rfl) ⟨Nat.le_of_ble_eq_true rfl, Nat.le_of_ble_eq_true rfl⟩ ⟨Nat.le_of_ble_eq_true rfl, Nat.le_of_ble_eq_true rfl⟩ dL_row_868) (fun _ => rfl) (fun ad114 H locs hw => ?_)
              have hw : fy D (va_A ws0 sz) s.heap H locs (wCl I h0 n t b0 b1 hh z113.2 ++ wHi I O hh ha ad114 z113.2.2.2.1) := hw
              refine lv_iconst (v := 2) hx hb dL_row_871 (by decide) ?_
              refine lv_icmp_ne (tgt := 898) hx hb dL_row_872 (by decide) (fun hc => ?_) (fun hc => ?_)
              · rw [if_neg hc] at hf
                refine lv_iconst (v := 0) hx hb dL_row_898 (by decide) ?_
                have he0 := Option.some.inj hf
                have hw : fy D (va_A ws0 sz) s.heap H locs ([] : va_W) := fy.sub hw [] rfl rfl
                refine W.widen (k := 218) (n := 5072) (Nat.le_of_ble_eq_true rfl) (Nat.le_of_ble_eq_true rfl) ?_
                exact x_zM (w1 := fun _ : Unit => ([] : va_W)) E () hw (Or.inl rfl) he0 dL_row_899
              · rw [if_pos hc] at hf
                refine lv_aload_n hx hb dL_row_875 rfl (lv_at hl 0 rfl) ?_
                refine lv_iconst (v := 5) hx hb dL_row_876 (by decide) ?_
                obtain ⟨z115, h, hf⟩ := rt_s hf
                refine x_ci (x_rV E (As := [.int 5]) (rest := []) (mt_X5_count l D I J O h0 n t b0 b1 hh ha ad114 5 z113.2 z115 h) blR (x_recv E hw.1 0 5 rfl rfl rfl) (x_pcR E hw.1) ok_X5_count q399 rfl hl.1 rfl (Nat.le_of_ble_eq_true rfl) ⟨Nat.le_of_ble_eq_true rfl, Nat.le_of_ble_eq_true rfl⟩ ⟨Nat.le_of_ble_eq_true rfl, Nat.le_of_ble_eq_true rfl⟩ dL_row_877) ?_
                refine lv_if_ne (tgt := 898) hx hb dL_row_880 (by decide) (fun hc => ?_) (fun hc => ?_)
                · rw [if_neg hc] at hf
                  refine lv_iconst (v := 0) hx hb dL_row_898 (by decide) ?_
                  have he0 := Option.some.inj hf
                  have hw : fy D (va_A ws0 sz) s.heap H locs ([] : va_W) := fy.sub hw [] rfl rfl
                  refine W.widen (k := 218) (n := 5072) (Nat.le_of_ble_eq_true rfl) (Nat.le_of_ble_eq_true rfl) ?_
                  exact x_zM (w1 := fun _ : Unit => ([] : va_W)) E () hw (Or.inl rfl) he0 dL_row_899
                · rw [if_pos hc] at hf
                  refine W.widen (k := 218) (n := 5072) (Nat.le_of_ble_eq_true rfl) (Nat.le_of_ble_eq_true rfl) ?_
                  exact k_L_row_883 E hfl hXZ h0 n t b0 b1 hh ha r z113.2 hf ad114 _ _ hw _ (lv_sub hl [0] rfl)
set_option maxRecDepth 100000 in
set_option maxHeartbeats 4000000 in
theorem k_L_row_737 {p : Program} {l : Launch} {e : Env} {s : State} {m : MethodId} {args : Array Value} {below : List Frame} {meth : Method} {c : Code} {D : va_G} {I J O : ClassId} {ws0 : va_W} {sz : Nat} (E : fx p s m args meth c cL_row RL 1 (some .boolean) D I J O) (hfl : l.stackTraces = false) (hXZ : XZ (va_A ws0 sz) s) (h0 : Nat) (n t : Nat → Nat) (b0 b1 hh ha : Nat)  (r : Int32) : ∀ (x : ClC), f_L_row_737 x = some r → ∀ (ad : Nat → Nat → Nat) (H : Heap) (locs : List Loc), fy D (va_A ws0 sz) s.heap H locs (wCl I h0 n t b0 b1 hh x ++ wHi I O hh ha ad x.2.2.1) → ∀ ls : Array Slot, lv_has ls 1 [(0, .ref h0)] → W p l e (rmB 12 272 218 5072) s m args below meth c H locs 160 4724 (MQ below (qMi D sz ws0 r (fun _ : Unit => ([] : va_W))) args s 218 5072 (va_A ws0 sz)) (F0 m 737 ls []) := by
  have hx := E.1
  have hb := E.2.1
  intro x hf ad H locs hw ls hl
  unfold f_L_row_737 at hf
  refine lv_aload_n hx hb dL_row_737 rfl (lv_at hl 0 rfl) ?_
  refine lv_iconst (v := 1) hx hb dL_row_738 (by decide) ?_
  refine lv_iconst (v := 0) hx hb dL_row_739 (by decide) ?_
  obtain ⟨z94, h, hf⟩ := rt_s hf
  refine x_ci (x_rV E (As := [.int 1, .int 0]) (rest := []) (mt_X5_thing l D I J O h0 n t b0 b1 hh ha ad 1 0 x z94 h) blR (x_recv E hw.1 0 5 rfl rfl rfl) (x_pcR E hw.1) ok_X5_thing q622 rfl hl.1 rfl (Nat.le_of_ble_eq_true rfl) ⟨Nat.le_of_ble_eq_true rfl, Nat.le_of_ble_eq_true rfl⟩ ⟨Nat.le_of_ble_eq_true rfl, Nat.le_of_ble_eq_true rfl⟩ dL_row_740) ?_
  refine lv_bipush (v := 8) hx hb dL_row_743 (by decide) ?_
  refine lv_icmp_ne (tgt := 783) hx hb dL_row_745 (by decide) (fun hc => ?_) (fun hc => ?_)
  · rw [if_neg hc] at hf
    refine lv_iconst (v := 0) hx hb dL_row_783 (by decide) ?_
    have he0 := Option.some.inj hf
    have hw : fy D (va_A ws0 sz) s.heap H locs ([] : va_W) := fy.sub hw [] rfl rfl
    refine W.widen (k := 218) (n := 5072) (Nat.le_of_ble_eq_true rfl) (Nat.le_of_ble_eq_true rfl) ?_
    exact x_zM (w1 := fun _ : Unit => ([] : va_W)) E () hw (Or.inl rfl) he0 dL_row_784
  · rw [if_pos hc] at hf
    refine lv_aload_n hx hb dL_row_748 rfl (lv_at hl 0 rfl) ?_
    obtain ⟨z95, h, hf⟩ := bd_s hf
    refine x_miFP0 hw (x_rS E (As := [.ref h0]) (rest := []) (mt_L_refused l hfl D I J O h0 n t b0 b1 hh ha ad H.size x z95.1 z95.2 h) blZ (x_pcZF0 E hXZ hw) ok_L_refused q686 rfl hl.1 rfl (Nat.le_of_ble_eq_true rfl) ⟨Nat.le_of_ble_eq_true rfl, Nat.le_of_ble_eq_true rfl⟩ ⟨Nat.le_of_ble_eq_true rfl, Nat.le_of_ble_eq_true rfl⟩ dL_row_749) (fun _ => rfl) (fun ad96 H locs hw => ?_)
    have hw : fy D (va_A ws0 sz) s.heap H locs (wCl I h0 n t b0 b1 hh z95.2 ++ wHi I O hh ha ad96 z95.2.2.2.1) := hw
    refine lv_if_eq (tgt := 783) hx hb dL_row_752 (by decide) (fun hc => ?_) (fun hc => ?_)
    · rw [if_pos hc] at hf
      refine lv_iconst (v := 0) hx hb dL_row_783 (by decide) ?_
      have he0 := Option.some.inj hf
      have hw : fy D (va_A ws0 sz) s.heap H locs ([] : va_W) := fy.sub hw [] rfl rfl
      refine W.widen (k := 218) (n := 5072) (Nat.le_of_ble_eq_true rfl) (Nat.le_of_ble_eq_true rfl) ?_
      exact x_zM (w1 := fun _ : Unit => ([] : va_W)) E () hw (Or.inl rfl) he0 dL_row_784
    · rw [if_neg hc] at hf
      refine lv_aload_n hx hb dL_row_755 rfl (lv_at hl 0 rfl) ?_
      refine lv_iconst (v := 1) hx hb dL_row_756 (by decide) ?_
      obtain ⟨z97, h, hf⟩ := rt_s hf
      refine x_miFP0 hw (x_rV E (As := [.int 1]) (rest := []) (mt_X5_goOn l D I J O h0 n t b0 b1 hh ha ad96 H.size 1 z95.2 z97.1 z97.2 h) blM (x_recv E hw.1 0 5 rfl rfl rfl) (x_pcMPF0 E hw) ok_X5_goOn q538 rfl hl.1 rfl (Nat.le_of_ble_eq_true rfl) ⟨Nat.le_of_ble_eq_true rfl, Nat.le_of_ble_eq_true rfl⟩ ⟨Nat.le_of_ble_eq_true rfl, Nat.le_of_ble_eq_true rfl⟩ dL_row_757) (fun _ => rfl) (fun ad98 H locs hw => ?_)
      have hw : fy D (va_A ws0 sz) s.heap H locs (wCl I h0 n t b0 b1 hh z97.2 ++ wHi I O hh ha ad98 z97.2.2.2.1) := hw
      refine lv_iconst (v := 1) hx hb dL_row_760 (by decide) ?_
      refine lv_icmp_ne (tgt := 783) hx hb dL_row_761 (by decide) (fun hc => ?_) (fun hc => ?_)
      · rw [if_neg hc] at hf
        refine lv_iconst (v := 0) hx hb dL_row_783 (by decide) ?_
        have he0 := Option.some.inj hf
        have hw : fy D (va_A ws0 sz) s.heap H locs ([] : va_W) := fy.sub hw [] rfl rfl
        refine W.widen (k := 218) (n := 5072) (Nat.le_of_ble_eq_true rfl) (Nat.le_of_ble_eq_true rfl) ?_
        exact x_zM (w1 := fun _ : Unit => ([] : va_W)) E () hw (Or.inl rfl) he0 dL_row_784
      · rw [if_pos hc] at hf
        refine lv_aload_n hx hb dL_row_764 rfl (lv_at hl 0 rfl) ?_
        refine lv_iconst (v := 1) hx hb dL_row_765 (by decide) ?_
        obtain ⟨z99, h, hf⟩ := rt_s hf
        refine x_ci (x_rV E (As := [.int 1]) (rest := []) (mt_X5_count l D I J O h0 n t b0 b1 hh ha ad98 1 z97.2 z99 h) blR (x_recv E hw.1 0 5 rfl rfl rfl) (x_pcR E hw.1) ok_X5_count q399 rfl hl.1 rfl (Nat.le_of_ble_eq_true rfl) ⟨Nat.le_of_ble_eq_true rfl, Nat.le_of_ble_eq_true rfl⟩ ⟨Nat.le_of_ble_eq_true rfl, Nat.le_of_ble_eq_true rfl⟩ dL_row_766) ?_
        refine lv_if_ne (tgt := 783) hx hb dL_row_769 (by decide) (fun hc => ?_) (fun hc => ?_)
        · rw [if_neg hc] at hf
          refine lv_iconst (v := 0) hx hb dL_row_783 (by decide) ?_
          have he0 := Option.some.inj hf
          have hw : fy D (va_A ws0 sz) s.heap H locs ([] : va_W) := fy.sub hw [] rfl rfl
          refine W.widen (k := 218) (n := 5072) (Nat.le_of_ble_eq_true rfl) (Nat.le_of_ble_eq_true rfl) ?_
          exact x_zM (w1 := fun _ : Unit => ([] : va_W)) E () hw (Or.inl rfl) he0 dL_row_784
        · rw [if_pos hc] at hf
          refine lv_aload_n hx hb dL_row_772 rfl (lv_at hl 0 rfl) ?_
          refine lv_bipush (v := 9) hx hb dL_row_773 (by decide) ?_
          obtain ⟨z100, h, hf⟩ := rt_s hf
          refine x_ci (x_rV E (As := [.int 9]) (rest := []) (mt_X5_count l D I J O h0 n t b0 b1 hh ha ad98 9 z97.2 z100 h) blR (x_recv E hw.1 0 5 rfl rfl rfl) (x_pcR E hw.1) ok_X5_count q399 rfl hl.1 rfl (Nat.le_of_ble_eq_true rfl) ⟨Nat.le_of_ble_eq_true rfl, Nat.le_of_ble_eq_true rfl⟩ ⟨Nat.le_of_ble_eq_true rfl, Nat.le_of_ble_eq_true rfl⟩ dL_row_775) ?_
          refine lv_bipush (v := 6) hx hb dL_row_778 (by decide) ?_
          refine lv_icmp_eq (tgt := 785) hx hb dL_row_780 (by decide) (fun hc => ?_) (fun hc => ?_)
          · rw [if_pos hc] at hf
            refine lv_aload_n hx hb dL_row_785 rfl (lv_at hl 0 rfl) ?_
            obtain ⟨z101, h, hf⟩ := rt_s hf
            refine x_miFP0 hw (x_rV E (As := []) (rest := []) (mt_X5_undo l D I J O h0 n t b0 b1 hh ha ad98 H.size z97.2 z101.1 z101.2 h) blM (x_recv E hw.1 0 5 rfl rfl rfl) (x_pcMPF0 E hw) ok_X5_undo q291 rfl hl.1 rfl (Nat.le_of_ble_eq_true rfl) ⟨Nat.le_of_ble_eq_true rfl, Nat.le_of_ble_eq_true rfl⟩ ⟨Nat.le_of_ble_eq_true rfl, Nat.le_of_ble_eq_true rfl⟩ dL_row_786) (fun _ => rfl) (fun ad102 H locs hw => ?_)
            have hw : fy D (va_A ws0 sz) s.heap H locs (wCl I h0 n t b0 b1 hh z101.2 ++ wHi I O hh ha ad102 z101.2.2.2.1) := hw
            refine lv_iconst (v := 5) hx hb dL_row_789 (by decide) ?_
            refine lv_icmp_ne (tgt := 898) hx hb dL_row_790 (by decide) (fun hc => ?_) (fun hc => ?_)
            · rw [if_neg hc] at hf
              refine lv_iconst (v := 0) hx hb dL_row_898 (by decide) ?_
              have he0 := Option.some.inj hf
              have hw : fy D (va_A ws0 sz) s.heap H locs ([] : va_W) := fy.sub hw [] rfl rfl
              refine W.widen (k := 218) (n := 5072) (Nat.le_of_ble_eq_true rfl) (Nat.le_of_ble_eq_true rfl) ?_
              exact x_zM (w1 := fun _ : Unit => ([] : va_W)) E () hw (Or.inl rfl) he0 dL_row_899
            · rw [if_pos hc] at hf
              refine lv_aload_n hx hb dL_row_793 rfl (lv_at hl 0 rfl) ?_
              refine lv_iconst (v := 1) hx hb dL_row_794 (by decide) ?_
              obtain ⟨z103, h, hf⟩ := rt_s hf
              refine x_ci (x_rV E (As := [.int 1]) (rest := []) (mt_X5_count l D I J O h0 n t b0 b1 hh ha ad102 1 z101.2 z103 h) blR (x_recv E hw.1 0 5 rfl rfl rfl) (x_pcR E hw.1) ok_X5_count q399 rfl hl.1 rfl (Nat.le_of_ble_eq_true rfl) ⟨Nat.le_of_ble_eq_true rfl, Nat.le_of_ble_eq_true rfl⟩ ⟨Nat.le_of_ble_eq_true rfl, Nat.le_of_ble_eq_true rfl⟩ dL_row_795) ?_
              refine lv_iconst (v := 1) hx hb dL_row_798 (by decide) ?_
              refine lv_icmp_ne (tgt := 898) hx hb dL_row_799 (by decide) (fun hc => ?_) (fun hc => ?_)
              · rw [if_neg hc] at hf
                refine lv_iconst (v := 0) hx hb dL_row_898 (by decide) ?_
                have he0 := Option.some.inj hf
                have hw : fy D (va_A ws0 sz) s.heap H locs ([] : va_W) := fy.sub hw [] rfl rfl
                refine W.widen (k := 218) (n := 5072) (Nat.le_of_ble_eq_true rfl) (Nat.le_of_ble_eq_true rfl) ?_
                exact x_zM (w1 := fun _ : Unit => ([] : va_W)) E () hw (Or.inl rfl) he0 dL_row_899
              · rw [if_pos hc] at hf
                refine lv_aload_n hx hb dL_row_802 rfl (lv_at hl 0 rfl) ?_
                refine lv_iconst (v := 1) hx hb dL_row_803 (by decide) ?_
                refine lv_iconst (v := 0) hx hb dL_row_804 (by decide) ?_
                obtain ⟨z104, h, hf⟩ := rt_s hf
                refine x_ci (x_rV E (As := [.int 1, .int 0]) (rest := []) (mt_X5_walker l D I J O h0 n t b0 b1 hh ha ad102 1 0 z101.2 z104 h) blR (x_recv E hw.1 0 5 rfl rfl rfl) (x_pcR E hw.1) ok_X5_walker q644 rfl hl.1 rfl (Nat.le_of_ble_eq_true rfl) ⟨Nat.le_of_ble_eq_true rfl, Nat.le_of_ble_eq_true rfl⟩ ⟨Nat.le_of_ble_eq_true rfl, Nat.le_of_ble_eq_true rfl⟩ dL_row_805) ?_
                refine lv_iconst (v := 2) hx hb dL_row_808 (by decide) ?_
                refine lv_icmp_ne (tgt := 898) hx hb dL_row_809 (by decide) (fun hc => ?_) (fun hc => ?_)
                · rw [if_neg hc] at hf
                  refine lv_iconst (v := 0) hx hb dL_row_898 (by decide) ?_
                  have he0 := Option.some.inj hf
                  have hw : fy D (va_A ws0 sz) s.heap H locs ([] : va_W) := fy.sub hw [] rfl rfl
                  refine W.widen (k := 218) (n := 5072) (Nat.le_of_ble_eq_true rfl) (Nat.le_of_ble_eq_true rfl) ?_
                  exact x_zM (w1 := fun _ : Unit => ([] : va_W)) E () hw (Or.inl rfl) he0 dL_row_899
                · rw [if_pos hc] at hf
                  refine W.widen (k := 218) (n := 5072) (Nat.le_of_ble_eq_true rfl) (Nat.le_of_ble_eq_true rfl) ?_
                  exact k_L_row_812 E hfl hXZ h0 n t b0 b1 hh ha r z101.2 hf ad102 _ _ hw _ (lv_sub hl [0] rfl)
          · rw [if_neg hc] at hf
            refine lv_iconst (v := 0) hx hb dL_row_783 (by decide) ?_
            have he0 := Option.some.inj hf
            have hw : fy D (va_A ws0 sz) s.heap H locs ([] : va_W) := fy.sub hw [] rfl rfl
            refine W.widen (k := 218) (n := 5072) (Nat.le_of_ble_eq_true rfl) (Nat.le_of_ble_eq_true rfl) ?_
            exact x_zM (w1 := fun _ : Unit => ([] : va_W)) E () hw (Or.inl rfl) he0 dL_row_784
set_option maxRecDepth 100000 in
set_option maxHeartbeats 4000000 in
theorem k_L_row_657 {p : Program} {l : Launch} {e : Env} {s : State} {m : MethodId} {args : Array Value} {below : List Frame} {meth : Method} {c : Code} {D : va_G} {I J O : ClassId} {ws0 : va_W} {sz : Nat} (E : fx p s m args meth c cL_row RL 1 (some .boolean) D I J O) (hfl : l.stackTraces = false) (hXZ : XZ (va_A ws0 sz) s) (h0 : Nat) (n t : Nat → Nat) (b0 b1 hh ha : Nat)  (r : Int32) : ∀ (x : ClC), f_L_row_657 x = some r → ∀ (ad : Nat → Nat → Nat) (H : Heap) (locs : List Loc), fy D (va_A ws0 sz) s.heap H locs (wCl I h0 n t b0 b1 hh x ++ wHi I O hh ha ad x.2.2.1) → ∀ ls : Array Slot, lv_has ls 1 [(0, .ref h0)] → W p l e (rmB 12 272 218 5072) s m args below meth c H locs 160 4724 (MQ below (qMi D sz ws0 r (fun _ : Unit => ([] : va_W))) args s 218 5072 (va_A ws0 sz)) (F0 m 657 ls []) := by
  have hx := E.1
  have hb := E.2.1
  intro x hf ad H locs hw ls hl
  unfold f_L_row_657 at hf
  refine lv_aload_n hx hb dL_row_657 rfl (lv_at hl 0 rfl) ?_
  refine lv_iconst (v := 4) hx hb dL_row_658 (by decide) ?_
  refine lv_iconst (v := 1) hx hb dL_row_659 (by decide) ?_
  obtain ⟨z85, h, hf⟩ := rt_s hf
  refine x_ci (x_rV E (As := [.int 4, .int 1]) (rest := []) (mt_X5_room l D I J O h0 n t b0 b1 hh ha ad 4 1 x z85 h) blR (x_recv E hw.1 0 5 rfl rfl rfl) (x_pcR E hw.1) ok_X5_room q681 rfl hl.1 rfl (Nat.le_of_ble_eq_true rfl) ⟨Nat.le_of_ble_eq_true rfl, Nat.le_of_ble_eq_true rfl⟩ ⟨Nat.le_of_ble_eq_true rfl, Nat.le_of_ble_eq_true rfl⟩ dL_row_660) ?_
  refine lv_iconst (v := 2) hx hb dL_row_663 (by decide) ?_
  refine lv_icmp_ne (tgt := 783) hx hb dL_row_664 (by decide) (fun hc => ?_) (fun hc => ?_)
  · rw [if_neg hc] at hf
    refine lv_iconst (v := 0) hx hb dL_row_783 (by decide) ?_
    have he0 := Option.some.inj hf
    have hw : fy D (va_A ws0 sz) s.heap H locs ([] : va_W) := fy.sub hw [] rfl rfl
    refine W.widen (k := 218) (n := 5072) (Nat.le_of_ble_eq_true rfl) (Nat.le_of_ble_eq_true rfl) ?_
    exact x_zM (w1 := fun _ : Unit => ([] : va_W)) E () hw (Or.inl rfl) he0 dL_row_784
  · rw [if_pos hc] at hf
    refine lv_aload_n hx hb dL_row_667 rfl (lv_at hl 0 rfl) ?_
    obtain ⟨z86, h, hf⟩ := bd_s hf
    refine x_miFP0 hw (x_rV E (As := []) (rest := []) (mt_X5_together l D I J O h0 n t b0 b1 hh ha ad H.size x z86.1 z86.2 h) blM (x_recv E hw.1 0 5 rfl rfl rfl) (x_pcMPF0 E hw) ok_X5_together q264 rfl hl.1 rfl (Nat.le_of_ble_eq_true rfl) ⟨Nat.le_of_ble_eq_true rfl, Nat.le_of_ble_eq_true rfl⟩ ⟨Nat.le_of_ble_eq_true rfl, Nat.le_of_ble_eq_true rfl⟩ dL_row_668) (fun _ => rfl) (fun ad87 H locs hw => ?_)
    have hw : fy D (va_A ws0 sz) s.heap H locs (wCl I h0 n t b0 b1 hh z86.2 ++ wHi I O hh ha ad87 z86.2.2.2.1) := hw
    refine lv_iconst (v := 3) hx hb dL_row_671 (by decide) ?_
    refine lv_icmp_ne (tgt := 783) hx hb dL_row_672 (by decide) (fun hc => ?_) (fun hc => ?_)
    · rw [if_neg hc] at hf
      refine lv_iconst (v := 0) hx hb dL_row_783 (by decide) ?_
      have he0 := Option.some.inj hf
      have hw : fy D (va_A ws0 sz) s.heap H locs ([] : va_W) := fy.sub hw [] rfl rfl
      refine W.widen (k := 218) (n := 5072) (Nat.le_of_ble_eq_true rfl) (Nat.le_of_ble_eq_true rfl) ?_
      exact x_zM (w1 := fun _ : Unit => ([] : va_W)) E () hw (Or.inl rfl) he0 dL_row_784
    · rw [if_pos hc] at hf
      refine lv_aload_n hx hb dL_row_675 rfl (lv_at hl 0 rfl) ?_
      refine lv_iconst (v := 0) hx hb dL_row_676 (by decide) ?_
      obtain ⟨z88, h, hf⟩ := rt_s hf
      refine x_ci (x_rV E (As := [.int 0]) (rest := []) (mt_X5_at l D I J O h0 n t b0 b1 hh ha ad87 0 z86.2 z88 h) blR (x_recv E hw.1 0 5 rfl rfl rfl) (x_pcR E hw.1) ok_X5_at q371 rfl hl.1 rfl (Nat.le_of_ble_eq_true rfl) ⟨Nat.le_of_ble_eq_true rfl, Nat.le_of_ble_eq_true rfl⟩ ⟨Nat.le_of_ble_eq_true rfl, Nat.le_of_ble_eq_true rfl⟩ dL_row_677) ?_
      refine lv_iconst (v := 1) hx hb dL_row_680 (by decide) ?_
      refine lv_icmp_ne (tgt := 783) hx hb dL_row_681 (by decide) (fun hc => ?_) (fun hc => ?_)
      · rw [if_neg hc] at hf
        refine lv_iconst (v := 0) hx hb dL_row_783 (by decide) ?_
        have he0 := Option.some.inj hf
        have hw : fy D (va_A ws0 sz) s.heap H locs ([] : va_W) := fy.sub hw [] rfl rfl
        refine W.widen (k := 218) (n := 5072) (Nat.le_of_ble_eq_true rfl) (Nat.le_of_ble_eq_true rfl) ?_
        exact x_zM (w1 := fun _ : Unit => ([] : va_W)) E () hw (Or.inl rfl) he0 dL_row_784
      · rw [if_pos hc] at hf
        refine lv_aload_n hx hb dL_row_684 rfl (lv_at hl 0 rfl) ?_
        refine lv_iconst (v := 1) hx hb dL_row_685 (by decide) ?_
        obtain ⟨z89, h, hf⟩ := rt_s hf
        refine x_ci (x_rV E (As := [.int 1]) (rest := []) (mt_X5_at l D I J O h0 n t b0 b1 hh ha ad87 1 z86.2 z89 h) blR (x_recv E hw.1 0 5 rfl rfl rfl) (x_pcR E hw.1) ok_X5_at q371 rfl hl.1 rfl (Nat.le_of_ble_eq_true rfl) ⟨Nat.le_of_ble_eq_true rfl, Nat.le_of_ble_eq_true rfl⟩ ⟨Nat.le_of_ble_eq_true rfl, Nat.le_of_ble_eq_true rfl⟩ dL_row_686) ?_
        refine lv_sipush (v := 1000) hx hb dL_row_689 (by decide) ?_
        refine lv_icmp_ne (tgt := 783) hx hb dL_row_692 (by decide) (fun hc => ?_) (fun hc => ?_)
        · rw [if_neg hc] at hf
          refine lv_iconst (v := 0) hx hb dL_row_783 (by decide) ?_
          have he0 := Option.some.inj hf
          have hw : fy D (va_A ws0 sz) s.heap H locs ([] : va_W) := fy.sub hw [] rfl rfl
          refine W.widen (k := 218) (n := 5072) (Nat.le_of_ble_eq_true rfl) (Nat.le_of_ble_eq_true rfl) ?_
          exact x_zM (w1 := fun _ : Unit => ([] : va_W)) E () hw (Or.inl rfl) he0 dL_row_784
        · rw [if_pos hc] at hf
          refine lv_aload_n hx hb dL_row_695 rfl (lv_at hl 0 rfl) ?_
          refine lv_iconst (v := 2) hx hb dL_row_696 (by decide) ?_
          obtain ⟨z90, h, hf⟩ := rt_s hf
          refine x_ci (x_rV E (As := [.int 2]) (rest := []) (mt_X5_at l D I J O h0 n t b0 b1 hh ha ad87 2 z86.2 z90 h) blR (x_recv E hw.1 0 5 rfl rfl rfl) (x_pcR E hw.1) ok_X5_at q371 rfl hl.1 rfl (Nat.le_of_ble_eq_true rfl) ⟨Nat.le_of_ble_eq_true rfl, Nat.le_of_ble_eq_true rfl⟩ ⟨Nat.le_of_ble_eq_true rfl, Nat.le_of_ble_eq_true rfl⟩ dL_row_697) ?_
          refine lv_sipush (v := 4000) hx hb dL_row_700 (by decide) ?_
          refine lv_icmp_ne (tgt := 783) hx hb dL_row_703 (by decide) (fun hc => ?_) (fun hc => ?_)
          · rw [if_neg hc] at hf
            refine lv_iconst (v := 0) hx hb dL_row_783 (by decide) ?_
            have he0 := Option.some.inj hf
            have hw : fy D (va_A ws0 sz) s.heap H locs ([] : va_W) := fy.sub hw [] rfl rfl
            refine W.widen (k := 218) (n := 5072) (Nat.le_of_ble_eq_true rfl) (Nat.le_of_ble_eq_true rfl) ?_
            exact x_zM (w1 := fun _ : Unit => ([] : va_W)) E () hw (Or.inl rfl) he0 dL_row_784
          · rw [if_pos hc] at hf
            refine lv_aload_n hx hb dL_row_706 rfl (lv_at hl 0 rfl) ?_
            refine lv_bipush (v := 8) hx hb dL_row_707 (by decide) ?_
            obtain ⟨z91, h, hf⟩ := rt_s hf
            refine x_ci (x_rV E (As := [.int 8]) (rest := []) (mt_X5_count l D I J O h0 n t b0 b1 hh ha ad87 8 z86.2 z91 h) blR (x_recv E hw.1 0 5 rfl rfl rfl) (x_pcR E hw.1) ok_X5_count q399 rfl hl.1 rfl (Nat.le_of_ble_eq_true rfl) ⟨Nat.le_of_ble_eq_true rfl, Nat.le_of_ble_eq_true rfl⟩ ⟨Nat.le_of_ble_eq_true rfl, Nat.le_of_ble_eq_true rfl⟩ dL_row_709) ?_
            refine lv_iconst (v := 3) hx hb dL_row_712 (by decide) ?_
            refine lv_icmp_ne (tgt := 783) hx hb dL_row_713 (by decide) (fun hc => ?_) (fun hc => ?_)
            · rw [if_neg hc] at hf
              refine lv_iconst (v := 0) hx hb dL_row_783 (by decide) ?_
              have he0 := Option.some.inj hf
              have hw : fy D (va_A ws0 sz) s.heap H locs ([] : va_W) := fy.sub hw [] rfl rfl
              refine W.widen (k := 218) (n := 5072) (Nat.le_of_ble_eq_true rfl) (Nat.le_of_ble_eq_true rfl) ?_
              exact x_zM (w1 := fun _ : Unit => ([] : va_W)) E () hw (Or.inl rfl) he0 dL_row_784
            · rw [if_pos hc] at hf
              refine lv_aload_n hx hb dL_row_716 rfl (lv_at hl 0 rfl) ?_
              refine lv_sipush (v := 2001) hx hb dL_row_717 (by decide) ?_
              obtain ⟨z92, h, hf⟩ := bd_s hf
              refine x_ci (x_rV E (As := [.int 2001]) (rest := []) (mt_X5_refusal l D I J O h0 n t b0 b1 hh ha ad87 2001 z86.2 z92 h) blR (x_recv E hw.1 0 5 rfl rfl rfl) (x_pcR E hw.1) ok_X5_refusal q744 rfl hl.1 rfl (Nat.le_of_ble_eq_true rfl) ⟨Nat.le_of_ble_eq_true rfl, Nat.le_of_ble_eq_true rfl⟩ ⟨Nat.le_of_ble_eq_true rfl, Nat.le_of_ble_eq_true rfl⟩ dL_row_720) ?_
              refine lv_iconst (v := 2) hx hb dL_row_723 (by decide) ?_
              refine lv_icmp_ne (tgt := 783) hx hb dL_row_724 (by decide) (fun hc => ?_) (fun hc => ?_)
              · rw [if_neg hc] at hf
                refine lv_iconst (v := 0) hx hb dL_row_783 (by decide) ?_
                have he0 := Option.some.inj hf
                have hw : fy D (va_A ws0 sz) s.heap H locs ([] : va_W) := fy.sub hw [] rfl rfl
                refine W.widen (k := 218) (n := 5072) (Nat.le_of_ble_eq_true rfl) (Nat.le_of_ble_eq_true rfl) ?_
                exact x_zM (w1 := fun _ : Unit => ([] : va_W)) E () hw (Or.inl rfl) he0 dL_row_784
              · rw [if_pos hc] at hf
                refine lv_aload_n hx hb dL_row_727 rfl (lv_at hl 0 rfl) ?_
                refine lv_iconst (v := 2) hx hb dL_row_728 (by decide) ?_
                refine lv_iconst (v := 0) hx hb dL_row_729 (by decide) ?_
                obtain ⟨z93, h, hf⟩ := rt_s hf
                refine x_ci (x_rV E (As := [.int 2, .int 0]) (rest := []) (mt_X5_cell l D I J O h0 n t b0 b1 hh ha ad87 2 0 z86.2 z93 h) blR (x_recv E hw.1 0 5 rfl rfl rfl) (x_pcR E hw.1) ok_X5_cell q635 rfl hl.1 rfl (Nat.le_of_ble_eq_true rfl) ⟨Nat.le_of_ble_eq_true rfl, Nat.le_of_ble_eq_true rfl⟩ ⟨Nat.le_of_ble_eq_true rfl, Nat.le_of_ble_eq_true rfl⟩ dL_row_730) ?_
                refine lv_iconst (v := 2) hx hb dL_row_733 (by decide) ?_
                refine lv_icmp_ne (tgt := 783) hx hb dL_row_734 (by decide) (fun hc => ?_) (fun hc => ?_)
                · rw [if_neg hc] at hf
                  refine lv_iconst (v := 0) hx hb dL_row_783 (by decide) ?_
                  have he0 := Option.some.inj hf
                  have hw : fy D (va_A ws0 sz) s.heap H locs ([] : va_W) := fy.sub hw [] rfl rfl
                  refine W.widen (k := 218) (n := 5072) (Nat.le_of_ble_eq_true rfl) (Nat.le_of_ble_eq_true rfl) ?_
                  exact x_zM (w1 := fun _ : Unit => ([] : va_W)) E () hw (Or.inl rfl) he0 dL_row_784
                · rw [if_pos hc] at hf
                  refine W.widen (k := 160) (n := 4724) (Nat.le_of_ble_eq_true rfl) (Nat.le_of_ble_eq_true rfl) ?_
                  exact k_L_row_737 E hfl hXZ h0 n t b0 b1 hh ha r z86.2 hf ad87 _ _ hw _ (lv_sub hl [0] rfl)
set_option maxRecDepth 100000 in
set_option maxHeartbeats 4000000 in
theorem k_L_row_573 {p : Program} {l : Launch} {e : Env} {s : State} {m : MethodId} {args : Array Value} {below : List Frame} {meth : Method} {c : Code} {D : va_G} {I J O : ClassId} {ws0 : va_W} {sz : Nat} (E : fx p s m args meth c cL_row RL 1 (some .boolean) D I J O) (hfl : l.stackTraces = false) (hXZ : XZ (va_A ws0 sz) s) (h0 : Nat) (n t : Nat → Nat) (b0 b1 hh ha : Nat)  (r : Int32) : ∀ (x : ClC), f_L_row_573 x = some r → ∀ (ad : Nat → Nat → Nat) (H : Heap) (locs : List Loc), fy D (va_A ws0 sz) s.heap H locs (wCl I h0 n t b0 b1 hh x ++ wHi I O hh ha ad x.2.2.1) → ∀ ls : Array Slot, lv_has ls 1 [(0, .ref h0)] → W p l e (rmB 12 272 218 5072) s m args below meth c H locs 160 4724 (MQ below (qMi D sz ws0 r (fun _ : Unit => ([] : va_W))) args s 218 5072 (va_A ws0 sz)) (F0 m 573 ls []) := by
  have hx := E.1
  have hb := E.2.1
  intro x hf ad H locs hw ls hl
  unfold f_L_row_573 at hf
  refine lv_aload_n hx hb dL_row_573 rfl (lv_at hl 0 rfl) ?_
  refine lv_bipush (v := 7) hx hb dL_row_574 (by decide) ?_
  obtain ⟨z76, h, hf⟩ := rt_s hf
  refine x_ci (x_rV E (As := [.int 7]) (rest := []) (mt_X5_count l D I J O h0 n t b0 b1 hh ha ad 7 x z76 h) blR (x_recv E hw.1 0 5 rfl rfl rfl) (x_pcR E hw.1) ok_X5_count q399 rfl hl.1 rfl (Nat.le_of_ble_eq_true rfl) ⟨Nat.le_of_ble_eq_true rfl, Nat.le_of_ble_eq_true rfl⟩ ⟨Nat.le_of_ble_eq_true rfl, Nat.le_of_ble_eq_true rfl⟩ dL_row_576) ?_
  refine lv_iconst (v := 1) hx hb dL_row_579 (by decide) ?_
  refine lv_icmp_ne (tgt := 617) hx hb dL_row_580 (by decide) (fun hc => ?_) (fun hc => ?_)
  · rw [if_neg hc] at hf
    refine lv_iconst (v := 0) hx hb dL_row_617 (by decide) ?_
    have he0 := Option.some.inj hf
    have hw : fy D (va_A ws0 sz) s.heap H locs ([] : va_W) := fy.sub hw [] rfl rfl
    refine W.widen (k := 218) (n := 5072) (Nat.le_of_ble_eq_true rfl) (Nat.le_of_ble_eq_true rfl) ?_
    exact x_zM (w1 := fun _ : Unit => ([] : va_W)) E () hw (Or.inl rfl) he0 dL_row_618
  · rw [if_pos hc] at hf
    refine lv_aload_n hx hb dL_row_583 rfl (lv_at hl 0 rfl) ?_
    refine lv_sipush (v := 3000) hx hb dL_row_584 (by decide) ?_
    refine lv_iconst (v := 3) hx hb dL_row_587 (by decide) ?_
    obtain ⟨z77, h, hf⟩ := rt_s hf
    refine x_ci (x_rV E (As := [.int 3000, .int 3]) (rest := []) (mt_X5_thing l D I J O h0 n t b0 b1 hh ha ad 3000 3 x z77 h) blR (x_recv E hw.1 0 5 rfl rfl rfl) (x_pcR E hw.1) ok_X5_thing q622 rfl hl.1 rfl (Nat.le_of_ble_eq_true rfl) ⟨Nat.le_of_ble_eq_true rfl, Nat.le_of_ble_eq_true rfl⟩ ⟨Nat.le_of_ble_eq_true rfl, Nat.le_of_ble_eq_true rfl⟩ dL_row_588) ?_
    refine lv_iconst (v := 1) hx hb dL_row_591 (by decide) ?_
    refine lv_icmp_ne (tgt := 617) hx hb dL_row_592 (by decide) (fun hc => ?_) (fun hc => ?_)
    · rw [if_neg hc] at hf
      refine lv_iconst (v := 0) hx hb dL_row_617 (by decide) ?_
      have he0 := Option.some.inj hf
      have hw : fy D (va_A ws0 sz) s.heap H locs ([] : va_W) := fy.sub hw [] rfl rfl
      refine W.widen (k := 218) (n := 5072) (Nat.le_of_ble_eq_true rfl) (Nat.le_of_ble_eq_true rfl) ?_
      exact x_zM (w1 := fun _ : Unit => ([] : va_W)) E () hw (Or.inl rfl) he0 dL_row_618
    · rw [if_pos hc] at hf
      refine lv_aload_n hx hb dL_row_595 rfl (lv_at hl 0 rfl) ?_
      refine lv_sipush (v := 6000) hx hb dL_row_596 (by decide) ?_
      refine lv_iconst (v := 2) hx hb dL_row_599 (by decide) ?_
      obtain ⟨z78, h, hf⟩ := rt_s hf
      refine x_ci (x_rV E (As := [.int 6000, .int 2]) (rest := []) (mt_X5_thing l D I J O h0 n t b0 b1 hh ha ad 6000 2 x z78 h) blR (x_recv E hw.1 0 5 rfl rfl rfl) (x_pcR E hw.1) ok_X5_thing q622 rfl hl.1 rfl (Nat.le_of_ble_eq_true rfl) ⟨Nat.le_of_ble_eq_true rfl, Nat.le_of_ble_eq_true rfl⟩ ⟨Nat.le_of_ble_eq_true rfl, Nat.le_of_ble_eq_true rfl⟩ dL_row_600) ?_
      refine lv_if_ne (tgt := 617) hx hb dL_row_603 (by decide) (fun hc => ?_) (fun hc => ?_)
      · rw [if_neg hc] at hf
        refine lv_iconst (v := 0) hx hb dL_row_617 (by decide) ?_
        have he0 := Option.some.inj hf
        have hw : fy D (va_A ws0 sz) s.heap H locs ([] : va_W) := fy.sub hw [] rfl rfl
        refine W.widen (k := 218) (n := 5072) (Nat.le_of_ble_eq_true rfl) (Nat.le_of_ble_eq_true rfl) ?_
        exact x_zM (w1 := fun _ : Unit => ([] : va_W)) E () hw (Or.inl rfl) he0 dL_row_618
      · rw [if_pos hc] at hf
        refine lv_aload_n hx hb dL_row_606 rfl (lv_at hl 0 rfl) ?_
        refine lv_sipush (v := 6000) hx hb dL_row_607 (by decide) ?_
        refine lv_iconst (v := 3) hx hb dL_row_610 (by decide) ?_
        obtain ⟨z79, h, hf⟩ := rt_s hf
        refine x_ci (x_rV E (As := [.int 6000, .int 3]) (rest := []) (mt_X5_thing l D I J O h0 n t b0 b1 hh ha ad 6000 3 x z79 h) blR (x_recv E hw.1 0 5 rfl rfl rfl) (x_pcR E hw.1) ok_X5_thing q622 rfl hl.1 rfl (Nat.le_of_ble_eq_true rfl) ⟨Nat.le_of_ble_eq_true rfl, Nat.le_of_ble_eq_true rfl⟩ ⟨Nat.le_of_ble_eq_true rfl, Nat.le_of_ble_eq_true rfl⟩ dL_row_611) ?_
        refine lv_if_eq (tgt := 619) hx hb dL_row_614 (by decide) (fun hc => ?_) (fun hc => ?_)
        · rw [if_pos hc] at hf
          refine lv_aload_n hx hb dL_row_619 rfl (lv_at hl 0 rfl) ?_
          refine lv_iconst (v := 0) hx hb dL_row_620 (by decide) ?_
          obtain ⟨z80, h, hf⟩ := rt_s hf
          refine x_miFP0 hw (x_rV E (As := [.int 0]) (rest := []) (mt_X5_remove l D I J O h0 n t b0 b1 hh ha ad H.size 0 x z80.1 z80.2 h) blM (x_recv E hw.1 0 5 rfl rfl rfl) (x_pcMPF0 E hw) ok_X5_remove q498 rfl hl.1 rfl (Nat.le_of_ble_eq_true rfl) ⟨Nat.le_of_ble_eq_true rfl, Nat.le_of_ble_eq_true rfl⟩ ⟨Nat.le_of_ble_eq_true rfl, Nat.le_of_ble_eq_true rfl⟩ dL_row_621) (fun _ => rfl) (fun ad81 H locs hw => ?_)
          have hw : fy D (va_A ws0 sz) s.heap H locs (wCl I h0 n t b0 b1 hh z80.2 ++ wHi I O hh ha ad81 z80.2.2.2.1) := hw
          refine lv_iconst (v := 5) hx hb dL_row_624 (by decide) ?_
          refine lv_icmp_ne (tgt := 783) hx hb dL_row_625 (by decide) (fun hc => ?_) (fun hc => ?_)
          · rw [if_neg hc] at hf
            refine lv_iconst (v := 0) hx hb dL_row_783 (by decide) ?_
            have he0 := Option.some.inj hf
            have hw : fy D (va_A ws0 sz) s.heap H locs ([] : va_W) := fy.sub hw [] rfl rfl
            refine W.widen (k := 218) (n := 5072) (Nat.le_of_ble_eq_true rfl) (Nat.le_of_ble_eq_true rfl) ?_
            exact x_zM (w1 := fun _ : Unit => ([] : va_W)) E () hw (Or.inl rfl) he0 dL_row_784
          · rw [if_pos hc] at hf
            refine lv_aload_n hx hb dL_row_628 rfl (lv_at hl 0 rfl) ?_
            refine lv_iconst (v := 1) hx hb dL_row_629 (by decide) ?_
            obtain ⟨z82, h, hf⟩ := rt_s hf
            refine x_ci (x_rV E (As := [.int 1]) (rest := []) (mt_X5_count l D I J O h0 n t b0 b1 hh ha ad81 1 z80.2 z82 h) blR (x_recv E hw.1 0 5 rfl rfl rfl) (x_pcR E hw.1) ok_X5_count q399 rfl hl.1 rfl (Nat.le_of_ble_eq_true rfl) ⟨Nat.le_of_ble_eq_true rfl, Nat.le_of_ble_eq_true rfl⟩ ⟨Nat.le_of_ble_eq_true rfl, Nat.le_of_ble_eq_true rfl⟩ dL_row_630) ?_
            refine lv_iconst (v := 1) hx hb dL_row_633 (by decide) ?_
            refine lv_icmp_ne (tgt := 783) hx hb dL_row_634 (by decide) (fun hc => ?_) (fun hc => ?_)
            · rw [if_neg hc] at hf
              refine lv_iconst (v := 0) hx hb dL_row_783 (by decide) ?_
              have he0 := Option.some.inj hf
              have hw : fy D (va_A ws0 sz) s.heap H locs ([] : va_W) := fy.sub hw [] rfl rfl
              refine W.widen (k := 218) (n := 5072) (Nat.le_of_ble_eq_true rfl) (Nat.le_of_ble_eq_true rfl) ?_
              exact x_zM (w1 := fun _ : Unit => ([] : va_W)) E () hw (Or.inl rfl) he0 dL_row_784
            · rw [if_pos hc] at hf
              refine lv_aload_n hx hb dL_row_637 rfl (lv_at hl 0 rfl) ?_
              refine lv_iconst (v := 1) hx hb dL_row_638 (by decide) ?_
              refine lv_iconst (v := 0) hx hb dL_row_639 (by decide) ?_
              obtain ⟨z83, h, hf⟩ := rt_s hf
              refine x_ci (x_rV E (As := [.int 1, .int 0]) (rest := []) (mt_X5_walker l D I J O h0 n t b0 b1 hh ha ad81 1 0 z80.2 z83 h) blR (x_recv E hw.1 0 5 rfl rfl rfl) (x_pcR E hw.1) ok_X5_walker q644 rfl hl.1 rfl (Nat.le_of_ble_eq_true rfl) ⟨Nat.le_of_ble_eq_true rfl, Nat.le_of_ble_eq_true rfl⟩ ⟨Nat.le_of_ble_eq_true rfl, Nat.le_of_ble_eq_true rfl⟩ dL_row_640) ?_
              refine lv_iconst (v := 2) hx hb dL_row_643 (by decide) ?_
              refine lv_icmp_ne (tgt := 783) hx hb dL_row_644 (by decide) (fun hc => ?_) (fun hc => ?_)
              · rw [if_neg hc] at hf
                refine lv_iconst (v := 0) hx hb dL_row_783 (by decide) ?_
                have he0 := Option.some.inj hf
                have hw : fy D (va_A ws0 sz) s.heap H locs ([] : va_W) := fy.sub hw [] rfl rfl
                refine W.widen (k := 218) (n := 5072) (Nat.le_of_ble_eq_true rfl) (Nat.le_of_ble_eq_true rfl) ?_
                exact x_zM (w1 := fun _ : Unit => ([] : va_W)) E () hw (Or.inl rfl) he0 dL_row_784
              · rw [if_pos hc] at hf
                refine lv_aload_n hx hb dL_row_647 rfl (lv_at hl 0 rfl) ?_
                refine lv_iconst (v := 4) hx hb dL_row_648 (by decide) ?_
                refine lv_iconst (v := 0) hx hb dL_row_649 (by decide) ?_
                obtain ⟨z84, h, hf⟩ := rt_s hf
                refine x_ci (x_rV E (As := [.int 4, .int 0]) (rest := []) (mt_X5_room l D I J O h0 n t b0 b1 hh ha ad81 4 0 z80.2 z84 h) blR (x_recv E hw.1 0 5 rfl rfl rfl) (x_pcR E hw.1) ok_X5_room q681 rfl hl.1 rfl (Nat.le_of_ble_eq_true rfl) ⟨Nat.le_of_ble_eq_true rfl, Nat.le_of_ble_eq_true rfl⟩ ⟨Nat.le_of_ble_eq_true rfl, Nat.le_of_ble_eq_true rfl⟩ dL_row_650) ?_
                refine lv_iconst (v := 1) hx hb dL_row_653 (by decide) ?_
                refine lv_icmp_ne (tgt := 783) hx hb dL_row_654 (by decide) (fun hc => ?_) (fun hc => ?_)
                · rw [if_neg hc] at hf
                  refine lv_iconst (v := 0) hx hb dL_row_783 (by decide) ?_
                  have he0 := Option.some.inj hf
                  have hw : fy D (va_A ws0 sz) s.heap H locs ([] : va_W) := fy.sub hw [] rfl rfl
                  refine W.widen (k := 218) (n := 5072) (Nat.le_of_ble_eq_true rfl) (Nat.le_of_ble_eq_true rfl) ?_
                  exact x_zM (w1 := fun _ : Unit => ([] : va_W)) E () hw (Or.inl rfl) he0 dL_row_784
                · rw [if_pos hc] at hf
                  refine W.widen (k := 160) (n := 4724) (Nat.le_of_ble_eq_true rfl) (Nat.le_of_ble_eq_true rfl) ?_
                  exact k_L_row_657 E hfl hXZ h0 n t b0 b1 hh ha r z80.2 hf ad81 _ _ hw _ (lv_sub hl [0] rfl)
        · rw [if_neg hc] at hf
          refine lv_iconst (v := 0) hx hb dL_row_617 (by decide) ?_
          have he0 := Option.some.inj hf
          have hw : fy D (va_A ws0 sz) s.heap H locs ([] : va_W) := fy.sub hw [] rfl rfl
          refine W.widen (k := 218) (n := 5072) (Nat.le_of_ble_eq_true rfl) (Nat.le_of_ble_eq_true rfl) ?_
          exact x_zM (w1 := fun _ : Unit => ([] : va_W)) E () hw (Or.inl rfl) he0 dL_row_618
set_option maxRecDepth 100000 in
set_option maxHeartbeats 4000000 in
theorem k_L_row_494 {p : Program} {l : Launch} {e : Env} {s : State} {m : MethodId} {args : Array Value} {below : List Frame} {meth : Method} {c : Code} {D : va_G} {I J O : ClassId} {ws0 : va_W} {sz : Nat} (E : fx p s m args meth c cL_row RL 1 (some .boolean) D I J O) (hfl : l.stackTraces = false) (hXZ : XZ (va_A ws0 sz) s) (h0 : Nat) (n t : Nat → Nat) (b0 b1 hh ha : Nat)  (r : Int32) : ∀ (x : ClC), f_L_row_494 x = some r → ∀ (ad : Nat → Nat → Nat) (H : Heap) (locs : List Loc), fy D (va_A ws0 sz) s.heap H locs (wCl I h0 n t b0 b1 hh x ++ wHi I O hh ha ad x.2.2.1) → ∀ ls : Array Slot, lv_has ls 1 [(0, .ref h0)] → W p l e (rmB 12 272 218 5072) s m args below meth c H locs 160 4724 (MQ below (qMi D sz ws0 r (fun _ : Unit => ([] : va_W))) args s 218 5072 (va_A ws0 sz)) (F0 m 494 ls []) := by
  have hx := E.1
  have hb := E.2.1
  intro x hf ad H locs hw ls hl
  unfold f_L_row_494 at hf
  refine lv_aload_n hx hb dL_row_494 rfl (lv_at hl 0 rfl) ?_
  refine lv_iconst (v := 2) hx hb dL_row_495 (by decide) ?_
  refine lv_iconst (v := 0) hx hb dL_row_496 (by decide) ?_
  obtain ⟨z64, h, hf⟩ := rt_s hf
  refine x_miFP0 hw (x_rV E (As := [.int 2, .int 0]) (rest := []) (mt_X5_ifFired l D I J O h0 n t b0 b1 hh ha ad H.size 2 0 x z64.1 z64.2 h) blM (x_recv E hw.1 0 5 rfl rfl rfl) (x_pcMPF0 E hw) ok_X5_ifFired q671 rfl hl.1 rfl (Nat.le_of_ble_eq_true rfl) ⟨Nat.le_of_ble_eq_true rfl, Nat.le_of_ble_eq_true rfl⟩ ⟨Nat.le_of_ble_eq_true rfl, Nat.le_of_ble_eq_true rfl⟩ dL_row_497) (fun _ => rfl) (fun ad65 H locs hw => ?_)
  have hw : fy D (va_A ws0 sz) s.heap H locs (wCl I h0 n t b0 b1 hh z64.2 ++ wHi I O hh ha ad65 z64.2.2.2.1) := hw
  refine lv_bipush (v := 53) hx hb dL_row_500 (by decide) ?_
  refine lv_icmp_ne (tgt := 617) hx hb dL_row_502 (by decide) (fun hc => ?_) (fun hc => ?_)
  · rw [if_neg hc] at hf
    refine lv_iconst (v := 0) hx hb dL_row_617 (by decide) ?_
    have he0 := Option.some.inj hf
    have hw : fy D (va_A ws0 sz) s.heap H locs ([] : va_W) := fy.sub hw [] rfl rfl
    refine W.widen (k := 218) (n := 5072) (Nat.le_of_ble_eq_true rfl) (Nat.le_of_ble_eq_true rfl) ?_
    exact x_zM (w1 := fun _ : Unit => ([] : va_W)) E () hw (Or.inl rfl) he0 dL_row_618
  · rw [if_pos hc] at hf
    refine lv_aload_n hx hb dL_row_505 rfl (lv_at hl 0 rfl) ?_
    refine lv_iconst (v := 1) hx hb dL_row_506 (by decide) ?_
    refine lv_iconst (v := 1) hx hb dL_row_507 (by decide) ?_
    obtain ⟨z66, h, hf⟩ := rt_s hf
    refine x_miFP0 hw (x_rV E (As := [.int 1, .int 1]) (rest := []) (mt_X5_ifFired l D I J O h0 n t b0 b1 hh ha ad65 H.size 1 1 z64.2 z66.1 z66.2 h) blM (x_recv E hw.1 0 5 rfl rfl rfl) (x_pcMPF0 E hw) ok_X5_ifFired q671 rfl hl.1 rfl (Nat.le_of_ble_eq_true rfl) ⟨Nat.le_of_ble_eq_true rfl, Nat.le_of_ble_eq_true rfl⟩ ⟨Nat.le_of_ble_eq_true rfl, Nat.le_of_ble_eq_true rfl⟩ dL_row_508) (fun _ => rfl) (fun ad67 H locs hw => ?_)
    have hw : fy D (va_A ws0 sz) s.heap H locs (wCl I h0 n t b0 b1 hh z66.2 ++ wHi I O hh ha ad67 z66.2.2.2.1) := hw
    refine lv_iconst (v := 4) hx hb dL_row_511 (by decide) ?_
    refine lv_icmp_ne (tgt := 617) hx hb dL_row_512 (by decide) (fun hc => ?_) (fun hc => ?_)
    · rw [if_neg hc] at hf
      refine lv_iconst (v := 0) hx hb dL_row_617 (by decide) ?_
      have he0 := Option.some.inj hf
      have hw : fy D (va_A ws0 sz) s.heap H locs ([] : va_W) := fy.sub hw [] rfl rfl
      refine W.widen (k := 218) (n := 5072) (Nat.le_of_ble_eq_true rfl) (Nat.le_of_ble_eq_true rfl) ?_
      exact x_zM (w1 := fun _ : Unit => ([] : va_W)) E () hw (Or.inl rfl) he0 dL_row_618
    · rw [if_pos hc] at hf
      refine lv_aload_n hx hb dL_row_515 rfl (lv_at hl 0 rfl) ?_
      refine lv_iconst (v := 2) hx hb dL_row_516 (by decide) ?_
      refine lv_iconst (v := 1) hx hb dL_row_517 (by decide) ?_
      obtain ⟨z68, h, hf⟩ := rt_s hf
      refine x_miFP0 hw (x_rV E (As := [.int 2, .int 1]) (rest := []) (mt_X5_ifFired l D I J O h0 n t b0 b1 hh ha ad67 H.size 2 1 z66.2 z68.1 z68.2 h) blM (x_recv E hw.1 0 5 rfl rfl rfl) (x_pcMPF0 E hw) ok_X5_ifFired q671 rfl hl.1 rfl (Nat.le_of_ble_eq_true rfl) ⟨Nat.le_of_ble_eq_true rfl, Nat.le_of_ble_eq_true rfl⟩ ⟨Nat.le_of_ble_eq_true rfl, Nat.le_of_ble_eq_true rfl⟩ dL_row_518) (fun _ => rfl) (fun ad69 H locs hw => ?_)
      have hw : fy D (va_A ws0 sz) s.heap H locs (wCl I h0 n t b0 b1 hh z68.2 ++ wHi I O hh ha ad69 z68.2.2.2.1) := hw
      refine lv_iconst (v := 5) hx hb dL_row_521 (by decide) ?_
      refine lv_icmp_ne (tgt := 617) hx hb dL_row_522 (by decide) (fun hc => ?_) (fun hc => ?_)
      · rw [if_neg hc] at hf
        refine lv_iconst (v := 0) hx hb dL_row_617 (by decide) ?_
        have he0 := Option.some.inj hf
        have hw : fy D (va_A ws0 sz) s.heap H locs ([] : va_W) := fy.sub hw [] rfl rfl
        refine W.widen (k := 218) (n := 5072) (Nat.le_of_ble_eq_true rfl) (Nat.le_of_ble_eq_true rfl) ?_
        exact x_zM (w1 := fun _ : Unit => ([] : va_W)) E () hw (Or.inl rfl) he0 dL_row_618
      · rw [if_pos hc] at hf
        refine lv_aload_n hx hb dL_row_525 rfl (lv_at hl 0 rfl) ?_
        obtain ⟨z70, h, hf⟩ := bd_s hf
        refine x_miFP0 hw (x_rV E (As := []) (rest := []) (mt_X5_fire l D I J O h0 n t b0 b1 hh ha ad69 H.size z68.2 z70.1 z70.2 h) blM (x_recv E hw.1 0 5 rfl rfl rfl) (x_pcMPF0 E hw) ok_X5_fire q144 rfl hl.1 rfl (Nat.le_of_ble_eq_true rfl) ⟨Nat.le_of_ble_eq_true rfl, Nat.le_of_ble_eq_true rfl⟩ ⟨Nat.le_of_ble_eq_true rfl, Nat.le_of_ble_eq_true rfl⟩ dL_row_526) (fun _ => rfl) (fun ad71 H locs hw => ?_)
        have hw : fy D (va_A ws0 sz) s.heap H locs (wCl I h0 n t b0 b1 hh z70.2 ++ wHi I O hh ha ad71 z70.2.2.2.1) := hw
        refine lv_bipush (v := 22) hx hb dL_row_529 (by decide) ?_
        refine lv_icmp_ne (tgt := 617) hx hb dL_row_531 (by decide) (fun hc => ?_) (fun hc => ?_)
        · rw [if_neg hc] at hf
          refine lv_iconst (v := 0) hx hb dL_row_617 (by decide) ?_
          have he0 := Option.some.inj hf
          have hw : fy D (va_A ws0 sz) s.heap H locs ([] : va_W) := fy.sub hw [] rfl rfl
          refine W.widen (k := 218) (n := 5072) (Nat.le_of_ble_eq_true rfl) (Nat.le_of_ble_eq_true rfl) ?_
          exact x_zM (w1 := fun _ : Unit => ([] : va_W)) E () hw (Or.inl rfl) he0 dL_row_618
        · rw [if_pos hc] at hf
          refine lv_aload_n hx hb dL_row_534 rfl (lv_at hl 0 rfl) ?_
          refine lv_iconst (v := 0) hx hb dL_row_535 (by decide) ?_
          obtain ⟨z72, h, hf⟩ := rt_s hf
          refine x_ci (x_rV E (As := [.int 0]) (rest := []) (mt_X5_count l D I J O h0 n t b0 b1 hh ha ad71 0 z70.2 z72 h) blR (x_recv E hw.1 0 5 rfl rfl rfl) (x_pcR E hw.1) ok_X5_count q399 rfl hl.1 rfl (Nat.le_of_ble_eq_true rfl) ⟨Nat.le_of_ble_eq_true rfl, Nat.le_of_ble_eq_true rfl⟩ ⟨Nat.le_of_ble_eq_true rfl, Nat.le_of_ble_eq_true rfl⟩ dL_row_536) ?_
          refine lv_iconst (v := 4) hx hb dL_row_539 (by decide) ?_
          refine lv_icmp_ne (tgt := 617) hx hb dL_row_540 (by decide) (fun hc => ?_) (fun hc => ?_)
          · rw [if_neg hc] at hf
            refine lv_iconst (v := 0) hx hb dL_row_617 (by decide) ?_
            have he0 := Option.some.inj hf
            have hw : fy D (va_A ws0 sz) s.heap H locs ([] : va_W) := fy.sub hw [] rfl rfl
            refine W.widen (k := 218) (n := 5072) (Nat.le_of_ble_eq_true rfl) (Nat.le_of_ble_eq_true rfl) ?_
            exact x_zM (w1 := fun _ : Unit => ([] : va_W)) E () hw (Or.inl rfl) he0 dL_row_618
          · rw [if_pos hc] at hf
            refine lv_aload_n hx hb dL_row_543 rfl (lv_at hl 0 rfl) ?_
            refine lv_iconst (v := 3) hx hb dL_row_544 (by decide) ?_
            obtain ⟨z73, h, hf⟩ := rt_s hf
            refine x_ci (x_rV E (As := [.int 3]) (rest := []) (mt_X5_at l D I J O h0 n t b0 b1 hh ha ad71 3 z70.2 z73 h) blR (x_recv E hw.1 0 5 rfl rfl rfl) (x_pcR E hw.1) ok_X5_at q371 rfl hl.1 rfl (Nat.le_of_ble_eq_true rfl) ⟨Nat.le_of_ble_eq_true rfl, Nat.le_of_ble_eq_true rfl⟩ ⟨Nat.le_of_ble_eq_true rfl, Nat.le_of_ble_eq_true rfl⟩ dL_row_545) ?_
            refine lv_sipush (v := 6000) hx hb dL_row_548 (by decide) ?_
            refine lv_icmp_ne (tgt := 617) hx hb dL_row_551 (by decide) (fun hc => ?_) (fun hc => ?_)
            · rw [if_neg hc] at hf
              refine lv_iconst (v := 0) hx hb dL_row_617 (by decide) ?_
              have he0 := Option.some.inj hf
              have hw : fy D (va_A ws0 sz) s.heap H locs ([] : va_W) := fy.sub hw [] rfl rfl
              refine W.widen (k := 218) (n := 5072) (Nat.le_of_ble_eq_true rfl) (Nat.le_of_ble_eq_true rfl) ?_
              exact x_zM (w1 := fun _ : Unit => ([] : va_W)) E () hw (Or.inl rfl) he0 dL_row_618
            · rw [if_pos hc] at hf
              refine lv_aload_n hx hb dL_row_554 rfl (lv_at hl 0 rfl) ?_
              refine lv_iconst (v := 5) hx hb dL_row_555 (by decide) ?_
              obtain ⟨z74, h, hf⟩ := rt_s hf
              refine x_ci (x_rV E (As := [.int 5]) (rest := []) (mt_X5_count l D I J O h0 n t b0 b1 hh ha ad71 5 z70.2 z74 h) blR (x_recv E hw.1 0 5 rfl rfl rfl) (x_pcR E hw.1) ok_X5_count q399 rfl hl.1 rfl (Nat.le_of_ble_eq_true rfl) ⟨Nat.le_of_ble_eq_true rfl, Nat.le_of_ble_eq_true rfl⟩ ⟨Nat.le_of_ble_eq_true rfl, Nat.le_of_ble_eq_true rfl⟩ dL_row_556) ?_
              refine lv_iconst (v := 1) hx hb dL_row_559 (by decide) ?_
              refine lv_icmp_ne (tgt := 617) hx hb dL_row_560 (by decide) (fun hc => ?_) (fun hc => ?_)
              · rw [if_neg hc] at hf
                refine lv_iconst (v := 0) hx hb dL_row_617 (by decide) ?_
                have he0 := Option.some.inj hf
                have hw : fy D (va_A ws0 sz) s.heap H locs ([] : va_W) := fy.sub hw [] rfl rfl
                refine W.widen (k := 218) (n := 5072) (Nat.le_of_ble_eq_true rfl) (Nat.le_of_ble_eq_true rfl) ?_
                exact x_zM (w1 := fun _ : Unit => ([] : va_W)) E () hw (Or.inl rfl) he0 dL_row_618
              · rw [if_pos hc] at hf
                refine lv_aload_n hx hb dL_row_563 rfl (lv_at hl 0 rfl) ?_
                refine lv_bipush (v := 6) hx hb dL_row_564 (by decide) ?_
                obtain ⟨z75, h, hf⟩ := rt_s hf
                refine x_ci (x_rV E (As := [.int 6]) (rest := []) (mt_X5_count l D I J O h0 n t b0 b1 hh ha ad71 6 z70.2 z75 h) blR (x_recv E hw.1 0 5 rfl rfl rfl) (x_pcR E hw.1) ok_X5_count q399 rfl hl.1 rfl (Nat.le_of_ble_eq_true rfl) ⟨Nat.le_of_ble_eq_true rfl, Nat.le_of_ble_eq_true rfl⟩ ⟨Nat.le_of_ble_eq_true rfl, Nat.le_of_ble_eq_true rfl⟩ dL_row_566) ?_
                refine lv_iconst (v := 5) hx hb dL_row_569 (by decide) ?_
                refine lv_icmp_ne (tgt := 617) hx hb dL_row_570 (by decide) (fun hc => ?_) (fun hc => ?_)
                · rw [if_neg hc] at hf
                  refine lv_iconst (v := 0) hx hb dL_row_617 (by decide) ?_
                  have he0 := Option.some.inj hf
                  have hw : fy D (va_A ws0 sz) s.heap H locs ([] : va_W) := fy.sub hw [] rfl rfl
                  refine W.widen (k := 218) (n := 5072) (Nat.le_of_ble_eq_true rfl) (Nat.le_of_ble_eq_true rfl) ?_
                  exact x_zM (w1 := fun _ : Unit => ([] : va_W)) E () hw (Or.inl rfl) he0 dL_row_618
                · rw [if_pos hc] at hf
                  refine W.widen (k := 160) (n := 4724) (Nat.le_of_ble_eq_true rfl) (Nat.le_of_ble_eq_true rfl) ?_
                  exact k_L_row_573 E hfl hXZ h0 n t b0 b1 hh ha r z70.2 hf ad71 _ _ hw _ (lv_sub hl [0] rfl)
set_option maxRecDepth 100000 in
set_option maxHeartbeats 4000000 in
theorem k_L_row_409 {p : Program} {l : Launch} {e : Env} {s : State} {m : MethodId} {args : Array Value} {below : List Frame} {meth : Method} {c : Code} {D : va_G} {I J O : ClassId} {ws0 : va_W} {sz : Nat} (E : fx p s m args meth c cL_row RL 1 (some .boolean) D I J O) (hfl : l.stackTraces = false) (hXZ : XZ (va_A ws0 sz) s) (h0 : Nat) (n t : Nat → Nat) (b0 b1 hh ha : Nat)  (r : Int32) : ∀ (x : ClC), f_L_row_409 x = some r → ∀ (ad : Nat → Nat → Nat) (H : Heap) (locs : List Loc), fy D (va_A ws0 sz) s.heap H locs (wCl I h0 n t b0 b1 hh x ++ wHi I O hh ha ad x.2.2.1) → ∀ ls : Array Slot, lv_has ls 1 [(0, .ref h0)] → W p l e (rmB 12 272 218 5072) s m args below meth c H locs 160 4724 (MQ below (qMi D sz ws0 r (fun _ : Unit => ([] : va_W))) args s 218 5072 (va_A ws0 sz)) (F0 m 409 ls []) := by
  have hx := E.1
  have hb := E.2.1
  intro x hf ad H locs hw ls hl
  unfold f_L_row_409 at hf
  refine lv_aload_n hx hb dL_row_409 rfl (lv_at hl 0 rfl) ?_
  refine lv_sipush (v := 4000) hx hb dL_row_410 (by decide) ?_
  obtain ⟨z52, h, hf⟩ := bd_s hf
  refine x_ci (x_rV E (As := [.int 4000]) (rest := []) (mt_X5_refusal l D I J O h0 n t b0 b1 hh ha ad 4000 x z52 h) blR (x_recv E hw.1 0 5 rfl rfl rfl) (x_pcR E hw.1) ok_X5_refusal q744 rfl hl.1 rfl (Nat.le_of_ble_eq_true rfl) ⟨Nat.le_of_ble_eq_true rfl, Nat.le_of_ble_eq_true rfl⟩ ⟨Nat.le_of_ble_eq_true rfl, Nat.le_of_ble_eq_true rfl⟩ dL_row_413) ?_
  refine lv_iconst (v := 3) hx hb dL_row_416 (by decide) ?_
  refine lv_icmp_ne (tgt := 617) hx hb dL_row_417 (by decide) (fun hc => ?_) (fun hc => ?_)
  · rw [if_neg hc] at hf
    refine lv_iconst (v := 0) hx hb dL_row_617 (by decide) ?_
    have he0 := Option.some.inj hf
    have hw : fy D (va_A ws0 sz) s.heap H locs ([] : va_W) := fy.sub hw [] rfl rfl
    refine W.widen (k := 218) (n := 5072) (Nat.le_of_ble_eq_true rfl) (Nat.le_of_ble_eq_true rfl) ?_
    exact x_zM (w1 := fun _ : Unit => ([] : va_W)) E () hw (Or.inl rfl) he0 dL_row_618
  · rw [if_pos hc] at hf
    refine lv_aload_n hx hb dL_row_420 rfl (lv_at hl 0 rfl) ?_
    refine lv_iconst (v := 0) hx hb dL_row_421 (by decide) ?_
    refine lv_bipush (v := 8) hx hb dL_row_422 (by decide) ?_
    refine lv_iconst (v := 1) hx hb dL_row_424 (by decide) ?_
    refine lv_iconst (v := 0) hx hb dL_row_425 (by decide) ?_
    obtain ⟨z53, h, hf⟩ := rt_s hf
    refine x_miFP0 hw (x_rV E (As := [.int 0, .int 8, .int 1, .int 0]) (rest := []) (mt_X5_putBehind l D I J O h0 n t b0 b1 hh ha ad H.size 0 8 1 0 x z53.1 z53.2 h) blM (x_recv E hw.1 0 5 rfl rfl rfl) (x_pcMPF0 E hw) ok_X5_putBehind q469 rfl hl.1 rfl (Nat.le_of_ble_eq_true rfl) ⟨Nat.le_of_ble_eq_true rfl, Nat.le_of_ble_eq_true rfl⟩ ⟨Nat.le_of_ble_eq_true rfl, Nat.le_of_ble_eq_true rfl⟩ dL_row_426) (fun _ => rfl) (fun ad54 H locs hw => ?_)
    have hw : fy D (va_A ws0 sz) s.heap H locs (wCl I h0 n t b0 b1 hh z53.2 ++ wHi I O hh ha ad54 z53.2.2.2.1) := hw
    refine lv_sipush (v := 2001) hx hb dL_row_429 (by decide) ?_
    refine lv_icmp_ne (tgt := 617) hx hb dL_row_432 (by decide) (fun hc => ?_) (fun hc => ?_)
    · rw [if_neg hc] at hf
      refine lv_iconst (v := 0) hx hb dL_row_617 (by decide) ?_
      have he0 := Option.some.inj hf
      have hw : fy D (va_A ws0 sz) s.heap H locs ([] : va_W) := fy.sub hw [] rfl rfl
      refine W.widen (k := 218) (n := 5072) (Nat.le_of_ble_eq_true rfl) (Nat.le_of_ble_eq_true rfl) ?_
      exact x_zM (w1 := fun _ : Unit => ([] : va_W)) E () hw (Or.inl rfl) he0 dL_row_618
    · rw [if_pos hc] at hf
      refine lv_aload_n hx hb dL_row_435 rfl (lv_at hl 0 rfl) ?_
      refine lv_iconst (v := 1) hx hb dL_row_436 (by decide) ?_
      obtain ⟨z55, h, hf⟩ := rt_s hf
      refine x_ci (x_rV E (As := [.int 1]) (rest := []) (mt_X5_at l D I J O h0 n t b0 b1 hh ha ad54 1 z53.2 z55 h) blR (x_recv E hw.1 0 5 rfl rfl rfl) (x_pcR E hw.1) ok_X5_at q371 rfl hl.1 rfl (Nat.le_of_ble_eq_true rfl) ⟨Nat.le_of_ble_eq_true rfl, Nat.le_of_ble_eq_true rfl⟩ ⟨Nat.le_of_ble_eq_true rfl, Nat.le_of_ble_eq_true rfl⟩ dL_row_437) ?_
      refine lv_sipush (v := 2001) hx hb dL_row_440 (by decide) ?_
      refine lv_icmp_ne (tgt := 617) hx hb dL_row_443 (by decide) (fun hc => ?_) (fun hc => ?_)
      · rw [if_neg hc] at hf
        refine lv_iconst (v := 0) hx hb dL_row_617 (by decide) ?_
        have he0 := Option.some.inj hf
        have hw : fy D (va_A ws0 sz) s.heap H locs ([] : va_W) := fy.sub hw [] rfl rfl
        refine W.widen (k := 218) (n := 5072) (Nat.le_of_ble_eq_true rfl) (Nat.le_of_ble_eq_true rfl) ?_
        exact x_zM (w1 := fun _ : Unit => ([] : va_W)) E () hw (Or.inl rfl) he0 dL_row_618
      · rw [if_pos hc] at hf
        refine lv_aload_n hx hb dL_row_446 rfl (lv_at hl 0 rfl) ?_
        refine lv_iconst (v := 0) hx hb dL_row_447 (by decide) ?_
        obtain ⟨z56, h, hf⟩ := rt_s hf
        refine x_miFP0 hw (x_rV E (As := [.int 0]) (rest := []) (mt_X5_goOn l D I J O h0 n t b0 b1 hh ha ad54 H.size 0 z53.2 z56.1 z56.2 h) blM (x_recv E hw.1 0 5 rfl rfl rfl) (x_pcMPF0 E hw) ok_X5_goOn q538 rfl hl.1 rfl (Nat.le_of_ble_eq_true rfl) ⟨Nat.le_of_ble_eq_true rfl, Nat.le_of_ble_eq_true rfl⟩ ⟨Nat.le_of_ble_eq_true rfl, Nat.le_of_ble_eq_true rfl⟩ dL_row_448) (fun _ => rfl) (fun ad57 H locs hw => ?_)
        have hw : fy D (va_A ws0 sz) s.heap H locs (wCl I h0 n t b0 b1 hh z56.2 ++ wHi I O hh ha ad57 z56.2.2.2.1) := hw
        refine lv_sipush (v := 3000) hx hb dL_row_451 (by decide) ?_
        refine lv_icmp_ne (tgt := 617) hx hb dL_row_454 (by decide) (fun hc => ?_) (fun hc => ?_)
        · rw [if_neg hc] at hf
          refine lv_iconst (v := 0) hx hb dL_row_617 (by decide) ?_
          have he0 := Option.some.inj hf
          have hw : fy D (va_A ws0 sz) s.heap H locs ([] : va_W) := fy.sub hw [] rfl rfl
          refine W.widen (k := 218) (n := 5072) (Nat.le_of_ble_eq_true rfl) (Nat.le_of_ble_eq_true rfl) ?_
          exact x_zM (w1 := fun _ : Unit => ([] : va_W)) E () hw (Or.inl rfl) he0 dL_row_618
        · rw [if_pos hc] at hf
          refine lv_aload_n hx hb dL_row_457 rfl (lv_at hl 0 rfl) ?_
          refine lv_iconst (v := 1) hx hb dL_row_458 (by decide) ?_
          obtain ⟨z58, h, hf⟩ := rt_s hf
          refine x_ci (x_rV E (As := [.int 1]) (rest := []) (mt_X5_count l D I J O h0 n t b0 b1 hh ha ad57 1 z56.2 z58 h) blR (x_recv E hw.1 0 5 rfl rfl rfl) (x_pcR E hw.1) ok_X5_count q399 rfl hl.1 rfl (Nat.le_of_ble_eq_true rfl) ⟨Nat.le_of_ble_eq_true rfl, Nat.le_of_ble_eq_true rfl⟩ ⟨Nat.le_of_ble_eq_true rfl, Nat.le_of_ble_eq_true rfl⟩ dL_row_459) ?_
          refine lv_if_ne (tgt := 617) hx hb dL_row_462 (by decide) (fun hc => ?_) (fun hc => ?_)
          · rw [if_neg hc] at hf
            refine lv_iconst (v := 0) hx hb dL_row_617 (by decide) ?_
            have he0 := Option.some.inj hf
            have hw : fy D (va_A ws0 sz) s.heap H locs ([] : va_W) := fy.sub hw [] rfl rfl
            refine W.widen (k := 218) (n := 5072) (Nat.le_of_ble_eq_true rfl) (Nat.le_of_ble_eq_true rfl) ?_
            exact x_zM (w1 := fun _ : Unit => ([] : va_W)) E () hw (Or.inl rfl) he0 dL_row_618
          · rw [if_pos hc] at hf
            refine lv_aload_n hx hb dL_row_465 rfl (lv_at hl 0 rfl) ?_
            refine lv_iconst (v := 0) hx hb dL_row_466 (by decide) ?_
            obtain ⟨z59, h, hf⟩ := rt_s hf
            refine x_miFP0 hw (x_rV E (As := [.int 0]) (rest := []) (mt_X5_restart l D I J O h0 n t b0 b1 hh ha ad57 H.size 0 z56.2 z59.1 z59.2 h) blM (x_recv E hw.1 0 5 rfl rfl rfl) (x_pcMPF0 E hw) ok_X5_restart q513 rfl hl.1 rfl (Nat.le_of_ble_eq_true rfl) ⟨Nat.le_of_ble_eq_true rfl, Nat.le_of_ble_eq_true rfl⟩ ⟨Nat.le_of_ble_eq_true rfl, Nat.le_of_ble_eq_true rfl⟩ dL_row_467) (fun _ => rfl) (fun ad60 H locs hw => ?_)
            have hw : fy D (va_A ws0 sz) s.heap H locs (wCl I h0 n t b0 b1 hh z59.2 ++ wHi I O hh ha ad60 z59.2.2.2.1) := hw
            refine lv_iconst (v := 1) hx hb dL_row_470 (by decide) ?_
            refine lv_icmp_ne (tgt := 617) hx hb dL_row_471 (by decide) (fun hc => ?_) (fun hc => ?_)
            · rw [if_neg hc] at hf
              refine lv_iconst (v := 0) hx hb dL_row_617 (by decide) ?_
              have he0 := Option.some.inj hf
              have hw : fy D (va_A ws0 sz) s.heap H locs ([] : va_W) := fy.sub hw [] rfl rfl
              refine W.widen (k := 218) (n := 5072) (Nat.le_of_ble_eq_true rfl) (Nat.le_of_ble_eq_true rfl) ?_
              exact x_zM (w1 := fun _ : Unit => ([] : va_W)) E () hw (Or.inl rfl) he0 dL_row_618
            · rw [if_pos hc] at hf
              refine lv_aload_n hx hb dL_row_474 rfl (lv_at hl 0 rfl) ?_
              refine lv_iconst (v := 0) hx hb dL_row_475 (by decide) ?_
              refine lv_iconst (v := 0) hx hb dL_row_476 (by decide) ?_
              obtain ⟨z61, h, hf⟩ := rt_s hf
              refine x_ci (x_rV E (As := [.int 0, .int 0]) (rest := []) (mt_X5_walker l D I J O h0 n t b0 b1 hh ha ad60 0 0 z59.2 z61 h) blR (x_recv E hw.1 0 5 rfl rfl rfl) (x_pcR E hw.1) ok_X5_walker q644 rfl hl.1 rfl (Nat.le_of_ble_eq_true rfl) ⟨Nat.le_of_ble_eq_true rfl, Nat.le_of_ble_eq_true rfl⟩ ⟨Nat.le_of_ble_eq_true rfl, Nat.le_of_ble_eq_true rfl⟩ dL_row_477) ?_
              refine lv_if_ne (tgt := 617) hx hb dL_row_480 (by decide) (fun hc => ?_) (fun hc => ?_)
              · rw [if_neg hc] at hf
                refine lv_iconst (v := 0) hx hb dL_row_617 (by decide) ?_
                have he0 := Option.some.inj hf
                have hw : fy D (va_A ws0 sz) s.heap H locs ([] : va_W) := fy.sub hw [] rfl rfl
                refine W.widen (k := 218) (n := 5072) (Nat.le_of_ble_eq_true rfl) (Nat.le_of_ble_eq_true rfl) ?_
                exact x_zM (w1 := fun _ : Unit => ([] : va_W)) E () hw (Or.inl rfl) he0 dL_row_618
              · rw [if_pos hc] at hf
                refine lv_aload_n hx hb dL_row_483 rfl (lv_at hl 0 rfl) ?_
                refine lv_iconst (v := 1) hx hb dL_row_484 (by decide) ?_
                refine lv_iconst (v := 0) hx hb dL_row_485 (by decide) ?_
                obtain ⟨z62, h, hf⟩ := rt_s hf
                refine x_miFP0 hw (x_rV E (As := [.int 1, .int 0]) (rest := []) (mt_X5_ifFired l D I J O h0 n t b0 b1 hh ha ad60 H.size 1 0 z59.2 z62.1 z62.2 h) blM (x_recv E hw.1 0 5 rfl rfl rfl) (x_pcMPF0 E hw) ok_X5_ifFired q671 rfl hl.1 rfl (Nat.le_of_ble_eq_true rfl) ⟨Nat.le_of_ble_eq_true rfl, Nat.le_of_ble_eq_true rfl⟩ ⟨Nat.le_of_ble_eq_true rfl, Nat.le_of_ble_eq_true rfl⟩ dL_row_486) (fun _ => rfl) (fun ad63 H locs hw => ?_)
                have hw : fy D (va_A ws0 sz) s.heap H locs (wCl I h0 n t b0 b1 hh z62.2 ++ wHi I O hh ha ad63 z62.2.2.2.1) := hw
                refine lv_bipush (v := 22) hx hb dL_row_489 (by decide) ?_
                refine lv_icmp_ne (tgt := 617) hx hb dL_row_491 (by decide) (fun hc => ?_) (fun hc => ?_)
                · rw [if_neg hc] at hf
                  refine lv_iconst (v := 0) hx hb dL_row_617 (by decide) ?_
                  have he0 := Option.some.inj hf
                  have hw : fy D (va_A ws0 sz) s.heap H locs ([] : va_W) := fy.sub hw [] rfl rfl
                  refine W.widen (k := 218) (n := 5072) (Nat.le_of_ble_eq_true rfl) (Nat.le_of_ble_eq_true rfl) ?_
                  exact x_zM (w1 := fun _ : Unit => ([] : va_W)) E () hw (Or.inl rfl) he0 dL_row_618
                · rw [if_pos hc] at hf
                  refine W.widen (k := 160) (n := 4724) (Nat.le_of_ble_eq_true rfl) (Nat.le_of_ble_eq_true rfl) ?_
                  exact k_L_row_494 E hfl hXZ h0 n t b0 b1 hh ha r z62.2 hf ad63 _ _ hw _ (lv_sub hl [0] rfl)
set_option maxRecDepth 100000 in
set_option maxHeartbeats 4000000 in
theorem k_L_row_325 {p : Program} {l : Launch} {e : Env} {s : State} {m : MethodId} {args : Array Value} {below : List Frame} {meth : Method} {c : Code} {D : va_G} {I J O : ClassId} {ws0 : va_W} {sz : Nat} (E : fx p s m args meth c cL_row RL 1 (some .boolean) D I J O) (hfl : l.stackTraces = false) (hXZ : XZ (va_A ws0 sz) s) (h0 : Nat) (n t : Nat → Nat) (b0 b1 hh ha : Nat)  (r : Int32) : ∀ (x : ClC), f_L_row_325 x = some r → ∀ (ad : Nat → Nat → Nat) (H : Heap) (locs : List Loc), fy D (va_A ws0 sz) s.heap H locs (wCl I h0 n t b0 b1 hh x ++ wHi I O hh ha ad x.2.2.1) → ∀ ls : Array Slot, lv_has ls 1 [(0, .ref h0)] → W p l e (rmB 12 272 218 5072) s m args below meth c H locs 160 4724 (MQ below (qMi D sz ws0 r (fun _ : Unit => ([] : va_W))) args s 218 5072 (va_A ws0 sz)) (F0 m 325 ls []) := by
  have hx := E.1
  have hb := E.2.1
  intro x hf ad H locs hw ls hl
  unfold f_L_row_325 at hf
  refine lv_aload_n hx hb dL_row_325 rfl (lv_at hl 0 rfl) ?_
  refine lv_iconst (v := 0) hx hb dL_row_326 (by decide) ?_
  refine lv_iconst (v := 2) hx hb dL_row_327 (by decide) ?_
  obtain ⟨z44, h, hf⟩ := rt_s hf
  refine x_ci (x_rV E (As := [.int 0, .int 2]) (rest := []) (mt_X5_walker l D I J O h0 n t b0 b1 hh ha ad 0 2 x z44 h) blR (x_recv E hw.1 0 5 rfl rfl rfl) (x_pcR E hw.1) ok_X5_walker q644 rfl hl.1 rfl (Nat.le_of_ble_eq_true rfl) ⟨Nat.le_of_ble_eq_true rfl, Nat.le_of_ble_eq_true rfl⟩ ⟨Nat.le_of_ble_eq_true rfl, Nat.le_of_ble_eq_true rfl⟩ dL_row_328) ?_
  refine lv_iconst (v := 1) hx hb dL_row_331 (by decide) ?_
  refine lv_icmp_ne (tgt := 617) hx hb dL_row_332 (by decide) (fun hc => ?_) (fun hc => ?_)
  · rw [if_neg hc] at hf
    refine lv_iconst (v := 0) hx hb dL_row_617 (by decide) ?_
    have he0 := Option.some.inj hf
    have hw : fy D (va_A ws0 sz) s.heap H locs ([] : va_W) := fy.sub hw [] rfl rfl
    refine W.widen (k := 218) (n := 5072) (Nat.le_of_ble_eq_true rfl) (Nat.le_of_ble_eq_true rfl) ?_
    exact x_zM (w1 := fun _ : Unit => ([] : va_W)) E () hw (Or.inl rfl) he0 dL_row_618
  · rw [if_pos hc] at hf
    refine lv_aload_n hx hb dL_row_335 rfl (lv_at hl 0 rfl) ?_
    refine lv_sipush (v := 2000) hx hb dL_row_336 (by decide) ?_
    obtain ⟨z45, h, hf⟩ := bd_s hf
    refine x_ci (x_rV E (As := [.int 2000]) (rest := []) (mt_X5_refusal l D I J O h0 n t b0 b1 hh ha ad 2000 x z45 h) blR (x_recv E hw.1 0 5 rfl rfl rfl) (x_pcR E hw.1) ok_X5_refusal q744 rfl hl.1 rfl (Nat.le_of_ble_eq_true rfl) ⟨Nat.le_of_ble_eq_true rfl, Nat.le_of_ble_eq_true rfl⟩ ⟨Nat.le_of_ble_eq_true rfl, Nat.le_of_ble_eq_true rfl⟩ dL_row_339) ?_
    refine lv_iconst (v := 2) hx hb dL_row_342 (by decide) ?_
    refine lv_icmp_ne (tgt := 617) hx hb dL_row_343 (by decide) (fun hc => ?_) (fun hc => ?_)
    · rw [if_neg hc] at hf
      refine lv_iconst (v := 0) hx hb dL_row_617 (by decide) ?_
      have he0 := Option.some.inj hf
      have hw : fy D (va_A ws0 sz) s.heap H locs ([] : va_W) := fy.sub hw [] rfl rfl
      refine W.widen (k := 218) (n := 5072) (Nat.le_of_ble_eq_true rfl) (Nat.le_of_ble_eq_true rfl) ?_
      exact x_zM (w1 := fun _ : Unit => ([] : va_W)) E () hw (Or.inl rfl) he0 dL_row_618
    · rw [if_pos hc] at hf
      refine lv_aload_n hx hb dL_row_346 rfl (lv_at hl 0 rfl) ?_
      refine lv_sipush (v := 2001) hx hb dL_row_347 (by decide) ?_
      obtain ⟨z46, h, hf⟩ := bd_s hf
      refine x_ci (x_rV E (As := [.int 2001]) (rest := []) (mt_X5_refusal l D I J O h0 n t b0 b1 hh ha ad 2001 x z46 h) blR (x_recv E hw.1 0 5 rfl rfl rfl) (x_pcR E hw.1) ok_X5_refusal q744 rfl hl.1 rfl (Nat.le_of_ble_eq_true rfl) ⟨Nat.le_of_ble_eq_true rfl, Nat.le_of_ble_eq_true rfl⟩ ⟨Nat.le_of_ble_eq_true rfl, Nat.le_of_ble_eq_true rfl⟩ dL_row_350) ?_
      refine lv_iconst (v := 3) hx hb dL_row_353 (by decide) ?_
      refine lv_icmp_ne (tgt := 617) hx hb dL_row_354 (by decide) (fun hc => ?_) (fun hc => ?_)
      · rw [if_neg hc] at hf
        refine lv_iconst (v := 0) hx hb dL_row_617 (by decide) ?_
        have he0 := Option.some.inj hf
        have hw : fy D (va_A ws0 sz) s.heap H locs ([] : va_W) := fy.sub hw [] rfl rfl
        refine W.widen (k := 218) (n := 5072) (Nat.le_of_ble_eq_true rfl) (Nat.le_of_ble_eq_true rfl) ?_
        exact x_zM (w1 := fun _ : Unit => ([] : va_W)) E () hw (Or.inl rfl) he0 dL_row_618
      · rw [if_pos hc] at hf
        refine lv_aload_n hx hb dL_row_357 rfl (lv_at hl 0 rfl) ?_
        refine lv_sipush (v := 16000) hx hb dL_row_358 (by decide) ?_
        obtain ⟨z47, h, hf⟩ := bd_s hf
        refine x_ci (x_rV E (As := [.int 16000]) (rest := []) (mt_X5_refusal l D I J O h0 n t b0 b1 hh ha ad 16000 x z47 h) blR (x_recv E hw.1 0 5 rfl rfl rfl) (x_pcR E hw.1) ok_X5_refusal q744 rfl hl.1 rfl (Nat.le_of_ble_eq_true rfl) ⟨Nat.le_of_ble_eq_true rfl, Nat.le_of_ble_eq_true rfl⟩ ⟨Nat.le_of_ble_eq_true rfl, Nat.le_of_ble_eq_true rfl⟩ dL_row_361) ?_
        refine lv_iconst (v := 1) hx hb dL_row_364 (by decide) ?_
        refine lv_icmp_ne (tgt := 617) hx hb dL_row_365 (by decide) (fun hc => ?_) (fun hc => ?_)
        · rw [if_neg hc] at hf
          refine lv_iconst (v := 0) hx hb dL_row_617 (by decide) ?_
          have he0 := Option.some.inj hf
          have hw : fy D (va_A ws0 sz) s.heap H locs ([] : va_W) := fy.sub hw [] rfl rfl
          refine W.widen (k := 218) (n := 5072) (Nat.le_of_ble_eq_true rfl) (Nat.le_of_ble_eq_true rfl) ?_
          exact x_zM (w1 := fun _ : Unit => ([] : va_W)) E () hw (Or.inl rfl) he0 dL_row_618
        · rw [if_pos hc] at hf
          refine lv_aload_n hx hb dL_row_368 rfl (lv_at hl 0 rfl) ?_
          refine lv_iconst (v := (-1)) hx hb dL_row_369 (by decide) ?_
          obtain ⟨z48, h, hf⟩ := bd_s hf
          refine x_ci (x_rV E (As := [.int (-1)]) (rest := []) (mt_X5_refusal l D I J O h0 n t b0 b1 hh ha ad (-1) x z48 h) blR (x_recv E hw.1 0 5 rfl rfl rfl) (x_pcR E hw.1) ok_X5_refusal q744 rfl hl.1 rfl (Nat.le_of_ble_eq_true rfl) ⟨Nat.le_of_ble_eq_true rfl, Nat.le_of_ble_eq_true rfl⟩ ⟨Nat.le_of_ble_eq_true rfl, Nat.le_of_ble_eq_true rfl⟩ dL_row_370) ?_
          refine lv_iconst (v := 1) hx hb dL_row_373 (by decide) ?_
          refine lv_icmp_ne (tgt := 617) hx hb dL_row_374 (by decide) (fun hc => ?_) (fun hc => ?_)
          · rw [if_neg hc] at hf
            refine lv_iconst (v := 0) hx hb dL_row_617 (by decide) ?_
            have he0 := Option.some.inj hf
            have hw : fy D (va_A ws0 sz) s.heap H locs ([] : va_W) := fy.sub hw [] rfl rfl
            refine W.widen (k := 218) (n := 5072) (Nat.le_of_ble_eq_true rfl) (Nat.le_of_ble_eq_true rfl) ?_
            exact x_zM (w1 := fun _ : Unit => ([] : va_W)) E () hw (Or.inl rfl) he0 dL_row_618
          · rw [if_pos hc] at hf
            refine lv_aload_n hx hb dL_row_377 rfl (lv_at hl 0 rfl) ?_
            refine lv_iconst (v := 2) hx hb dL_row_378 (by decide) ?_
            refine lv_iconst (v := 0) hx hb dL_row_379 (by decide) ?_
            obtain ⟨z49, h, hf⟩ := rt_s hf
            refine x_ci (x_rV E (As := [.int 2, .int 0]) (rest := []) (mt_X5_cell l D I J O h0 n t b0 b1 hh ha ad 2 0 x z49 h) blR (x_recv E hw.1 0 5 rfl rfl rfl) (x_pcR E hw.1) ok_X5_cell q635 rfl hl.1 rfl (Nat.le_of_ble_eq_true rfl) ⟨Nat.le_of_ble_eq_true rfl, Nat.le_of_ble_eq_true rfl⟩ ⟨Nat.le_of_ble_eq_true rfl, Nat.le_of_ble_eq_true rfl⟩ dL_row_380) ?_
            refine lv_iconst (v := 1) hx hb dL_row_383 (by decide) ?_
            refine lv_icmp_ne (tgt := 617) hx hb dL_row_384 (by decide) (fun hc => ?_) (fun hc => ?_)
            · rw [if_neg hc] at hf
              refine lv_iconst (v := 0) hx hb dL_row_617 (by decide) ?_
              have he0 := Option.some.inj hf
              have hw : fy D (va_A ws0 sz) s.heap H locs ([] : va_W) := fy.sub hw [] rfl rfl
              refine W.widen (k := 218) (n := 5072) (Nat.le_of_ble_eq_true rfl) (Nat.le_of_ble_eq_true rfl) ?_
              exact x_zM (w1 := fun _ : Unit => ([] : va_W)) E () hw (Or.inl rfl) he0 dL_row_618
            · rw [if_pos hc] at hf
              refine lv_aload_n hx hb dL_row_387 rfl (lv_at hl 0 rfl) ?_
              refine lv_iconst (v := 2) hx hb dL_row_388 (by decide) ?_
              refine lv_iconst (v := 1) hx hb dL_row_389 (by decide) ?_
              obtain ⟨z50, h, hf⟩ := rt_s hf
              refine x_ci (x_rV E (As := [.int 2, .int 1]) (rest := []) (mt_X5_cell l D I J O h0 n t b0 b1 hh ha ad 2 1 x z50 h) blR (x_recv E hw.1 0 5 rfl rfl rfl) (x_pcR E hw.1) ok_X5_cell q635 rfl hl.1 rfl (Nat.le_of_ble_eq_true rfl) ⟨Nat.le_of_ble_eq_true rfl, Nat.le_of_ble_eq_true rfl⟩ ⟨Nat.le_of_ble_eq_true rfl, Nat.le_of_ble_eq_true rfl⟩ dL_row_390) ?_
              refine lv_iconst (v := (-1)) hx hb dL_row_393 (by decide) ?_
              refine lv_icmp_ne (tgt := 617) hx hb dL_row_394 (by decide) (fun hc => ?_) (fun hc => ?_)
              · rw [if_neg hc] at hf
                refine lv_iconst (v := 0) hx hb dL_row_617 (by decide) ?_
                have he0 := Option.some.inj hf
                have hw : fy D (va_A ws0 sz) s.heap H locs ([] : va_W) := fy.sub hw [] rfl rfl
                refine W.widen (k := 218) (n := 5072) (Nat.le_of_ble_eq_true rfl) (Nat.le_of_ble_eq_true rfl) ?_
                exact x_zM (w1 := fun _ : Unit => ([] : va_W)) E () hw (Or.inl rfl) he0 dL_row_618
              · rw [if_pos hc] at hf
                refine lv_aload_n hx hb dL_row_397 rfl (lv_at hl 0 rfl) ?_
                refine lv_iconst (v := 4) hx hb dL_row_398 (by decide) ?_
                refine lv_iconst (v := 1) hx hb dL_row_399 (by decide) ?_
                obtain ⟨z51, h, hf⟩ := rt_s hf
                refine x_ci (x_rV E (As := [.int 4, .int 1]) (rest := []) (mt_X5_cell l D I J O h0 n t b0 b1 hh ha ad 4 1 x z51 h) blR (x_recv E hw.1 0 5 rfl rfl rfl) (x_pcR E hw.1) ok_X5_cell q635 rfl hl.1 rfl (Nat.le_of_ble_eq_true rfl) ⟨Nat.le_of_ble_eq_true rfl, Nat.le_of_ble_eq_true rfl⟩ ⟨Nat.le_of_ble_eq_true rfl, Nat.le_of_ble_eq_true rfl⟩ dL_row_400) ?_
                refine lv_sipush (v := 3000) hx hb dL_row_403 (by decide) ?_
                refine lv_icmp_ne (tgt := 617) hx hb dL_row_406 (by decide) (fun hc => ?_) (fun hc => ?_)
                · rw [if_neg hc] at hf
                  refine lv_iconst (v := 0) hx hb dL_row_617 (by decide) ?_
                  have he0 := Option.some.inj hf
                  have hw : fy D (va_A ws0 sz) s.heap H locs ([] : va_W) := fy.sub hw [] rfl rfl
                  refine W.widen (k := 218) (n := 5072) (Nat.le_of_ble_eq_true rfl) (Nat.le_of_ble_eq_true rfl) ?_
                  exact x_zM (w1 := fun _ : Unit => ([] : va_W)) E () hw (Or.inl rfl) he0 dL_row_618
                · rw [if_pos hc] at hf
                  refine W.widen (k := 160) (n := 4724) (Nat.le_of_ble_eq_true rfl) (Nat.le_of_ble_eq_true rfl) ?_
                  exact k_L_row_409 E hfl hXZ h0 n t b0 b1 hh ha r x hf ad _ _ hw _ (lv_sub hl [0] rfl)
set_option maxRecDepth 100000 in
set_option maxHeartbeats 4000000 in
theorem k_L_row_245 {p : Program} {l : Launch} {e : Env} {s : State} {m : MethodId} {args : Array Value} {below : List Frame} {meth : Method} {c : Code} {D : va_G} {I J O : ClassId} {ws0 : va_W} {sz : Nat} (E : fx p s m args meth c cL_row RL 1 (some .boolean) D I J O) (hfl : l.stackTraces = false) (hXZ : XZ (va_A ws0 sz) s) (h0 : Nat) (n t : Nat → Nat) (b0 b1 hh ha : Nat)  (r : Int32) : ∀ (x : ClC), f_L_row_245 x = some r → ∀ (ad : Nat → Nat → Nat) (H : Heap) (locs : List Loc), fy D (va_A ws0 sz) s.heap H locs (wCl I h0 n t b0 b1 hh x ++ wHi I O hh ha ad x.2.2.1) → ∀ ls : Array Slot, lv_has ls 1 [(0, .ref h0)] → W p l e (rmB 12 272 218 5072) s m args below meth c H locs 102 4376 (MQ below (qMi D sz ws0 r (fun _ : Unit => ([] : va_W))) args s 218 5072 (va_A ws0 sz)) (F0 m 245 ls []) := by
  have hx := E.1
  have hb := E.2.1
  intro x hf ad H locs hw ls hl
  unfold f_L_row_245 at hf
  refine lv_aload_n hx hb dL_row_245 rfl (lv_at hl 0 rfl) ?_
  refine lv_iconst (v := 0) hx hb dL_row_246 (by decide) ?_
  refine lv_iconst (v := 2) hx hb dL_row_247 (by decide) ?_
  obtain ⟨z34, h, hf⟩ := rt_s hf
  refine x_ci (x_rV E (As := [.int 0, .int 2]) (rest := []) (mt_X5_walker l D I J O h0 n t b0 b1 hh ha ad 0 2 x z34 h) blR (x_recv E hw.1 0 5 rfl rfl rfl) (x_pcR E hw.1) ok_X5_walker q644 rfl hl.1 rfl (Nat.le_of_ble_eq_true rfl) ⟨Nat.le_of_ble_eq_true rfl, Nat.le_of_ble_eq_true rfl⟩ ⟨Nat.le_of_ble_eq_true rfl, Nat.le_of_ble_eq_true rfl⟩ dL_row_248) ?_
  refine lv_iconst (v := 1) hx hb dL_row_251 (by decide) ?_
  refine lv_icmp_ne (tgt := 284) hx hb dL_row_252 (by decide) (fun hc => ?_) (fun hc => ?_)
  · rw [if_neg hc] at hf
    refine lv_iconst (v := 0) hx hb dL_row_284 (by decide) ?_
    have he0 := Option.some.inj hf
    have hw : fy D (va_A ws0 sz) s.heap H locs ([] : va_W) := fy.sub hw [] rfl rfl
    refine W.widen (k := 218) (n := 5072) (Nat.le_of_ble_eq_true rfl) (Nat.le_of_ble_eq_true rfl) ?_
    exact x_zM (w1 := fun _ : Unit => ([] : va_W)) E () hw (Or.inl rfl) he0 dL_row_285
  · rw [if_pos hc] at hf
    refine lv_aload_n hx hb dL_row_255 rfl (lv_at hl 0 rfl) ?_
    refine lv_iconst (v := 3) hx hb dL_row_256 (by decide) ?_
    refine lv_iconst (v := 2) hx hb dL_row_257 (by decide) ?_
    obtain ⟨z35, h, hf⟩ := rt_s hf
    refine x_ci (x_rV E (As := [.int 3, .int 2]) (rest := []) (mt_X5_walker l D I J O h0 n t b0 b1 hh ha ad 3 2 x z35 h) blR (x_recv E hw.1 0 5 rfl rfl rfl) (x_pcR E hw.1) ok_X5_walker q644 rfl hl.1 rfl (Nat.le_of_ble_eq_true rfl) ⟨Nat.le_of_ble_eq_true rfl, Nat.le_of_ble_eq_true rfl⟩ ⟨Nat.le_of_ble_eq_true rfl, Nat.le_of_ble_eq_true rfl⟩ dL_row_258) ?_
    refine lv_iconst (v := 3) hx hb dL_row_261 (by decide) ?_
    refine lv_icmp_ne (tgt := 284) hx hb dL_row_262 (by decide) (fun hc => ?_) (fun hc => ?_)
    · rw [if_neg hc] at hf
      refine lv_iconst (v := 0) hx hb dL_row_284 (by decide) ?_
      have he0 := Option.some.inj hf
      have hw : fy D (va_A ws0 sz) s.heap H locs ([] : va_W) := fy.sub hw [] rfl rfl
      refine W.widen (k := 218) (n := 5072) (Nat.le_of_ble_eq_true rfl) (Nat.le_of_ble_eq_true rfl) ?_
      exact x_zM (w1 := fun _ : Unit => ([] : va_W)) E () hw (Or.inl rfl) he0 dL_row_285
    · rw [if_pos hc] at hf
      refine lv_aload_n hx hb dL_row_265 rfl (lv_at hl 0 rfl) ?_
      refine lv_sipush (v := 2000) hx hb dL_row_266 (by decide) ?_
      refine lv_iconst (v := 5) hx hb dL_row_269 (by decide) ?_
      obtain ⟨z36, h, hf⟩ := rt_s hf
      refine x_ci (x_rV E (As := [.int 2000, .int 5]) (rest := []) (mt_X5_thing l D I J O h0 n t b0 b1 hh ha ad 2000 5 x z36 h) blR (x_recv E hw.1 0 5 rfl rfl rfl) (x_pcR E hw.1) ok_X5_thing q622 rfl hl.1 rfl (Nat.le_of_ble_eq_true rfl) ⟨Nat.le_of_ble_eq_true rfl, Nat.le_of_ble_eq_true rfl⟩ ⟨Nat.le_of_ble_eq_true rfl, Nat.le_of_ble_eq_true rfl⟩ dL_row_270) ?_
      refine lv_iconst (v := 1) hx hb dL_row_273 (by decide) ?_
      refine lv_icmp_ne (tgt := 284) hx hb dL_row_274 (by decide) (fun hc => ?_) (fun hc => ?_)
      · rw [if_neg hc] at hf
        refine lv_iconst (v := 0) hx hb dL_row_284 (by decide) ?_
        have he0 := Option.some.inj hf
        have hw : fy D (va_A ws0 sz) s.heap H locs ([] : va_W) := fy.sub hw [] rfl rfl
        refine W.widen (k := 218) (n := 5072) (Nat.le_of_ble_eq_true rfl) (Nat.le_of_ble_eq_true rfl) ?_
        exact x_zM (w1 := fun _ : Unit => ([] : va_W)) E () hw (Or.inl rfl) he0 dL_row_285
      · rw [if_pos hc] at hf
        refine lv_aload_n hx hb dL_row_277 rfl (lv_at hl 0 rfl) ?_
        obtain ⟨z37, h, hf⟩ := bd_s hf
        refine x_miFP0 hw (x_rS E (As := [.ref h0]) (rest := []) (mt_L_refused l hfl D I J O h0 n t b0 b1 hh ha ad H.size x z37.1 z37.2 h) blZ (x_pcZF0 E hXZ hw) ok_L_refused q686 rfl hl.1 rfl (Nat.le_of_ble_eq_true rfl) ⟨Nat.le_of_ble_eq_true rfl, Nat.le_of_ble_eq_true rfl⟩ ⟨Nat.le_of_ble_eq_true rfl, Nat.le_of_ble_eq_true rfl⟩ dL_row_278) (fun _ => rfl) (fun ad38 H locs hw => ?_)
        have hw : fy D (va_A ws0 sz) s.heap H locs (wCl I h0 n t b0 b1 hh z37.2 ++ wHi I O hh ha ad38 z37.2.2.2.1) := hw
        refine lv_if_ne (tgt := 286) hx hb dL_row_281 (by decide) (fun hc => ?_) (fun hc => ?_)
        · rw [if_neg hc] at hf
          refine lv_aload_n hx hb dL_row_286 rfl (lv_at hl 0 rfl) ?_
          refine lv_iconst (v := 0) hx hb dL_row_287 (by decide) ?_
          obtain ⟨z39, h, hf⟩ := rt_s hf
          refine x_miFP0 hw (x_rV E (As := [.int 0]) (rest := []) (mt_X5_take l D I J O h0 n t b0 b1 hh ha ad38 H.size 0 z37.2 z39.1 z39.2 h) blM (x_recv E hw.1 0 5 rfl rfl rfl) (x_pcMPF0 E hw) ok_X5_take q554 rfl hl.1 rfl (Nat.le_of_ble_eq_true rfl) ⟨Nat.le_of_ble_eq_true rfl, Nat.le_of_ble_eq_true rfl⟩ ⟨Nat.le_of_ble_eq_true rfl, Nat.le_of_ble_eq_true rfl⟩ dL_row_288) (fun _ => rfl) (fun ad40 H locs hw => ?_)
          have hw : fy D (va_A ws0 sz) s.heap H locs (wCl I h0 n t b0 b1 hh z39.2 ++ wHi I O hh ha ad40 z39.2.2.2.1) := hw
          refine lv_bipush (v := 7) hx hb dL_row_291 (by decide) ?_
          refine lv_icmp_ne (tgt := 617) hx hb dL_row_293 (by decide) (fun hc => ?_) (fun hc => ?_)
          · rw [if_neg hc] at hf
            refine lv_iconst (v := 0) hx hb dL_row_617 (by decide) ?_
            have he0 := Option.some.inj hf
            have hw : fy D (va_A ws0 sz) s.heap H locs ([] : va_W) := fy.sub hw [] rfl rfl
            refine W.widen (k := 218) (n := 5072) (Nat.le_of_ble_eq_true rfl) (Nat.le_of_ble_eq_true rfl) ?_
            exact x_zM (w1 := fun _ : Unit => ([] : va_W)) E () hw (Or.inl rfl) he0 dL_row_618
          · rw [if_pos hc] at hf
            refine lv_aload_n hx hb dL_row_296 rfl (lv_at hl 0 rfl) ?_
            refine lv_iconst (v := 1) hx hb dL_row_297 (by decide) ?_
            obtain ⟨z41, h, hf⟩ := rt_s hf
            refine x_ci (x_rV E (As := [.int 1]) (rest := []) (mt_X5_count l D I J O h0 n t b0 b1 hh ha ad40 1 z39.2 z41 h) blR (x_recv E hw.1 0 5 rfl rfl rfl) (x_pcR E hw.1) ok_X5_count q399 rfl hl.1 rfl (Nat.le_of_ble_eq_true rfl) ⟨Nat.le_of_ble_eq_true rfl, Nat.le_of_ble_eq_true rfl⟩ ⟨Nat.le_of_ble_eq_true rfl, Nat.le_of_ble_eq_true rfl⟩ dL_row_298) ?_
            refine lv_iconst (v := 1) hx hb dL_row_301 (by decide) ?_
            refine lv_icmp_ne (tgt := 617) hx hb dL_row_302 (by decide) (fun hc => ?_) (fun hc => ?_)
            · rw [if_neg hc] at hf
              refine lv_iconst (v := 0) hx hb dL_row_617 (by decide) ?_
              have he0 := Option.some.inj hf
              have hw : fy D (va_A ws0 sz) s.heap H locs ([] : va_W) := fy.sub hw [] rfl rfl
              refine W.widen (k := 218) (n := 5072) (Nat.le_of_ble_eq_true rfl) (Nat.le_of_ble_eq_true rfl) ?_
              exact x_zM (w1 := fun _ : Unit => ([] : va_W)) E () hw (Or.inl rfl) he0 dL_row_618
            · rw [if_pos hc] at hf
              refine lv_aload_n hx hb dL_row_305 rfl (lv_at hl 0 rfl) ?_
              refine lv_iconst (v := 0) hx hb dL_row_306 (by decide) ?_
              refine lv_iconst (v := 0) hx hb dL_row_307 (by decide) ?_
              obtain ⟨z42, h, hf⟩ := rt_s hf
              refine x_ci (x_rV E (As := [.int 0, .int 0]) (rest := []) (mt_X5_walker l D I J O h0 n t b0 b1 hh ha ad40 0 0 z39.2 z42 h) blR (x_recv E hw.1 0 5 rfl rfl rfl) (x_pcR E hw.1) ok_X5_walker q644 rfl hl.1 rfl (Nat.le_of_ble_eq_true rfl) ⟨Nat.le_of_ble_eq_true rfl, Nat.le_of_ble_eq_true rfl⟩ ⟨Nat.le_of_ble_eq_true rfl, Nat.le_of_ble_eq_true rfl⟩ dL_row_308) ?_
              refine lv_iconst (v := 2) hx hb dL_row_311 (by decide) ?_
              refine lv_icmp_ne (tgt := 617) hx hb dL_row_312 (by decide) (fun hc => ?_) (fun hc => ?_)
              · rw [if_neg hc] at hf
                refine lv_iconst (v := 0) hx hb dL_row_617 (by decide) ?_
                have he0 := Option.some.inj hf
                have hw : fy D (va_A ws0 sz) s.heap H locs ([] : va_W) := fy.sub hw [] rfl rfl
                refine W.widen (k := 218) (n := 5072) (Nat.le_of_ble_eq_true rfl) (Nat.le_of_ble_eq_true rfl) ?_
                exact x_zM (w1 := fun _ : Unit => ([] : va_W)) E () hw (Or.inl rfl) he0 dL_row_618
              · rw [if_pos hc] at hf
                refine lv_aload_n hx hb dL_row_315 rfl (lv_at hl 0 rfl) ?_
                refine lv_iconst (v := 0) hx hb dL_row_316 (by decide) ?_
                refine lv_iconst (v := 1) hx hb dL_row_317 (by decide) ?_
                obtain ⟨z43, h, hf⟩ := rt_s hf
                refine x_ci (x_rV E (As := [.int 0, .int 1]) (rest := []) (mt_X5_walker l D I J O h0 n t b0 b1 hh ha ad40 0 1 z39.2 z43 h) blR (x_recv E hw.1 0 5 rfl rfl rfl) (x_pcR E hw.1) ok_X5_walker q644 rfl hl.1 rfl (Nat.le_of_ble_eq_true rfl) ⟨Nat.le_of_ble_eq_true rfl, Nat.le_of_ble_eq_true rfl⟩ ⟨Nat.le_of_ble_eq_true rfl, Nat.le_of_ble_eq_true rfl⟩ dL_row_318) ?_
                refine lv_iconst (v := (-1)) hx hb dL_row_321 (by decide) ?_
                refine lv_icmp_ne (tgt := 617) hx hb dL_row_322 (by decide) (fun hc => ?_) (fun hc => ?_)
                · rw [if_neg hc] at hf
                  refine lv_iconst (v := 0) hx hb dL_row_617 (by decide) ?_
                  have he0 := Option.some.inj hf
                  have hw : fy D (va_A ws0 sz) s.heap H locs ([] : va_W) := fy.sub hw [] rfl rfl
                  refine W.widen (k := 218) (n := 5072) (Nat.le_of_ble_eq_true rfl) (Nat.le_of_ble_eq_true rfl) ?_
                  exact x_zM (w1 := fun _ : Unit => ([] : va_W)) E () hw (Or.inl rfl) he0 dL_row_618
                · rw [if_pos hc] at hf
                  refine W.widen (k := 160) (n := 4724) (Nat.le_of_ble_eq_true rfl) (Nat.le_of_ble_eq_true rfl) ?_
                  exact k_L_row_325 E hfl hXZ h0 n t b0 b1 hh ha r z39.2 hf ad40 _ _ hw _ (lv_sub hl [0] rfl)
        · rw [if_pos hc] at hf
          refine lv_iconst (v := 0) hx hb dL_row_284 (by decide) ?_
          have he0 := Option.some.inj hf
          have hw : fy D (va_A ws0 sz) s.heap H locs ([] : va_W) := fy.sub hw [] rfl rfl
          refine W.widen (k := 218) (n := 5072) (Nat.le_of_ble_eq_true rfl) (Nat.le_of_ble_eq_true rfl) ?_
          exact x_zM (w1 := fun _ : Unit => ([] : va_W)) E () hw (Or.inl rfl) he0 dL_row_285
set_option maxRecDepth 100000 in
set_option maxHeartbeats 4000000 in
theorem k_L_row_168 {p : Program} {l : Launch} {e : Env} {s : State} {m : MethodId} {args : Array Value} {below : List Frame} {meth : Method} {c : Code} {D : va_G} {I J O : ClassId} {ws0 : va_W} {sz : Nat} (E : fx p s m args meth c cL_row RL 1 (some .boolean) D I J O) (hfl : l.stackTraces = false) (hXZ : XZ (va_A ws0 sz) s) (h0 : Nat) (n t : Nat → Nat) (b0 b1 hh ha : Nat)  (r : Int32) : ∀ (x : ClC), f_L_row_168 x = some r → ∀ (ad : Nat → Nat → Nat) (H : Heap) (locs : List Loc), fy D (va_A ws0 sz) s.heap H locs (wCl I h0 n t b0 b1 hh x ++ wHi I O hh ha ad x.2.2.1) → ∀ ls : Array Slot, lv_has ls 1 [(0, .ref h0)] → W p l e (rmB 12 272 218 5072) s m args below meth c H locs 102 4376 (MQ below (qMi D sz ws0 r (fun _ : Unit => ([] : va_W))) args s 218 5072 (va_A ws0 sz)) (F0 m 168 ls []) := by
  have hx := E.1
  have hb := E.2.1
  intro x hf ad H locs hw ls hl
  unfold f_L_row_168 at hf
  refine lv_aload_n hx hb dL_row_168 rfl (lv_at hl 0 rfl) ?_
  refine lv_iconst (v := 1) hx hb dL_row_169 (by decide) ?_
  obtain ⟨z22, h, hf⟩ := rt_s hf
  refine x_ci (x_rV E (As := [.int 1]) (rest := []) (mt_X5_gap l D I J O h0 n t b0 b1 hh ha ad 1 x z22 h) blR (x_recv E hw.1 0 5 rfl rfl rfl) (x_pcR E hw.1) ok_X5_gap q658 rfl hl.1 rfl (Nat.le_of_ble_eq_true rfl) ⟨Nat.le_of_ble_eq_true rfl, Nat.le_of_ble_eq_true rfl⟩ ⟨Nat.le_of_ble_eq_true rfl, Nat.le_of_ble_eq_true rfl⟩ dL_row_170) ?_
  refine lv_bipush (v := 6) hx hb dL_row_173 (by decide) ?_
  refine lv_icmp_ne (tgt := 284) hx hb dL_row_175 (by decide) (fun hc => ?_) (fun hc => ?_)
  · rw [if_neg hc] at hf
    refine lv_iconst (v := 0) hx hb dL_row_284 (by decide) ?_
    have he0 := Option.some.inj hf
    have hw : fy D (va_A ws0 sz) s.heap H locs ([] : va_W) := fy.sub hw [] rfl rfl
    refine W.widen (k := 218) (n := 5072) (Nat.le_of_ble_eq_true rfl) (Nat.le_of_ble_eq_true rfl) ?_
    exact x_zM (w1 := fun _ : Unit => ([] : va_W)) E () hw (Or.inl rfl) he0 dL_row_285
  · rw [if_pos hc] at hf
    refine lv_aload_n hx hb dL_row_178 rfl (lv_at hl 0 rfl) ?_
    refine lv_iconst (v := 4) hx hb dL_row_179 (by decide) ?_
    refine lv_iconst (v := 0) hx hb dL_row_180 (by decide) ?_
    obtain ⟨z23, h, hf⟩ := rt_s hf
    refine x_ci (x_rV E (As := [.int 4, .int 0]) (rest := []) (mt_X5_room l D I J O h0 n t b0 b1 hh ha ad 4 0 x z23 h) blR (x_recv E hw.1 0 5 rfl rfl rfl) (x_pcR E hw.1) ok_X5_room q681 rfl hl.1 rfl (Nat.le_of_ble_eq_true rfl) ⟨Nat.le_of_ble_eq_true rfl, Nat.le_of_ble_eq_true rfl⟩ ⟨Nat.le_of_ble_eq_true rfl, Nat.le_of_ble_eq_true rfl⟩ dL_row_181) ?_
    refine lv_iconst (v := 2) hx hb dL_row_184 (by decide) ?_
    refine lv_icmp_ne (tgt := 284) hx hb dL_row_185 (by decide) (fun hc => ?_) (fun hc => ?_)
    · rw [if_neg hc] at hf
      refine lv_iconst (v := 0) hx hb dL_row_284 (by decide) ?_
      have he0 := Option.some.inj hf
      have hw : fy D (va_A ws0 sz) s.heap H locs ([] : va_W) := fy.sub hw [] rfl rfl
      refine W.widen (k := 218) (n := 5072) (Nat.le_of_ble_eq_true rfl) (Nat.le_of_ble_eq_true rfl) ?_
      exact x_zM (w1 := fun _ : Unit => ([] : va_W)) E () hw (Or.inl rfl) he0 dL_row_285
    · rw [if_pos hc] at hf
      refine lv_aload_n hx hb dL_row_188 rfl (lv_at hl 0 rfl) ?_
      refine lv_iconst (v := 3) hx hb dL_row_189 (by decide) ?_
      refine lv_iconst (v := 0) hx hb dL_row_190 (by decide) ?_
      obtain ⟨z24, h, hf⟩ := rt_s hf
      refine x_ci (x_rV E (As := [.int 3, .int 0]) (rest := []) (mt_X5_room l D I J O h0 n t b0 b1 hh ha ad 3 0 x z24 h) blR (x_recv E hw.1 0 5 rfl rfl rfl) (x_pcR E hw.1) ok_X5_room q681 rfl hl.1 rfl (Nat.le_of_ble_eq_true rfl) ⟨Nat.le_of_ble_eq_true rfl, Nat.le_of_ble_eq_true rfl⟩ ⟨Nat.le_of_ble_eq_true rfl, Nat.le_of_ble_eq_true rfl⟩ dL_row_191) ?_
      refine lv_iconst (v := 3) hx hb dL_row_194 (by decide) ?_
      refine lv_icmp_ne (tgt := 284) hx hb dL_row_195 (by decide) (fun hc => ?_) (fun hc => ?_)
      · rw [if_neg hc] at hf
        refine lv_iconst (v := 0) hx hb dL_row_284 (by decide) ?_
        have he0 := Option.some.inj hf
        have hw : fy D (va_A ws0 sz) s.heap H locs ([] : va_W) := fy.sub hw [] rfl rfl
        refine W.widen (k := 218) (n := 5072) (Nat.le_of_ble_eq_true rfl) (Nat.le_of_ble_eq_true rfl) ?_
        exact x_zM (w1 := fun _ : Unit => ([] : va_W)) E () hw (Or.inl rfl) he0 dL_row_285
      · rw [if_pos hc] at hf
        refine lv_aload_n hx hb dL_row_198 rfl (lv_at hl 0 rfl) ?_
        obtain ⟨z25, h, hf⟩ := bd_s hf
        refine x_cd (x_rV E (As := []) (rest := []) (mt_X5_fullness l D I J O h0 n t b0 b1 hh ha ad x z25 h) blR (x_recv E hw.1 0 5 rfl rfl rfl) (x_pcR E hw.1) ok_X5_fullness q742 rfl hl.1 rfl (Nat.le_of_ble_eq_true rfl) ⟨Nat.le_of_ble_eq_true rfl, Nat.le_of_ble_eq_true rfl⟩ ⟨Nat.le_of_ble_eq_true rfl, Nat.le_of_ble_eq_true rfl⟩ dL_row_199) ?_
        refine lv_ldc2d (v := 4600427019358961664) hx hb E.2.2.2.1 (E.2.2.2.2.1 _ q743) dL_row_202 ?_
        refine lv_dcmp hx hb dL_row_205 ?_
        refine lv_if_ne (tgt := 284) hx hb dL_row_206 (by decide) (fun hc => ?_) (fun hc => ?_)
        · rw [if_neg hc] at hf
          refine lv_iconst (v := 0) hx hb dL_row_284 (by decide) ?_
          have he0 := Option.some.inj hf
          have hw : fy D (va_A ws0 sz) s.heap H locs ([] : va_W) := fy.sub hw [] rfl rfl
          refine W.widen (k := 218) (n := 5072) (Nat.le_of_ble_eq_true rfl) (Nat.le_of_ble_eq_true rfl) ?_
          exact x_zM (w1 := fun _ : Unit => ([] : va_W)) E () hw (Or.inl rfl) he0 dL_row_285
        · rw [if_pos hc] at hf
          refine lv_aload_n hx hb dL_row_209 rfl (lv_at hl 0 rfl) ?_
          refine lv_iconst (v := 2) hx hb dL_row_210 (by decide) ?_
          obtain ⟨z26, h, hf⟩ := rt_s hf
          refine x_miFP0 hw (x_rV E (As := [.int 2]) (rest := []) (mt_X5_goOn l D I J O h0 n t b0 b1 hh ha ad H.size 2 x z26.1 z26.2 h) blM (x_recv E hw.1 0 5 rfl rfl rfl) (x_pcMPF0 E hw) ok_X5_goOn q538 rfl hl.1 rfl (Nat.le_of_ble_eq_true rfl) ⟨Nat.le_of_ble_eq_true rfl, Nat.le_of_ble_eq_true rfl⟩ ⟨Nat.le_of_ble_eq_true rfl, Nat.le_of_ble_eq_true rfl⟩ dL_row_211) (fun _ => rfl) (fun ad27 H locs hw => ?_)
          have hw : fy D (va_A ws0 sz) s.heap H locs (wCl I h0 n t b0 b1 hh z26.2 ++ wHi I O hh ha ad27 z26.2.2.2.1) := hw
          refine lv_iconst (v := (-1)) hx hb dL_row_214 (by decide) ?_
          refine lv_icmp_ne (tgt := 284) hx hb dL_row_215 (by decide) (fun hc => ?_) (fun hc => ?_)
          · rw [if_neg hc] at hf
            refine lv_iconst (v := 0) hx hb dL_row_284 (by decide) ?_
            have he0 := Option.some.inj hf
            have hw : fy D (va_A ws0 sz) s.heap H locs ([] : va_W) := fy.sub hw [] rfl rfl
            refine W.widen (k := 218) (n := 5072) (Nat.le_of_ble_eq_true rfl) (Nat.le_of_ble_eq_true rfl) ?_
            exact x_zM (w1 := fun _ : Unit => ([] : va_W)) E () hw (Or.inl rfl) he0 dL_row_285
          · rw [if_pos hc] at hf
            refine lv_aload_n hx hb dL_row_218 rfl (lv_at hl 0 rfl) ?_
            refine lv_iconst (v := 0) hx hb dL_row_219 (by decide) ?_
            obtain ⟨z28, h, hf⟩ := rt_s hf
            refine x_miFP0 hw (x_rV E (As := [.int 0]) (rest := []) (mt_X5_goOn l D I J O h0 n t b0 b1 hh ha ad27 H.size 0 z26.2 z28.1 z28.2 h) blM (x_recv E hw.1 0 5 rfl rfl rfl) (x_pcMPF0 E hw) ok_X5_goOn q538 rfl hl.1 rfl (Nat.le_of_ble_eq_true rfl) ⟨Nat.le_of_ble_eq_true rfl, Nat.le_of_ble_eq_true rfl⟩ ⟨Nat.le_of_ble_eq_true rfl, Nat.le_of_ble_eq_true rfl⟩ dL_row_220) (fun _ => rfl) (fun ad29 H locs hw => ?_)
            have hw : fy D (va_A ws0 sz) s.heap H locs (wCl I h0 n t b0 b1 hh z28.2 ++ wHi I O hh ha ad29 z28.2.2.2.1) := hw
            refine lv_if_ne (tgt := 284) hx hb dL_row_223 (by decide) (fun hc => ?_) (fun hc => ?_)
            · rw [if_neg hc] at hf
              refine lv_iconst (v := 0) hx hb dL_row_284 (by decide) ?_
              have he0 := Option.some.inj hf
              have hw : fy D (va_A ws0 sz) s.heap H locs ([] : va_W) := fy.sub hw [] rfl rfl
              refine W.widen (k := 218) (n := 5072) (Nat.le_of_ble_eq_true rfl) (Nat.le_of_ble_eq_true rfl) ?_
              exact x_zM (w1 := fun _ : Unit => ([] : va_W)) E () hw (Or.inl rfl) he0 dL_row_285
            · rw [if_pos hc] at hf
              refine lv_aload_n hx hb dL_row_226 rfl (lv_at hl 0 rfl) ?_
              refine lv_iconst (v := 0) hx hb dL_row_227 (by decide) ?_
              obtain ⟨z30, h, hf⟩ := rt_s hf
              refine x_miFP0 hw (x_rV E (As := [.int 0]) (rest := []) (mt_X5_goOn l D I J O h0 n t b0 b1 hh ha ad29 H.size 0 z28.2 z30.1 z30.2 h) blM (x_recv E hw.1 0 5 rfl rfl rfl) (x_pcMPF0 E hw) ok_X5_goOn q538 rfl hl.1 rfl (Nat.le_of_ble_eq_true rfl) ⟨Nat.le_of_ble_eq_true rfl, Nat.le_of_ble_eq_true rfl⟩ ⟨Nat.le_of_ble_eq_true rfl, Nat.le_of_ble_eq_true rfl⟩ dL_row_228) (fun _ => rfl) (fun ad31 H locs hw => ?_)
              have hw : fy D (va_A ws0 sz) s.heap H locs (wCl I h0 n t b0 b1 hh z30.2 ++ wHi I O hh ha ad31 z30.2.2.2.1) := hw
              refine lv_sipush (v := 2000) hx hb dL_row_231 (by decide) ?_
              refine lv_icmp_ne (tgt := 284) hx hb dL_row_234 (by decide) (fun hc => ?_) (fun hc => ?_)
              · rw [if_neg hc] at hf
                refine lv_iconst (v := 0) hx hb dL_row_284 (by decide) ?_
                have he0 := Option.some.inj hf
                have hw : fy D (va_A ws0 sz) s.heap H locs ([] : va_W) := fy.sub hw [] rfl rfl
                refine W.widen (k := 218) (n := 5072) (Nat.le_of_ble_eq_true rfl) (Nat.le_of_ble_eq_true rfl) ?_
                exact x_zM (w1 := fun _ : Unit => ([] : va_W)) E () hw (Or.inl rfl) he0 dL_row_285
              · rw [if_pos hc] at hf
                refine lv_aload_n hx hb dL_row_237 rfl (lv_at hl 0 rfl) ?_
                refine lv_iconst (v := 1) hx hb dL_row_238 (by decide) ?_
                obtain ⟨z32, h, hf⟩ := rt_s hf
                refine x_miFP0 hw (x_rV E (As := [.int 1]) (rest := []) (mt_X5_goOn l D I J O h0 n t b0 b1 hh ha ad31 H.size 1 z30.2 z32.1 z32.2 h) blM (x_recv E hw.1 0 5 rfl rfl rfl) (x_pcMPF0 E hw) ok_X5_goOn q538 rfl hl.1 rfl (Nat.le_of_ble_eq_true rfl) ⟨Nat.le_of_ble_eq_true rfl, Nat.le_of_ble_eq_true rfl⟩ ⟨Nat.le_of_ble_eq_true rfl, Nat.le_of_ble_eq_true rfl⟩ dL_row_239) (fun _ => rfl) (fun ad33 H locs hw => ?_)
                have hw : fy D (va_A ws0 sz) s.heap H locs (wCl I h0 n t b0 b1 hh z32.2 ++ wHi I O hh ha ad33 z32.2.2.2.1) := hw
                refine lv_if_ne (tgt := 284) hx hb dL_row_242 (by decide) (fun hc => ?_) (fun hc => ?_)
                · rw [if_neg hc] at hf
                  refine lv_iconst (v := 0) hx hb dL_row_284 (by decide) ?_
                  have he0 := Option.some.inj hf
                  have hw : fy D (va_A ws0 sz) s.heap H locs ([] : va_W) := fy.sub hw [] rfl rfl
                  refine W.widen (k := 218) (n := 5072) (Nat.le_of_ble_eq_true rfl) (Nat.le_of_ble_eq_true rfl) ?_
                  exact x_zM (w1 := fun _ : Unit => ([] : va_W)) E () hw (Or.inl rfl) he0 dL_row_285
                · rw [if_pos hc] at hf
                  refine W.widen (k := 102) (n := 4376) (Nat.le_of_ble_eq_true rfl) (Nat.le_of_ble_eq_true rfl) ?_
                  exact k_L_row_245 E hfl hXZ h0 n t b0 b1 hh ha r z32.2 hf ad33 _ _ hw _ (lv_sub hl [0] rfl)
set_option maxRecDepth 100000 in
set_option maxHeartbeats 4000000 in
theorem k_L_row_77 {p : Program} {l : Launch} {e : Env} {s : State} {m : MethodId} {args : Array Value} {below : List Frame} {meth : Method} {c : Code} {D : va_G} {I J O : ClassId} {ws0 : va_W} {sz : Nat} (E : fx p s m args meth c cL_row RL 1 (some .boolean) D I J O) (hfl : l.stackTraces = false) (hXZ : XZ (va_A ws0 sz) s) (h0 : Nat) (n t : Nat → Nat) (b0 b1 hh ha : Nat)  (r : Int32) : ∀ (x : ClC), f_L_row_77 x = some r → ∀ (ad : Nat → Nat → Nat) (H : Heap) (locs : List Loc), fy D (va_A ws0 sz) s.heap H locs (wCl I h0 n t b0 b1 hh x ++ wHi I O hh ha ad x.2.2.1) → ∀ ls : Array Slot, lv_has ls 1 [(0, .ref h0)] → W p l e (rmB 12 272 218 5072) s m args below meth c H locs 102 4376 (MQ below (qMi D sz ws0 r (fun _ : Unit => ([] : va_W))) args s 218 5072 (va_A ws0 sz)) (F0 m 77 ls []) := by
  have hx := E.1
  have hb := E.2.1
  intro x hf ad H locs hw ls hl
  unfold f_L_row_77 at hf
  refine lv_aload_n hx hb dL_row_77 rfl (lv_at hl 0 rfl) ?_
  refine lv_iconst (v := 5) hx hb dL_row_78 (by decide) ?_
  refine lv_iconst (v := 2) hx hb dL_row_79 (by decide) ?_
  refine lv_iconst (v := 0) hx hb dL_row_80 (by decide) ?_
  obtain ⟨z11, h, hf⟩ := rt_s hf
  refine x_miFP0 hw (x_rV E (As := [.int 5, .int 2, .int 0]) (rest := []) (mt_X5_put l D I J O h0 n t b0 b1 hh ha ad H.size 5 2 0 x z11.1 z11.2 h) blM (x_recv E hw.1 0 5 rfl rfl rfl) (x_pcMPF0 E hw) ok_X5_put q451 rfl hl.1 rfl (Nat.le_of_ble_eq_true rfl) ⟨Nat.le_of_ble_eq_true rfl, Nat.le_of_ble_eq_true rfl⟩ ⟨Nat.le_of_ble_eq_true rfl, Nat.le_of_ble_eq_true rfl⟩ dL_row_81) (fun _ => rfl) (fun ad12 H locs hw => ?_)
  have hw : fy D (va_A ws0 sz) s.heap H locs (wCl I h0 n t b0 b1 hh z11.2 ++ wHi I O hh ha ad12 z11.2.2.2.1) := hw
  refine lv_if_ne (tgt := 284) hx hb dL_row_84 (by decide) (fun hc => ?_) (fun hc => ?_)
  · rw [if_neg hc] at hf
    refine lv_iconst (v := 0) hx hb dL_row_284 (by decide) ?_
    have he0 := Option.some.inj hf
    have hw : fy D (va_A ws0 sz) s.heap H locs ([] : va_W) := fy.sub hw [] rfl rfl
    refine W.widen (k := 218) (n := 5072) (Nat.le_of_ble_eq_true rfl) (Nat.le_of_ble_eq_true rfl) ?_
    exact x_zM (w1 := fun _ : Unit => ([] : va_W)) E () hw (Or.inl rfl) he0 dL_row_285
  · rw [if_pos hc] at hf
    refine lv_aload_n hx hb dL_row_87 rfl (lv_at hl 0 rfl) ?_
    refine lv_bipush (v := 7) hx hb dL_row_88 (by decide) ?_
    refine lv_iconst (v := 1) hx hb dL_row_90 (by decide) ?_
    refine lv_iconst (v := 1) hx hb dL_row_91 (by decide) ?_
    obtain ⟨z13, h, hf⟩ := rt_s hf
    refine x_miFP0 hw (x_rV E (As := [.int 7, .int 1, .int 1]) (rest := []) (mt_X5_put l D I J O h0 n t b0 b1 hh ha ad12 H.size 7 1 1 z11.2 z13.1 z13.2 h) blM (x_recv E hw.1 0 5 rfl rfl rfl) (x_pcMPF0 E hw) ok_X5_put q451 rfl hl.1 rfl (Nat.le_of_ble_eq_true rfl) ⟨Nat.le_of_ble_eq_true rfl, Nat.le_of_ble_eq_true rfl⟩ ⟨Nat.le_of_ble_eq_true rfl, Nat.le_of_ble_eq_true rfl⟩ dL_row_92) (fun _ => rfl) (fun ad14 H locs hw => ?_)
    have hw : fy D (va_A ws0 sz) s.heap H locs (wCl I h0 n t b0 b1 hh z13.2 ++ wHi I O hh ha ad14 z13.2.2.2.1) := hw
    refine lv_sipush (v := 2000) hx hb dL_row_95 (by decide) ?_
    refine lv_icmp_ne (tgt := 284) hx hb dL_row_98 (by decide) (fun hc => ?_) (fun hc => ?_)
    · rw [if_neg hc] at hf
      refine lv_iconst (v := 0) hx hb dL_row_284 (by decide) ?_
      have he0 := Option.some.inj hf
      have hw : fy D (va_A ws0 sz) s.heap H locs ([] : va_W) := fy.sub hw [] rfl rfl
      refine W.widen (k := 218) (n := 5072) (Nat.le_of_ble_eq_true rfl) (Nat.le_of_ble_eq_true rfl) ?_
      exact x_zM (w1 := fun _ : Unit => ([] : va_W)) E () hw (Or.inl rfl) he0 dL_row_285
    · rw [if_pos hc] at hf
      refine lv_aload_n hx hb dL_row_101 rfl (lv_at hl 0 rfl) ?_
      refine lv_bipush (v := 9) hx hb dL_row_102 (by decide) ?_
      refine lv_iconst (v := 3) hx hb dL_row_104 (by decide) ?_
      refine lv_iconst (v := 2) hx hb dL_row_105 (by decide) ?_
      obtain ⟨z15, h, hf⟩ := rt_s hf
      refine x_miFP0 hw (x_rV E (As := [.int 9, .int 3, .int 2]) (rest := []) (mt_X5_put l D I J O h0 n t b0 b1 hh ha ad14 H.size 9 3 2 z13.2 z15.1 z15.2 h) blM (x_recv E hw.1 0 5 rfl rfl rfl) (x_pcMPF0 E hw) ok_X5_put q451 rfl hl.1 rfl (Nat.le_of_ble_eq_true rfl) ⟨Nat.le_of_ble_eq_true rfl, Nat.le_of_ble_eq_true rfl⟩ ⟨Nat.le_of_ble_eq_true rfl, Nat.le_of_ble_eq_true rfl⟩ dL_row_106) (fun _ => rfl) (fun ad16 H locs hw => ?_)
      have hw : fy D (va_A ws0 sz) s.heap H locs (wCl I h0 n t b0 b1 hh z15.2 ++ wHi I O hh ha ad16 z15.2.2.2.1) := hw
      refine lv_sipush (v := 3000) hx hb dL_row_109 (by decide) ?_
      refine lv_icmp_ne (tgt := 284) hx hb dL_row_112 (by decide) (fun hc => ?_) (fun hc => ?_)
      · rw [if_neg hc] at hf
        refine lv_iconst (v := 0) hx hb dL_row_284 (by decide) ?_
        have he0 := Option.some.inj hf
        have hw : fy D (va_A ws0 sz) s.heap H locs ([] : va_W) := fy.sub hw [] rfl rfl
        refine W.widen (k := 218) (n := 5072) (Nat.le_of_ble_eq_true rfl) (Nat.le_of_ble_eq_true rfl) ?_
        exact x_zM (w1 := fun _ : Unit => ([] : va_W)) E () hw (Or.inl rfl) he0 dL_row_285
      · rw [if_pos hc] at hf
        refine lv_aload_n hx hb dL_row_115 rfl (lv_at hl 0 rfl) ?_
        refine lv_iconst (v := 3) hx hb dL_row_116 (by decide) ?_
        obtain ⟨z17, h, hf⟩ := rt_s hf
        refine x_ci (x_rV E (As := [.int 3]) (rest := []) (mt_X5_count l D I J O h0 n t b0 b1 hh ha ad16 3 z15.2 z17 h) blR (x_recv E hw.1 0 5 rfl rfl rfl) (x_pcR E hw.1) ok_X5_count q399 rfl hl.1 rfl (Nat.le_of_ble_eq_true rfl) ⟨Nat.le_of_ble_eq_true rfl, Nat.le_of_ble_eq_true rfl⟩ ⟨Nat.le_of_ble_eq_true rfl, Nat.le_of_ble_eq_true rfl⟩ dL_row_117) ?_
        refine lv_bipush (v := 10) hx hb dL_row_120 (by decide) ?_
        refine lv_icmp_ne (tgt := 284) hx hb dL_row_122 (by decide) (fun hc => ?_) (fun hc => ?_)
        · rw [if_neg hc] at hf
          refine lv_iconst (v := 0) hx hb dL_row_284 (by decide) ?_
          have he0 := Option.some.inj hf
          have hw : fy D (va_A ws0 sz) s.heap H locs ([] : va_W) := fy.sub hw [] rfl rfl
          refine W.widen (k := 218) (n := 5072) (Nat.le_of_ble_eq_true rfl) (Nat.le_of_ble_eq_true rfl) ?_
          exact x_zM (w1 := fun _ : Unit => ([] : va_W)) E () hw (Or.inl rfl) he0 dL_row_285
        · rw [if_pos hc] at hf
          refine lv_aload_n hx hb dL_row_125 rfl (lv_at hl 0 rfl) ?_
          refine lv_iconst (v := 1) hx hb dL_row_126 (by decide) ?_
          obtain ⟨z18, h, hf⟩ := rt_s hf
          refine x_ci (x_rV E (As := [.int 1]) (rest := []) (mt_X5_at l D I J O h0 n t b0 b1 hh ha ad16 1 z15.2 z18 h) blR (x_recv E hw.1 0 5 rfl rfl rfl) (x_pcR E hw.1) ok_X5_at q371 rfl hl.1 rfl (Nat.le_of_ble_eq_true rfl) ⟨Nat.le_of_ble_eq_true rfl, Nat.le_of_ble_eq_true rfl⟩ ⟨Nat.le_of_ble_eq_true rfl, Nat.le_of_ble_eq_true rfl⟩ dL_row_127) ?_
          refine lv_sipush (v := 2000) hx hb dL_row_130 (by decide) ?_
          refine lv_icmp_ne (tgt := 284) hx hb dL_row_133 (by decide) (fun hc => ?_) (fun hc => ?_)
          · rw [if_neg hc] at hf
            refine lv_iconst (v := 0) hx hb dL_row_284 (by decide) ?_
            have he0 := Option.some.inj hf
            have hw : fy D (va_A ws0 sz) s.heap H locs ([] : va_W) := fy.sub hw [] rfl rfl
            refine W.widen (k := 218) (n := 5072) (Nat.le_of_ble_eq_true rfl) (Nat.le_of_ble_eq_true rfl) ?_
            exact x_zM (w1 := fun _ : Unit => ([] : va_W)) E () hw (Or.inl rfl) he0 dL_row_285
          · rw [if_pos hc] at hf
            refine lv_aload_n hx hb dL_row_136 rfl (lv_at hl 0 rfl) ?_
            refine lv_sipush (v := 3000) hx hb dL_row_137 (by decide) ?_
            refine lv_iconst (v := 4) hx hb dL_row_140 (by decide) ?_
            obtain ⟨z19, h, hf⟩ := rt_s hf
            refine x_ci (x_rV E (As := [.int 3000, .int 4]) (rest := []) (mt_X5_thing l D I J O h0 n t b0 b1 hh ha ad16 3000 4 z15.2 z19 h) blR (x_recv E hw.1 0 5 rfl rfl rfl) (x_pcR E hw.1) ok_X5_thing q622 rfl hl.1 rfl (Nat.le_of_ble_eq_true rfl) ⟨Nat.le_of_ble_eq_true rfl, Nat.le_of_ble_eq_true rfl⟩ ⟨Nat.le_of_ble_eq_true rfl, Nat.le_of_ble_eq_true rfl⟩ dL_row_141) ?_
            refine lv_iconst (v := 2) hx hb dL_row_144 (by decide) ?_
            refine lv_icmp_ne (tgt := 284) hx hb dL_row_145 (by decide) (fun hc => ?_) (fun hc => ?_)
            · rw [if_neg hc] at hf
              refine lv_iconst (v := 0) hx hb dL_row_284 (by decide) ?_
              have he0 := Option.some.inj hf
              have hw : fy D (va_A ws0 sz) s.heap H locs ([] : va_W) := fy.sub hw [] rfl rfl
              refine W.widen (k := 218) (n := 5072) (Nat.le_of_ble_eq_true rfl) (Nat.le_of_ble_eq_true rfl) ?_
              exact x_zM (w1 := fun _ : Unit => ([] : va_W)) E () hw (Or.inl rfl) he0 dL_row_285
            · rw [if_pos hc] at hf
              refine lv_aload_n hx hb dL_row_148 rfl (lv_at hl 0 rfl) ?_
              refine lv_iconst (v := 4) hx hb dL_row_149 (by decide) ?_
              obtain ⟨z20, h, hf⟩ := rt_s hf
              refine x_ci (x_rV E (As := [.int 4]) (rest := []) (mt_X5_begins l D I J O h0 n t b0 b1 hh ha ad16 4 z15.2 z20 h) blR (x_recv E hw.1 0 5 rfl rfl rfl) (x_pcR E hw.1) ok_X5_begins q653 rfl hl.1 rfl (Nat.le_of_ble_eq_true rfl) ⟨Nat.le_of_ble_eq_true rfl, Nat.le_of_ble_eq_true rfl⟩ ⟨Nat.le_of_ble_eq_true rfl, Nat.le_of_ble_eq_true rfl⟩ dL_row_150) ?_
              refine lv_bipush (v := 6) hx hb dL_row_153 (by decide) ?_
              refine lv_icmp_ne (tgt := 284) hx hb dL_row_155 (by decide) (fun hc => ?_) (fun hc => ?_)
              · rw [if_neg hc] at hf
                refine lv_iconst (v := 0) hx hb dL_row_284 (by decide) ?_
                have he0 := Option.some.inj hf
                have hw : fy D (va_A ws0 sz) s.heap H locs ([] : va_W) := fy.sub hw [] rfl rfl
                refine W.widen (k := 218) (n := 5072) (Nat.le_of_ble_eq_true rfl) (Nat.le_of_ble_eq_true rfl) ?_
                exact x_zM (w1 := fun _ : Unit => ([] : va_W)) E () hw (Or.inl rfl) he0 dL_row_285
              · rw [if_pos hc] at hf
                refine lv_aload_n hx hb dL_row_158 rfl (lv_at hl 0 rfl) ?_
                refine lv_iconst (v := 0) hx hb dL_row_159 (by decide) ?_
                obtain ⟨z21, h, hf⟩ := rt_s hf
                refine x_ci (x_rV E (As := [.int 0]) (rest := []) (mt_X5_gap l D I J O h0 n t b0 b1 hh ha ad16 0 z15.2 z21 h) blR (x_recv E hw.1 0 5 rfl rfl rfl) (x_pcR E hw.1) ok_X5_gap q658 rfl hl.1 rfl (Nat.le_of_ble_eq_true rfl) ⟨Nat.le_of_ble_eq_true rfl, Nat.le_of_ble_eq_true rfl⟩ ⟨Nat.le_of_ble_eq_true rfl, Nat.le_of_ble_eq_true rfl⟩ dL_row_160) ?_
                refine lv_bipush (v := 10) hx hb dL_row_163 (by decide) ?_
                refine lv_icmp_ne (tgt := 284) hx hb dL_row_165 (by decide) (fun hc => ?_) (fun hc => ?_)
                · rw [if_neg hc] at hf
                  refine lv_iconst (v := 0) hx hb dL_row_284 (by decide) ?_
                  have he0 := Option.some.inj hf
                  have hw : fy D (va_A ws0 sz) s.heap H locs ([] : va_W) := fy.sub hw [] rfl rfl
                  refine W.widen (k := 218) (n := 5072) (Nat.le_of_ble_eq_true rfl) (Nat.le_of_ble_eq_true rfl) ?_
                  exact x_zM (w1 := fun _ : Unit => ([] : va_W)) E () hw (Or.inl rfl) he0 dL_row_285
                · rw [if_pos hc] at hf
                  refine W.widen (k := 102) (n := 4376) (Nat.le_of_ble_eq_true rfl) (Nat.le_of_ble_eq_true rfl) ?_
                  exact k_L_row_168 E hfl hXZ h0 n t b0 b1 hh ha r z15.2 hf ad16 _ _ hw _ (lv_sub hl [0] rfl)
set_option maxRecDepth 100000 in
set_option maxHeartbeats 4000000 in
theorem mt_L_row (l : Launch) (hfl : l.stackTraces = false) (D : va_G) (I J O : ClassId) (sz : Nat)   (r : Int32) (hf : f_L_row = some r) : mZ l yL_row cL_row 1 (some .boolean) 12 272 218 5072 D I J O sz [] ([] : va_W) (qMi D sz ([] : va_W) r (fun _ : Unit => ([] : va_W))) := by
  refine mZ_open (own := RL) rfl (by decide +kernel) (Nat.le_of_ble_eq_true rfl) (fun p e s m below meth c ls E hXZ hsz hw hl => ?_)
  have hx := E.1
  have hb := E.2.1
  have hl : lv_has ls 1 [] := hl
  unfold f_L_row at hf
  have hl := lv_sub hl [] rfl
  have hw : fy D (va_A ([] : va_W) sz) s.heap s.heap [] ([] : va_W) := hw
  obtain ⟨z1, h, hf⟩ := bd_s hf
  refine x_new (ci := 5) (fs := [.null, .null, .null, .null]) E hw rfl in5 tyX5_ok q15 q16 q1 (fun j hj => by rcases (show j = 0 ∨ j = 1 ∨ j = 2 ∨ j = 3 by omega) with rfl | rfl | rfl | rfl <;> rfl) (Nat.le_of_ble_eq_true rfl) (Nat.le_of_ble_eq_true rfl) dL_row_0 (fun h0 H hw => ?_)
  refine lv_dup hx hb dL_row_3 rfl ?_
  refine x_ctor (w1 := fun (u9 : (Nat → Nat) × (Nat → Nat) × Nat × Nat × Nat × Nat × (Nat → Nat → Nat)) => wCl I h0 u9.1 u9.2.1 u9.2.2.1 u9.2.2.2.1 u9.2.2.2.2.1 z1 ++ wHi I O u9.2.2.2.2.1 u9.2.2.2.2.2.1 u9.2.2.2.2.2.2 (z1).2.2.1) E hw (fun hpc => x_rI E (As := []) (rest := [.ref h0]) (mt_X5_init l D I J O h0 H.size z1 h) blM hpc ok_X5_init q17 rfl hl.1 rfl (Nat.le_of_ble_eq_true rfl) ⟨Nat.le_of_ble_eq_true rfl, Nat.le_of_ble_eq_true rfl⟩ ⟨Nat.le_of_ble_eq_true rfl, Nat.le_of_ble_eq_true rfl⟩ dL_row_4) (fun u1 H locs hw => ?_)
  obtain ⟨n, t, b0, b1, hh, ha, ad⟩ := u1
  have hw : fy D (va_A ([] : va_W) sz) s.heap H locs (wCl I h0 n t b0 b1 hh z1 ++ wHi I O hh ha ad z1.2.2.1) := hw
  refine lv_astore_n (lv' := [(0, .ref h0)]) hx hb dL_row_7 rfl hl (by decide) rfl (fun ls hl => ?_)
  refine lv_aload_n hx hb dL_row_8 rfl (lv_at hl 0 rfl) ?_
  refine lv_bipush (v := 9) hx hb dL_row_9 (by decide) ?_
  refine lv_iconst (v := 0) hx hb dL_row_11 (by decide) ?_
  refine lv_iconst (v := 0) hx hb dL_row_12 (by decide) ?_
  refine lv_iconst (v := 0) hx hb dL_row_13 (by decide) ?_
  obtain ⟨z2, h, hf⟩ := bd_s hf
  refine x_miFP0 hw (x_rW E (As := [.ref h0, .int 9, .int 0, .int 0, .int 0]) (rest := []) (mt_L_call l hfl D I J O h0 n t b0 b1 hh ha ad H.size 9 0 0 0 z1 z2.1 z2.2 h) blW (x_pcVF0 E hXZ hw) ok_L_call q445 rfl hl.1 rfl (Nat.le_of_ble_eq_true rfl) ⟨Nat.le_of_ble_eq_true rfl, Nat.le_of_ble_eq_true rfl⟩ ⟨Nat.le_of_ble_eq_true rfl, Nat.le_of_ble_eq_true rfl⟩ dL_row_14) (fun _ => rfl) (fun ad3 H locs hw => ?_)
  have hw : fy D (va_A ([] : va_W) sz) s.heap H locs (wCl I h0 n t b0 b1 hh z2.2 ++ wHi I O hh ha ad3 z2.2.2.2.1) := hw
  refine lv_bipush (v := (-13)) hx hb dL_row_17 (by decide) ?_
  refine lv_icmp_ne (tgt := 284) hx hb dL_row_19 (by decide) (fun hc => ?_) (fun hc => ?_)
  · rw [if_neg hc] at hf
    refine lv_iconst (v := 0) hx hb dL_row_284 (by decide) ?_
    have he0 := Option.some.inj hf
    have hw : fy D (va_A ([] : va_W) sz) s.heap H locs ([] : va_W) := fy.sub hw [] rfl rfl
    refine W.widen (k := 218) (n := 5072) (Nat.le_of_ble_eq_true rfl) (Nat.le_of_ble_eq_true rfl) ?_
    exact x_zM (w1 := fun _ : Unit => ([] : va_W)) E () hw (Or.inl rfl) he0 dL_row_285
  · rw [if_pos hc] at hf
    refine lv_aload_n hx hb dL_row_22 rfl (lv_at hl 0 rfl) ?_
    refine lv_iconst (v := 0) hx hb dL_row_23 (by decide) ?_
    obtain ⟨z4, h, hf⟩ := rt_s hf
    refine x_ci (x_rV E (As := [.int 0]) (rest := []) (mt_X5_at l D I J O h0 n t b0 b1 hh ha ad3 0 z2.2 z4 h) blR (x_recv E hw.1 0 5 rfl rfl rfl) (x_pcR E hw.1) ok_X5_at q371 rfl hl.1 rfl (Nat.le_of_ble_eq_true rfl) ⟨Nat.le_of_ble_eq_true rfl, Nat.le_of_ble_eq_true rfl⟩ ⟨Nat.le_of_ble_eq_true rfl, Nat.le_of_ble_eq_true rfl⟩ dL_row_24) ?_
    refine lv_iconst (v := (-1)) hx hb dL_row_27 (by decide) ?_
    refine lv_icmp_ne (tgt := 284) hx hb dL_row_28 (by decide) (fun hc => ?_) (fun hc => ?_)
    · rw [if_neg hc] at hf
      refine lv_iconst (v := 0) hx hb dL_row_284 (by decide) ?_
      have he0 := Option.some.inj hf
      have hw : fy D (va_A ([] : va_W) sz) s.heap H locs ([] : va_W) := fy.sub hw [] rfl rfl
      refine W.widen (k := 218) (n := 5072) (Nat.le_of_ble_eq_true rfl) (Nat.le_of_ble_eq_true rfl) ?_
      exact x_zM (w1 := fun _ : Unit => ([] : va_W)) E () hw (Or.inl rfl) he0 dL_row_285
    · rw [if_pos hc] at hf
      refine lv_aload_n hx hb dL_row_31 rfl (lv_at hl 0 rfl) ?_
      refine lv_iconst (v := 0) hx hb dL_row_32 (by decide) ?_
      obtain ⟨z5, h, hf⟩ := rt_s hf
      refine x_ci (x_rV E (As := [.int 0]) (rest := []) (mt_X5_gap l D I J O h0 n t b0 b1 hh ha ad3 0 z2.2 z5 h) blR (x_recv E hw.1 0 5 rfl rfl rfl) (x_pcR E hw.1) ok_X5_gap q658 rfl hl.1 rfl (Nat.le_of_ble_eq_true rfl) ⟨Nat.le_of_ble_eq_true rfl, Nat.le_of_ble_eq_true rfl⟩ ⟨Nat.le_of_ble_eq_true rfl, Nat.le_of_ble_eq_true rfl⟩ dL_row_33) ?_
      refine lv_bipush (v := 16) hx hb dL_row_36 (by decide) ?_
      refine lv_icmp_ne (tgt := 284) hx hb dL_row_38 (by decide) (fun hc => ?_) (fun hc => ?_)
      · rw [if_neg hc] at hf
        refine lv_iconst (v := 0) hx hb dL_row_284 (by decide) ?_
        have he0 := Option.some.inj hf
        have hw : fy D (va_A ([] : va_W) sz) s.heap H locs ([] : va_W) := fy.sub hw [] rfl rfl
        refine W.widen (k := 218) (n := 5072) (Nat.le_of_ble_eq_true rfl) (Nat.le_of_ble_eq_true rfl) ?_
        exact x_zM (w1 := fun _ : Unit => ([] : va_W)) E () hw (Or.inl rfl) he0 dL_row_285
      · rw [if_pos hc] at hf
        refine lv_aload_n hx hb dL_row_41 rfl (lv_at hl 0 rfl) ?_
        refine lv_iconst (v := 1) hx hb dL_row_42 (by decide) ?_
        obtain ⟨z6, h, hf⟩ := rt_s hf
        refine x_ci (x_rV E (As := [.int 1]) (rest := []) (mt_X5_gap l D I J O h0 n t b0 b1 hh ha ad3 1 z2.2 z6 h) blR (x_recv E hw.1 0 5 rfl rfl rfl) (x_pcR E hw.1) ok_X5_gap q658 rfl hl.1 rfl (Nat.le_of_ble_eq_true rfl) ⟨Nat.le_of_ble_eq_true rfl, Nat.le_of_ble_eq_true rfl⟩ ⟨Nat.le_of_ble_eq_true rfl, Nat.le_of_ble_eq_true rfl⟩ dL_row_43) ?_
        refine lv_if_ne (tgt := 284) hx hb dL_row_46 (by decide) (fun hc => ?_) (fun hc => ?_)
        · rw [if_neg hc] at hf
          refine lv_iconst (v := 0) hx hb dL_row_284 (by decide) ?_
          have he0 := Option.some.inj hf
          have hw : fy D (va_A ([] : va_W) sz) s.heap H locs ([] : va_W) := fy.sub hw [] rfl rfl
          refine W.widen (k := 218) (n := 5072) (Nat.le_of_ble_eq_true rfl) (Nat.le_of_ble_eq_true rfl) ?_
          exact x_zM (w1 := fun _ : Unit => ([] : va_W)) E () hw (Or.inl rfl) he0 dL_row_285
        · rw [if_pos hc] at hf
          refine lv_aload_n hx hb dL_row_49 rfl (lv_at hl 0 rfl) ?_
          refine lv_iconst (v := 2) hx hb dL_row_50 (by decide) ?_
          obtain ⟨z7, h, hf⟩ := rt_s hf
          refine x_miFP0 hw (x_rV E (As := [.int 2]) (rest := []) (mt_X5_goOn l D I J O h0 n t b0 b1 hh ha ad3 H.size 2 z2.2 z7.1 z7.2 h) blM (x_recv E hw.1 0 5 rfl rfl rfl) (x_pcMPF0 E hw) ok_X5_goOn q538 rfl hl.1 rfl (Nat.le_of_ble_eq_true rfl) ⟨Nat.le_of_ble_eq_true rfl, Nat.le_of_ble_eq_true rfl⟩ ⟨Nat.le_of_ble_eq_true rfl, Nat.le_of_ble_eq_true rfl⟩ dL_row_51) (fun _ => rfl) (fun ad8 H locs hw => ?_)
          have hw : fy D (va_A ([] : va_W) sz) s.heap H locs (wCl I h0 n t b0 b1 hh z7.2 ++ wHi I O hh ha ad8 z7.2.2.2.1) := hw
          refine lv_iconst (v := (-1)) hx hb dL_row_54 (by decide) ?_
          refine lv_icmp_ne (tgt := 284) hx hb dL_row_55 (by decide) (fun hc => ?_) (fun hc => ?_)
          · rw [if_neg hc] at hf
            refine lv_iconst (v := 0) hx hb dL_row_284 (by decide) ?_
            have he0 := Option.some.inj hf
            have hw : fy D (va_A ([] : va_W) sz) s.heap H locs ([] : va_W) := fy.sub hw [] rfl rfl
            refine W.widen (k := 218) (n := 5072) (Nat.le_of_ble_eq_true rfl) (Nat.le_of_ble_eq_true rfl) ?_
            exact x_zM (w1 := fun _ : Unit => ([] : va_W)) E () hw (Or.inl rfl) he0 dL_row_285
          · rw [if_pos hc] at hf
            refine lv_aload_n hx hb dL_row_58 rfl (lv_at hl 0 rfl) ?_
            refine lv_iconst (v := 2) hx hb dL_row_59 (by decide) ?_
            refine lv_iconst (v := 0) hx hb dL_row_60 (by decide) ?_
            obtain ⟨z9, h, hf⟩ := rt_s hf
            refine x_ci (x_rV E (As := [.int 2, .int 0]) (rest := []) (mt_X5_walker l D I J O h0 n t b0 b1 hh ha ad8 2 0 z7.2 z9 h) blR (x_recv E hw.1 0 5 rfl rfl rfl) (x_pcR E hw.1) ok_X5_walker q644 rfl hl.1 rfl (Nat.le_of_ble_eq_true rfl) ⟨Nat.le_of_ble_eq_true rfl, Nat.le_of_ble_eq_true rfl⟩ ⟨Nat.le_of_ble_eq_true rfl, Nat.le_of_ble_eq_true rfl⟩ dL_row_61) ?_
            refine lv_iconst (v := 3) hx hb dL_row_64 (by decide) ?_
            refine lv_icmp_ne (tgt := 284) hx hb dL_row_65 (by decide) (fun hc => ?_) (fun hc => ?_)
            · rw [if_neg hc] at hf
              refine lv_iconst (v := 0) hx hb dL_row_284 (by decide) ?_
              have he0 := Option.some.inj hf
              have hw : fy D (va_A ([] : va_W) sz) s.heap H locs ([] : va_W) := fy.sub hw [] rfl rfl
              refine W.widen (k := 218) (n := 5072) (Nat.le_of_ble_eq_true rfl) (Nat.le_of_ble_eq_true rfl) ?_
              exact x_zM (w1 := fun _ : Unit => ([] : va_W)) E () hw (Or.inl rfl) he0 dL_row_285
            · rw [if_pos hc] at hf
              refine lv_aload_n hx hb dL_row_68 rfl (lv_at hl 0 rfl) ?_
              refine lv_iconst (v := 2) hx hb dL_row_69 (by decide) ?_
              refine lv_iconst (v := 2) hx hb dL_row_70 (by decide) ?_
              obtain ⟨z10, h, hf⟩ := rt_s hf
              refine x_ci (x_rV E (As := [.int 2, .int 2]) (rest := []) (mt_X5_walker l D I J O h0 n t b0 b1 hh ha ad8 2 2 z7.2 z10 h) blR (x_recv E hw.1 0 5 rfl rfl rfl) (x_pcR E hw.1) ok_X5_walker q644 rfl hl.1 rfl (Nat.le_of_ble_eq_true rfl) ⟨Nat.le_of_ble_eq_true rfl, Nat.le_of_ble_eq_true rfl⟩ ⟨Nat.le_of_ble_eq_true rfl, Nat.le_of_ble_eq_true rfl⟩ dL_row_71) ?_
              refine lv_if_ne (tgt := 284) hx hb dL_row_74 (by decide) (fun hc => ?_) (fun hc => ?_)
              · rw [if_neg hc] at hf
                refine lv_iconst (v := 0) hx hb dL_row_284 (by decide) ?_
                have he0 := Option.some.inj hf
                have hw : fy D (va_A ([] : va_W) sz) s.heap H locs ([] : va_W) := fy.sub hw [] rfl rfl
                refine W.widen (k := 218) (n := 5072) (Nat.le_of_ble_eq_true rfl) (Nat.le_of_ble_eq_true rfl) ?_
                exact x_zM (w1 := fun _ : Unit => ([] : va_W)) E () hw (Or.inl rfl) he0 dL_row_285
              · rw [if_pos hc] at hf
                refine W.widen (k := 102) (n := 4376) (Nat.le_of_ble_eq_true rfl) (Nat.le_of_ble_eq_true rfl) ?_
                exact k_L_row_77 E hfl hXZ h0 n t b0 b1 hh ha r z7.2 hf ad8 _ _ hw _ (lv_sub hl [0] rfl)
