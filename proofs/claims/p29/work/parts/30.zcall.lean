theorem ok_L_call : yW yL_call cL_call 6 (some .int) [(0, 269, 270, 74), (0, 269, 275, 76), (0, 269, 280, 78)] 5 := ⟨q447, q0, q446, by decide +kernel, by decide +kernel, by decide +kernel⟩
set_option maxRecDepth 100000 in
set_option maxHeartbeats 4000000 in
theorem mt_L_call (l : Launch) (hfl : l.stackTraces = false) (D : va_G) (I J O : ClassId) (h0 : Nat) (n t : Nat → Nat) (b0 b1 hh ha : Nat) (ad : Nat → Nat → Nat) (sz : Nat) (p1 : Int32) (p2 : Int32) (p3 : Int32) (p4 : Int32) (x : ClC) (r : Int32) (y0 : ClC) (hf : f_L_call p1 p2 p3 p4 x = some (r, y0)) : mW l yL_call cL_call 6 (some .int) [(0, 269, 270, 74), (0, 269, 275, 76), (0, 269, 280, 78)] 8 179 D I J O sz [.ref h0, .int p1, .int p2, .int p3, .int p4] (wCl I h0 n t b0 b1 hh x ++ wHi I O hh ha ad x.2.2.1) (qMi D sz (wCl I h0 n t b0 b1 hh x ++ wHi I O hh ha ad x.2.2.1) r (fun ad9 : Nat → Nat → Nat => wCl I h0 n t b0 b1 hh y0 ++ wHi I O hh ha ad9 y0.2.2.1)) := by
  refine mW_open (own := RL) rfl (by decide +kernel) (Nat.le_of_ble_eq_true rfl) (fun p e s m below meth c ls E htab hX hsz hw hl => ?_)
  obtain ⟨ws0, hws⟩ : ∃ ws0 : va_W, ws0 = wCl I h0 n t b0 b1 hh x ++ wHi I O hh ha ad x.2.2.1 := ⟨_, rfl⟩
  have hw : fy D (va_A ws0 sz) s.heap s.heap [] (wCl I h0 n t b0 b1 hh x ++ wHi I O hh ha ad x.2.2.1) := by rw [hws]; exact hw
  rw [← hws]
  have hx := E.1
  have hb := E.2.1
  have hl : lv_has ls 6 [(0, .ref h0), (1, .int p1), (2, .int p2), (3, .int p3), (4, .int p4)] := hl
  unfold f_L_call at hf
  refine lv_iload_n hx hb dL_call_0 rfl (lv_at hl 1 rfl) ?_
  refine lv_if_ne (tgt := 15) hx hb dL_call_1 (by decide) (fun hc => ?_) (fun hc => ?_)
  · rw [if_neg hc] at hf
    refine lv_iload_n hx hb dL_call_15 rfl (lv_at hl 1 rfl) ?_
    refine lv_iconst (v := 1) hx hb dL_call_16 (by decide) ?_
    refine lv_icmp_ne (tgt := 32) hx hb dL_call_17 (by decide) (fun hc => ?_) (fun hc => ?_)
    · rw [if_neg hc] at hf
      refine lv_iload_n hx hb dL_call_32 rfl (lv_at hl 1 rfl) ?_
      refine lv_iconst (v := 2) hx hb dL_call_33 (by decide) ?_
      refine lv_icmp_ne (tgt := 45) hx hb dL_call_34 (by decide) (fun hc => ?_) (fun hc => ?_)
      · rw [if_neg hc] at hf
        refine lv_iload_n hx hb dL_call_45 rfl (lv_at hl 1 rfl) ?_
        refine lv_iconst (v := 3) hx hb dL_call_46 (by decide) ?_
        refine lv_icmp_ne (tgt := 59) hx hb dL_call_47 (by decide) (fun hc => ?_) (fun hc => ?_)
        · rw [if_neg hc] at hf
          refine lv_iload_n hx hb dL_call_59 rfl (lv_at hl 1 rfl) ?_
          refine lv_iconst (v := 4) hx hb dL_call_60 (by decide) ?_
          refine lv_icmp_ne (tgt := 72) hx hb dL_call_61 (by decide) (fun hc => ?_) (fun hc => ?_)
          · rw [if_neg hc] at hf
            refine lv_iload_n hx hb dL_call_72 rfl (lv_at hl 1 rfl) ?_
            refine lv_iconst (v := 5) hx hb dL_call_73 (by decide) ?_
            refine lv_icmp_ne (tgt := 85) hx hb dL_call_74 (by decide) (fun hc => ?_) (fun hc => ?_)
            · rw [if_neg hc] at hf
              refine lv_iload_n hx hb dL_call_85 rfl (lv_at hl 1 rfl) ?_
              refine lv_bipush (v := 6) hx hb dL_call_86 (by decide) ?_
              refine lv_icmp_ne (tgt := 99) hx hb dL_call_88 (by decide) (fun hc => ?_) (fun hc => ?_)
              · rw [if_neg hc] at hf
                refine lv_iload_n hx hb dL_call_99 rfl (lv_at hl 1 rfl) ?_
                refine lv_bipush (v := 7) hx hb dL_call_100 (by decide) ?_
                refine lv_icmp_ne (tgt := 113) hx hb dL_call_102 (by decide) (fun hc => ?_) (fun hc => ?_)
                · rw [if_neg hc] at hf
                  refine lv_iload_n hx hb dL_call_113 rfl (lv_at hl 1 rfl) ?_
                  refine lv_bipush (v := 8) hx hb dL_call_114 (by decide) ?_
                  refine lv_icmp_ne (tgt := 126) hx hb dL_call_116 (by decide) (fun hc => ?_) (fun hc => ?_)
                  · rw [if_neg hc] at hf
                    refine lv_iload_n hx hb dL_call_126 rfl (lv_at hl 1 rfl) ?_
                    refine lv_bipush (v := 9) hx hb dL_call_127 (by decide) ?_
                    refine lv_icmp_ne (tgt := 139) hx hb dL_call_129 (by decide) (fun hc => ?_) (fun hc => ?_)
                    · rw [if_neg hc] at hf
                      refine lv_iload_n hx hb dL_call_139 rfl (lv_at hl 1 rfl) ?_
                      refine lv_bipush (v := 10) hx hb dL_call_140 (by decide) ?_
                      refine lv_icmp_ne (tgt := 154) hx hb dL_call_142 (by decide) (fun hc => ?_) (fun hc => ?_)
                      · rw [if_neg hc] at hf
                        refine lv_iload_n hx hb dL_call_154 rfl (lv_at hl 1 rfl) ?_
                        refine lv_bipush (v := 11) hx hb dL_call_155 (by decide) ?_
                        refine lv_icmp_ne (tgt := 168) hx hb dL_call_157 (by decide) (fun hc => ?_) (fun hc => ?_)
                        · rw [if_neg hc] at hf
                          refine lv_iload_n hx hb dL_call_168 rfl (lv_at hl 1 rfl) ?_
                          refine lv_bipush (v := 12) hx hb dL_call_169 (by decide) ?_
                          refine lv_icmp_ne (tgt := 183) hx hb dL_call_171 (by decide) (fun hc => ?_) (fun hc => ?_)
                          · rw [if_neg hc] at hf
                            refine lv_iload_n hx hb dL_call_183 rfl (lv_at hl 1 rfl) ?_
                            refine lv_bipush (v := 13) hx hb dL_call_184 (by decide) ?_
                            refine lv_icmp_ne (tgt := 198) hx hb dL_call_186 (by decide) (fun hc => ?_) (fun hc => ?_)
                            · rw [if_neg hc] at hf
                              refine lv_iload_n hx hb dL_call_198 rfl (lv_at hl 1 rfl) ?_
                              refine lv_bipush (v := 14) hx hb dL_call_199 (by decide) ?_
                              refine lv_icmp_ne (tgt := 212) hx hb dL_call_201 (by decide) (fun hc => ?_) (fun hc => ?_)
                              · rw [if_neg hc] at hf
                                refine lv_iload_n hx hb dL_call_212 rfl (lv_at hl 1 rfl) ?_
                                refine lv_bipush (v := 15) hx hb dL_call_213 (by decide) ?_
                                refine lv_icmp_ne (tgt := 226) hx hb dL_call_215 (by decide) (fun hc => ?_) (fun hc => ?_)
                                · rw [if_neg hc] at hf
                                  refine lv_iload_n hx hb dL_call_226 rfl (lv_at hl 1 rfl) ?_
                                  refine lv_bipush (v := 16) hx hb dL_call_227 (by decide) ?_
                                  refine lv_icmp_ne (tgt := 240) hx hb dL_call_229 (by decide) (fun hc => ?_) (fun hc => ?_)
                                  · rw [if_neg hc] at hf
                                    refine lv_iload_n hx hb dL_call_240 rfl (lv_at hl 1 rfl) ?_
                                    refine lv_bipush (v := 17) hx hb dL_call_241 (by decide) ?_
                                    refine lv_icmp_ne (tgt := 255) hx hb dL_call_243 (by decide) (fun hc => ?_) (fun hc => ?_)
                                    · rw [if_neg hc] at hf
                                      refine lv_aload_n hx hb dL_call_255 rfl (lv_at hl 0 rfl) ?_
                                      refine lv_iload_n hx hb dL_call_256 rfl (lv_at hl 2 rfl) ?_
                                      refine lv_iload_n hx hb dL_call_257 rfl (lv_at hl 3 rfl) ?_
                                      refine lv_if_le (tgt := 265) hx hb dL_call_258 (by decide) (fun hc => ?_) (fun hc => ?_)
                                      · rw [if_pos hc] at hf
                                        refine lv_iconst (v := 0) hx hb dL_call_265 (by decide) ?_
                                        rcases ct_s hf with ⟨z1, h, hf⟩ | ⟨ex, h, hf⟩
                                        · refine x_ci (x_rV E (As := [.int p2, .int 0]) (rest := []) (mt_X5_room l D I J O h0 n t b0 b1 hh ha ad p2 0 x z1 h) blR (x_recv E hw.1 0 5 rfl rfl rfl) (x_pcR E hw.1) ok_X5_room q681 rfl hl.1 rfl (Nat.le_of_ble_eq_true rfl) ⟨Nat.le_of_ble_eq_true rfl, Nat.le_of_ble_eq_true rfl⟩ ⟨Nat.le_of_ble_eq_true rfl, Nat.le_of_ble_eq_true rfl⟩ dL_call_266) ?_
                                          obtain ⟨he0, hr⟩ := Prod.mk.inj (Option.some.inj hf)
                                          have he1 := hr
                                          subst he1
                                          refine W.widen (k := 1) (n := 6) (by decide) (by decide) ?_
                                          exact x_iM E ad hw he0 dL_call_269
                                        · by_cases hq : ex = 3
                                          · rw [if_pos hq] at hf
                                            subst hq
                                            refine x_cX (en := "java/lang/IndexOutOfBoundsException") (free := fun q => s.heap.size ≤ q) hw (fun q hq => hw.2.2.2 q hq) (x_rX E (As := [.int p2, .int 0]) (rest := []) (mx_X5_room l hfl D I J O h0 n t b0 b1 hh ha ad s.heap.size p2 0 x 3 h) blX (x_recv E hw.1 0 5 rfl rfl rfl) (x_pcX E hX rfl (va_P.part hw.1 [0, 1, 2, 3, 4, 5, 6, 7, 8, 9, 10, 11, 12, 13, 14, 15, 16, 17, 18, 19, 20, 21, 22, 23, 24, 25, 26] rfl)) ok_X5_room q681 rfl hl.1 rfl (Nat.le_of_ble_eq_true rfl) ⟨Nat.le_of_ble_eq_true rfl, Nat.le_of_ble_eq_true rfl⟩ ⟨Nat.le_of_ble_eq_true rfl, Nat.le_of_ble_eq_true rfl⟩ dL_call_266) (fun ce q9 H locs hw hce hcv hcl => ?_)
                                            refine vx_catch (own := RL) (name := "java/lang/IndexOutOfBoundsException") E.2.2.2.1 [] (⟨0, 269, 270, 74⟩ : ExceptionTableEntry) [(⟨0, 269, 275, 76⟩ : ExceptionTableEntry), (⟨0, 269, 280, 78⟩ : ExceptionTableEntry)] (htab.trans rfl) (fun z hz => nomatch hz) (by decide) (by decide) (E.2.2.2.2.1 _ q448) (va_Nw.use rfl hX.2.2.1.2.2) hce hcv hcl ?_
                                            refine lv_astore (lv' := [(5, .ref q9), (0, .ref h0), (1, .int p1), (2, .int p2), (3, .int p3), (4, .int p4)]) hx hb dL_call_270 hl (by decide) rfl (fun ls hl => ?_)
                                            refine lv_bipush (v := (-11)) hx hb dL_call_272 (by decide) ?_
                                            obtain ⟨he0, hr⟩ := Prod.mk.inj (Option.some.inj hf)
                                            have he1 := hr
                                            subst he1
                                            refine W.widen (k := 1) (n := 6) (by decide) (by decide) ?_
                                            exact x_iM E ad hw he0 dL_call_274
                                          · rw [if_neg hq] at hf
                                            by_cases hq : ex = 1
                                            · rw [if_pos hq] at hf
                                              subst hq
                                              refine x_cX (en := "java/lang/IllegalArgumentException") (free := fun q => s.heap.size ≤ q) hw (fun q hq => hw.2.2.2 q hq) (x_rX E (As := [.int p2, .int 0]) (rest := []) (mx_X5_room l hfl D I J O h0 n t b0 b1 hh ha ad s.heap.size p2 0 x 1 h) blX (x_recv E hw.1 0 5 rfl rfl rfl) (x_pcX E hX rfl (va_P.part hw.1 [0, 1, 2, 3, 4, 5, 6, 7, 8, 9, 10, 11, 12, 13, 14, 15, 16, 17, 18, 19, 20, 21, 22, 23, 24, 25, 26] rfl)) ok_X5_room q681 rfl hl.1 rfl (Nat.le_of_ble_eq_true rfl) ⟨Nat.le_of_ble_eq_true rfl, Nat.le_of_ble_eq_true rfl⟩ ⟨Nat.le_of_ble_eq_true rfl, Nat.le_of_ble_eq_true rfl⟩ dL_call_266) (fun ce q9 H locs hw hce hcv hcl => ?_)
                                              refine vx_catch (own := RL) (name := "java/lang/IllegalArgumentException") E.2.2.2.1 [(⟨0, 269, 270, 74⟩ : ExceptionTableEntry)] (⟨0, 269, 275, 76⟩ : ExceptionTableEntry) [(⟨0, 269, 280, 78⟩ : ExceptionTableEntry)] (htab.trans rfl) (fun z hz => by rcases List.mem_cons.mp hz with rfl | hz; exact Or.inr ⟨by decide, _, E.2.2.2.2.1 _ q448, hX.2.2.2.1.2.1⟩; cases hz) (by decide) (by decide) (E.2.2.2.2.1 _ q449) (va_Nw.use rfl hX.2.2.1.1) hce hcv hcl ?_
                                              refine lv_astore (lv' := [(5, .ref q9), (0, .ref h0), (1, .int p1), (2, .int p2), (3, .int p3), (4, .int p4)]) hx hb dL_call_275 hl (by decide) rfl (fun ls hl => ?_)
                                              refine lv_bipush (v := (-12)) hx hb dL_call_277 (by decide) ?_
                                              obtain ⟨he0, hr⟩ := Prod.mk.inj (Option.some.inj hf)
                                              have he1 := hr
                                              subst he1
                                              refine W.widen (k := 1) (n := 6) (by decide) (by decide) ?_
                                              exact x_iM E ad hw he0 dL_call_279
                                            · rw [if_neg hq] at hf
                                              by_cases hq : ex = 2
                                              · rw [if_pos hq] at hf
                                                subst hq
                                                refine x_cX (en := "java/lang/IllegalStateException") (free := fun q => s.heap.size ≤ q) hw (fun q hq => hw.2.2.2 q hq) (x_rX E (As := [.int p2, .int 0]) (rest := []) (mx_X5_room l hfl D I J O h0 n t b0 b1 hh ha ad s.heap.size p2 0 x 2 h) blX (x_recv E hw.1 0 5 rfl rfl rfl) (x_pcX E hX rfl (va_P.part hw.1 [0, 1, 2, 3, 4, 5, 6, 7, 8, 9, 10, 11, 12, 13, 14, 15, 16, 17, 18, 19, 20, 21, 22, 23, 24, 25, 26] rfl)) ok_X5_room q681 rfl hl.1 rfl (Nat.le_of_ble_eq_true rfl) ⟨Nat.le_of_ble_eq_true rfl, Nat.le_of_ble_eq_true rfl⟩ ⟨Nat.le_of_ble_eq_true rfl, Nat.le_of_ble_eq_true rfl⟩ dL_call_266) (fun ce q9 H locs hw hce hcv hcl => ?_)
                                                refine vx_catch (own := RL) (name := "java/lang/IllegalStateException") E.2.2.2.1 [(⟨0, 269, 270, 74⟩ : ExceptionTableEntry), (⟨0, 269, 275, 76⟩ : ExceptionTableEntry)] (⟨0, 269, 280, 78⟩ : ExceptionTableEntry) [] (htab.trans rfl) (fun z hz => by rcases List.mem_cons.mp hz with rfl | hz; exact Or.inr ⟨by decide, _, E.2.2.2.2.1 _ q448, hX.2.2.2.1.2.2⟩; rcases List.mem_cons.mp hz with rfl | hz; exact Or.inr ⟨by decide, _, E.2.2.2.2.1 _ q449, hX.2.2.2.1.1⟩; cases hz) (by decide) (by decide) (E.2.2.2.2.1 _ q450) (va_Nw.use rfl hX.2.2.1.2.1) hce hcv hcl ?_
                                                refine lv_astore (lv' := [(5, .ref q9), (0, .ref h0), (1, .int p1), (2, .int p2), (3, .int p3), (4, .int p4)]) hx hb dL_call_280 hl (by decide) rfl (fun ls hl => ?_)
                                                refine lv_bipush (v := (-13)) hx hb dL_call_282 (by decide) ?_
                                                obtain ⟨he0, hr⟩ := Prod.mk.inj (Option.some.inj hf)
                                                have he1 := hr
                                                subst he1
                                                refine W.widen (k := 1) (n := 6) (by decide) (by decide) ?_
                                                exact x_iM E ad hw he0 dL_call_284
                                              · rw [if_neg hq] at hf
                                                cases hf
                                      · rw [if_neg hc] at hf
                                        refine lv_iconst (v := 1) hx hb dL_call_261 (by decide) ?_
                                        refine lv_goto (tgt := 266) hx hb dL_call_262 (by decide) ?_
                                        rcases ct_s hf with ⟨z2, h, hf⟩ | ⟨ex, h, hf⟩
                                        · refine x_ci (x_rV E (As := [.int p2, .int 1]) (rest := []) (mt_X5_room l D I J O h0 n t b0 b1 hh ha ad p2 1 x z2 h) blR (x_recv E hw.1 0 5 rfl rfl rfl) (x_pcR E hw.1) ok_X5_room q681 rfl hl.1 rfl (Nat.le_of_ble_eq_true rfl) ⟨Nat.le_of_ble_eq_true rfl, Nat.le_of_ble_eq_true rfl⟩ ⟨Nat.le_of_ble_eq_true rfl, Nat.le_of_ble_eq_true rfl⟩ dL_call_266) ?_
                                          obtain ⟨he0, hr⟩ := Prod.mk.inj (Option.some.inj hf)
                                          have he1 := hr
                                          subst he1
                                          refine W.widen (k := 1) (n := 6) (by decide) (by decide) ?_
                                          exact x_iM E ad hw he0 dL_call_269
                                        · by_cases hq : ex = 3
                                          · rw [if_pos hq] at hf
                                            subst hq
                                            refine x_cX (en := "java/lang/IndexOutOfBoundsException") (free := fun q => s.heap.size ≤ q) hw (fun q hq => hw.2.2.2 q hq) (x_rX E (As := [.int p2, .int 1]) (rest := []) (mx_X5_room l hfl D I J O h0 n t b0 b1 hh ha ad s.heap.size p2 1 x 3 h) blX (x_recv E hw.1 0 5 rfl rfl rfl) (x_pcX E hX rfl (va_P.part hw.1 [0, 1, 2, 3, 4, 5, 6, 7, 8, 9, 10, 11, 12, 13, 14, 15, 16, 17, 18, 19, 20, 21, 22, 23, 24, 25, 26] rfl)) ok_X5_room q681 rfl hl.1 rfl (Nat.le_of_ble_eq_true rfl) ⟨Nat.le_of_ble_eq_true rfl, Nat.le_of_ble_eq_true rfl⟩ ⟨Nat.le_of_ble_eq_true rfl, Nat.le_of_ble_eq_true rfl⟩ dL_call_266) (fun ce q9 H locs hw hce hcv hcl => ?_)
                                            refine vx_catch (own := RL) (name := "java/lang/IndexOutOfBoundsException") E.2.2.2.1 [] (⟨0, 269, 270, 74⟩ : ExceptionTableEntry) [(⟨0, 269, 275, 76⟩ : ExceptionTableEntry), (⟨0, 269, 280, 78⟩ : ExceptionTableEntry)] (htab.trans rfl) (fun z hz => nomatch hz) (by decide) (by decide) (E.2.2.2.2.1 _ q448) (va_Nw.use rfl hX.2.2.1.2.2) hce hcv hcl ?_
                                            refine lv_astore (lv' := [(5, .ref q9), (0, .ref h0), (1, .int p1), (2, .int p2), (3, .int p3), (4, .int p4)]) hx hb dL_call_270 hl (by decide) rfl (fun ls hl => ?_)
                                            refine lv_bipush (v := (-11)) hx hb dL_call_272 (by decide) ?_
                                            obtain ⟨he0, hr⟩ := Prod.mk.inj (Option.some.inj hf)
                                            have he1 := hr
                                            subst he1
                                            refine W.widen (k := 1) (n := 6) (by decide) (by decide) ?_
                                            exact x_iM E ad hw he0 dL_call_274
                                          · rw [if_neg hq] at hf
                                            by_cases hq : ex = 1
                                            · rw [if_pos hq] at hf
                                              subst hq
                                              refine x_cX (en := "java/lang/IllegalArgumentException") (free := fun q => s.heap.size ≤ q) hw (fun q hq => hw.2.2.2 q hq) (x_rX E (As := [.int p2, .int 1]) (rest := []) (mx_X5_room l hfl D I J O h0 n t b0 b1 hh ha ad s.heap.size p2 1 x 1 h) blX (x_recv E hw.1 0 5 rfl rfl rfl) (x_pcX E hX rfl (va_P.part hw.1 [0, 1, 2, 3, 4, 5, 6, 7, 8, 9, 10, 11, 12, 13, 14, 15, 16, 17, 18, 19, 20, 21, 22, 23, 24, 25, 26] rfl)) ok_X5_room q681 rfl hl.1 rfl (Nat.le_of_ble_eq_true rfl) ⟨Nat.le_of_ble_eq_true rfl, Nat.le_of_ble_eq_true rfl⟩ ⟨Nat.le_of_ble_eq_true rfl, Nat.le_of_ble_eq_true rfl⟩ dL_call_266) (fun ce q9 H locs hw hce hcv hcl => ?_)
                                              refine vx_catch (own := RL) (name := "java/lang/IllegalArgumentException") E.2.2.2.1 [(⟨0, 269, 270, 74⟩ : ExceptionTableEntry)] (⟨0, 269, 275, 76⟩ : ExceptionTableEntry) [(⟨0, 269, 280, 78⟩ : ExceptionTableEntry)] (htab.trans rfl) (fun z hz => by rcases List.mem_cons.mp hz with rfl | hz; exact Or.inr ⟨by decide, _, E.2.2.2.2.1 _ q448, hX.2.2.2.1.2.1⟩; cases hz) (by decide) (by decide) (E.2.2.2.2.1 _ q449) (va_Nw.use rfl hX.2.2.1.1) hce hcv hcl ?_
                                              refine lv_astore (lv' := [(5, .ref q9), (0, .ref h0), (1, .int p1), (2, .int p2), (3, .int p3), (4, .int p4)]) hx hb dL_call_275 hl (by decide) rfl (fun ls hl => ?_)
                                              refine lv_bipush (v := (-12)) hx hb dL_call_277 (by decide) ?_
                                              obtain ⟨he0, hr⟩ := Prod.mk.inj (Option.some.inj hf)
                                              have he1 := hr
                                              subst he1
                                              refine W.widen (k := 1) (n := 6) (by decide) (by decide) ?_
                                              exact x_iM E ad hw he0 dL_call_279
                                            · rw [if_neg hq] at hf
                                              by_cases hq : ex = 2
                                              · rw [if_pos hq] at hf
                                                subst hq
                                                refine x_cX (en := "java/lang/IllegalStateException") (free := fun q => s.heap.size ≤ q) hw (fun q hq => hw.2.2.2 q hq) (x_rX E (As := [.int p2, .int 1]) (rest := []) (mx_X5_room l hfl D I J O h0 n t b0 b1 hh ha ad s.heap.size p2 1 x 2 h) blX (x_recv E hw.1 0 5 rfl rfl rfl) (x_pcX E hX rfl (va_P.part hw.1 [0, 1, 2, 3, 4, 5, 6, 7, 8, 9, 10, 11, 12, 13, 14, 15, 16, 17, 18, 19, 20, 21, 22, 23, 24, 25, 26] rfl)) ok_X5_room q681 rfl hl.1 rfl (Nat.le_of_ble_eq_true rfl) ⟨Nat.le_of_ble_eq_true rfl, Nat.le_of_ble_eq_true rfl⟩ ⟨Nat.le_of_ble_eq_true rfl, Nat.le_of_ble_eq_true rfl⟩ dL_call_266) (fun ce q9 H locs hw hce hcv hcl => ?_)
                                                refine vx_catch (own := RL) (name := "java/lang/IllegalStateException") E.2.2.2.1 [(⟨0, 269, 270, 74⟩ : ExceptionTableEntry), (⟨0, 269, 275, 76⟩ : ExceptionTableEntry)] (⟨0, 269, 280, 78⟩ : ExceptionTableEntry) [] (htab.trans rfl) (fun z hz => by rcases List.mem_cons.mp hz with rfl | hz; exact Or.inr ⟨by decide, _, E.2.2.2.2.1 _ q448, hX.2.2.2.1.2.2⟩; rcases List.mem_cons.mp hz with rfl | hz; exact Or.inr ⟨by decide, _, E.2.2.2.2.1 _ q449, hX.2.2.2.1.1⟩; cases hz) (by decide) (by decide) (E.2.2.2.2.1 _ q450) (va_Nw.use rfl hX.2.2.1.2.1) hce hcv hcl ?_
                                                refine lv_astore (lv' := [(5, .ref q9), (0, .ref h0), (1, .int p1), (2, .int p2), (3, .int p3), (4, .int p4)]) hx hb dL_call_280 hl (by decide) rfl (fun ls hl => ?_)
                                                refine lv_bipush (v := (-13)) hx hb dL_call_282 (by decide) ?_
                                                obtain ⟨he0, hr⟩ := Prod.mk.inj (Option.some.inj hf)
                                                have he1 := hr
                                                subst he1
                                                refine W.widen (k := 1) (n := 6) (by decide) (by decide) ?_
                                                exact x_iM E ad hw he0 dL_call_284
                                              · rw [if_neg hq] at hf
                                                cases hf
                                    · rw [if_pos hc] at hf
                                      refine lv_aload_n hx hb dL_call_246 rfl (lv_at hl 0 rfl) ?_
                                      refine lv_iload_n hx hb dL_call_247 rfl (lv_at hl 2 rfl) ?_
                                      refine lv_iload_n hx hb dL_call_248 rfl (lv_at hl 3 rfl) ?_
                                      rcases ct_s hf with ⟨z3, h, hf⟩ | ⟨ex, h, hf⟩
                                      · refine x_miFP0 hw (x_rV E (As := [.int p2, .int p3]) (rest := []) (mt_X5_ifFired l D I J O h0 n t b0 b1 hh ha ad s.heap.size p2 p3 x z3.1 z3.2 h) blM (x_recv E hw.1 0 5 rfl rfl rfl) (x_pcMPF0 E hw) ok_X5_ifFired q671 rfl hl.1 rfl (Nat.le_of_ble_eq_true rfl) ⟨Nat.le_of_ble_eq_true rfl, Nat.le_of_ble_eq_true rfl⟩ ⟨Nat.le_of_ble_eq_true rfl, Nat.le_of_ble_eq_true rfl⟩ dL_call_249) (fun _ => rfl) (fun ad4 H locs hw => ?_)
                                        have hw : fy D (va_A ws0 sz) s.heap H locs (wCl I h0 n t b0 b1 hh z3.2 ++ wHi I O hh ha ad4 z3.2.2.2.1) := hw
                                        refine lv_goto (tgt := 269) hx hb dL_call_252 (by decide) ?_
                                        obtain ⟨he0, hr⟩ := Prod.mk.inj (Option.some.inj hf)
                                        have he1 := hr
                                        subst he1
                                        refine W.widen (k := 1) (n := 6) (by decide) (by decide) ?_
                                        exact x_iM E ad4 hw he0 dL_call_269
                                      · by_cases hq : ex = 3
                                        · rw [if_pos hq] at hf
                                          subst hq
                                          refine x_cX (en := "java/lang/IndexOutOfBoundsException") (free := fun q => s.heap.size ≤ q) hw (fun q hq => hw.2.2.2 q hq) (x_rX E (As := [.int p2, .int p3]) (rest := []) (mx_X5_ifFired l hfl D I J O h0 n t b0 b1 hh ha ad s.heap.size p2 p3 x 3 h) blX (x_recv E hw.1 0 5 rfl rfl rfl) (x_pcX E hX rfl (va_P.part hw.1 [0, 1, 2, 3, 4, 5, 6, 7, 8, 9, 10, 11, 12, 13, 14, 15, 16, 17, 18, 19, 20, 21, 22, 23, 24, 25, 26] rfl)) ok_X5_ifFired q671 rfl hl.1 rfl (Nat.le_of_ble_eq_true rfl) ⟨Nat.le_of_ble_eq_true rfl, Nat.le_of_ble_eq_true rfl⟩ ⟨Nat.le_of_ble_eq_true rfl, Nat.le_of_ble_eq_true rfl⟩ dL_call_249) (fun ce q9 H locs hw hce hcv hcl => ?_)
                                          refine vx_catch (own := RL) (name := "java/lang/IndexOutOfBoundsException") E.2.2.2.1 [] (⟨0, 269, 270, 74⟩ : ExceptionTableEntry) [(⟨0, 269, 275, 76⟩ : ExceptionTableEntry), (⟨0, 269, 280, 78⟩ : ExceptionTableEntry)] (htab.trans rfl) (fun z hz => nomatch hz) (by decide) (by decide) (E.2.2.2.2.1 _ q448) (va_Nw.use rfl hX.2.2.1.2.2) hce hcv hcl ?_
                                          refine lv_astore (lv' := [(5, .ref q9), (0, .ref h0), (1, .int p1), (2, .int p2), (3, .int p3), (4, .int p4)]) hx hb dL_call_270 hl (by decide) rfl (fun ls hl => ?_)
                                          refine lv_bipush (v := (-11)) hx hb dL_call_272 (by decide) ?_
                                          obtain ⟨he0, hr⟩ := Prod.mk.inj (Option.some.inj hf)
                                          have he1 := hr
                                          subst he1
                                          refine W.widen (k := 1) (n := 6) (by decide) (by decide) ?_
                                          exact x_iM E ad hw he0 dL_call_274
                                        · rw [if_neg hq] at hf
                                          by_cases hq : ex = 1
                                          · rw [if_pos hq] at hf
                                            subst hq
                                            refine x_cX (en := "java/lang/IllegalArgumentException") (free := fun q => s.heap.size ≤ q) hw (fun q hq => hw.2.2.2 q hq) (x_rX E (As := [.int p2, .int p3]) (rest := []) (mx_X5_ifFired l hfl D I J O h0 n t b0 b1 hh ha ad s.heap.size p2 p3 x 1 h) blX (x_recv E hw.1 0 5 rfl rfl rfl) (x_pcX E hX rfl (va_P.part hw.1 [0, 1, 2, 3, 4, 5, 6, 7, 8, 9, 10, 11, 12, 13, 14, 15, 16, 17, 18, 19, 20, 21, 22, 23, 24, 25, 26] rfl)) ok_X5_ifFired q671 rfl hl.1 rfl (Nat.le_of_ble_eq_true rfl) ⟨Nat.le_of_ble_eq_true rfl, Nat.le_of_ble_eq_true rfl⟩ ⟨Nat.le_of_ble_eq_true rfl, Nat.le_of_ble_eq_true rfl⟩ dL_call_249) (fun ce q9 H locs hw hce hcv hcl => ?_)
                                            refine vx_catch (own := RL) (name := "java/lang/IllegalArgumentException") E.2.2.2.1 [(⟨0, 269, 270, 74⟩ : ExceptionTableEntry)] (⟨0, 269, 275, 76⟩ : ExceptionTableEntry) [(⟨0, 269, 280, 78⟩ : ExceptionTableEntry)] (htab.trans rfl) (fun z hz => by rcases List.mem_cons.mp hz with rfl | hz; exact Or.inr ⟨by decide, _, E.2.2.2.2.1 _ q448, hX.2.2.2.1.2.1⟩; cases hz) (by decide) (by decide) (E.2.2.2.2.1 _ q449) (va_Nw.use rfl hX.2.2.1.1) hce hcv hcl ?_
                                            refine lv_astore (lv' := [(5, .ref q9), (0, .ref h0), (1, .int p1), (2, .int p2), (3, .int p3), (4, .int p4)]) hx hb dL_call_275 hl (by decide) rfl (fun ls hl => ?_)
                                            refine lv_bipush (v := (-12)) hx hb dL_call_277 (by decide) ?_
                                            obtain ⟨he0, hr⟩ := Prod.mk.inj (Option.some.inj hf)
                                            have he1 := hr
                                            subst he1
                                            refine W.widen (k := 1) (n := 6) (by decide) (by decide) ?_
                                            exact x_iM E ad hw he0 dL_call_279
                                          · rw [if_neg hq] at hf
                                            by_cases hq : ex = 2
                                            · rw [if_pos hq] at hf
                                              subst hq
                                              refine x_cX (en := "java/lang/IllegalStateException") (free := fun q => s.heap.size ≤ q) hw (fun q hq => hw.2.2.2 q hq) (x_rX E (As := [.int p2, .int p3]) (rest := []) (mx_X5_ifFired l hfl D I J O h0 n t b0 b1 hh ha ad s.heap.size p2 p3 x 2 h) blX (x_recv E hw.1 0 5 rfl rfl rfl) (x_pcX E hX rfl (va_P.part hw.1 [0, 1, 2, 3, 4, 5, 6, 7, 8, 9, 10, 11, 12, 13, 14, 15, 16, 17, 18, 19, 20, 21, 22, 23, 24, 25, 26] rfl)) ok_X5_ifFired q671 rfl hl.1 rfl (Nat.le_of_ble_eq_true rfl) ⟨Nat.le_of_ble_eq_true rfl, Nat.le_of_ble_eq_true rfl⟩ ⟨Nat.le_of_ble_eq_true rfl, Nat.le_of_ble_eq_true rfl⟩ dL_call_249) (fun ce q9 H locs hw hce hcv hcl => ?_)
                                              refine vx_catch (own := RL) (name := "java/lang/IllegalStateException") E.2.2.2.1 [(⟨0, 269, 270, 74⟩ : ExceptionTableEntry), (⟨0, 269, 275, 76⟩ : ExceptionTableEntry)] (⟨0, 269, 280, 78⟩ : ExceptionTableEntry) [] (htab.trans rfl) (fun z hz => by rcases List.mem_cons.mp hz with rfl | hz; exact Or.inr ⟨by decide, _, E.2.2.2.2.1 _ q448, hX.2.2.2.1.2.2⟩; rcases List.mem_cons.mp hz with rfl | hz; exact Or.inr ⟨by decide, _, E.2.2.2.2.1 _ q449, hX.2.2.2.1.1⟩; cases hz) (by decide) (by decide) (E.2.2.2.2.1 _ q450) (va_Nw.use rfl hX.2.2.1.2.1) hce hcv hcl ?_
                                              refine lv_astore (lv' := [(5, .ref q9), (0, .ref h0), (1, .int p1), (2, .int p2), (3, .int p3), (4, .int p4)]) hx hb dL_call_280 hl (by decide) rfl (fun ls hl => ?_)
                                              refine lv_bipush (v := (-13)) hx hb dL_call_282 (by decide) ?_
                                              obtain ⟨he0, hr⟩ := Prod.mk.inj (Option.some.inj hf)
                                              have he1 := hr
                                              subst he1
                                              refine W.widen (k := 1) (n := 6) (by decide) (by decide) ?_
                                              exact x_iM E ad hw he0 dL_call_284
                                            · rw [if_neg hq] at hf
                                              cases hf
                                  · rw [if_pos hc] at hf
                                    refine lv_aload_n hx hb dL_call_232 rfl (lv_at hl 0 rfl) ?_
                                    refine lv_iload_n hx hb dL_call_233 rfl (lv_at hl 2 rfl) ?_
                                    rcases ct_s hf with ⟨z5, h, hf⟩ | ⟨ex, h, hf⟩
                                    · refine x_ci (x_rV E (As := [.int p2]) (rest := []) (mt_X5_gap l D I J O h0 n t b0 b1 hh ha ad p2 x z5 h) blR (x_recv E hw.1 0 5 rfl rfl rfl) (x_pcR E hw.1) ok_X5_gap q658 rfl hl.1 rfl (Nat.le_of_ble_eq_true rfl) ⟨Nat.le_of_ble_eq_true rfl, Nat.le_of_ble_eq_true rfl⟩ ⟨Nat.le_of_ble_eq_true rfl, Nat.le_of_ble_eq_true rfl⟩ dL_call_234) ?_
                                      refine lv_goto (tgt := 269) hx hb dL_call_237 (by decide) ?_
                                      obtain ⟨he0, hr⟩ := Prod.mk.inj (Option.some.inj hf)
                                      have he1 := hr
                                      subst he1
                                      refine W.widen (k := 1) (n := 6) (by decide) (by decide) ?_
                                      exact x_iM E ad hw he0 dL_call_269
                                    · by_cases hq : ex = 3
                                      · rw [if_pos hq] at hf
                                        subst hq
                                        refine x_cX (en := "java/lang/IndexOutOfBoundsException") (free := fun q => s.heap.size ≤ q) hw (fun q hq => hw.2.2.2 q hq) (x_rX E (As := [.int p2]) (rest := []) (mx_X5_gap l hfl D I J O h0 n t b0 b1 hh ha ad s.heap.size p2 x 3 h) blX (x_recv E hw.1 0 5 rfl rfl rfl) (x_pcX E hX rfl (va_P.part hw.1 [0, 1, 2, 3, 4, 5, 6, 7, 8, 9, 10, 11, 12, 13, 14, 15, 16, 17, 18, 19, 20, 21, 22, 23, 24, 25, 26] rfl)) ok_X5_gap q658 rfl hl.1 rfl (Nat.le_of_ble_eq_true rfl) ⟨Nat.le_of_ble_eq_true rfl, Nat.le_of_ble_eq_true rfl⟩ ⟨Nat.le_of_ble_eq_true rfl, Nat.le_of_ble_eq_true rfl⟩ dL_call_234) (fun ce q9 H locs hw hce hcv hcl => ?_)
                                        refine vx_catch (own := RL) (name := "java/lang/IndexOutOfBoundsException") E.2.2.2.1 [] (⟨0, 269, 270, 74⟩ : ExceptionTableEntry) [(⟨0, 269, 275, 76⟩ : ExceptionTableEntry), (⟨0, 269, 280, 78⟩ : ExceptionTableEntry)] (htab.trans rfl) (fun z hz => nomatch hz) (by decide) (by decide) (E.2.2.2.2.1 _ q448) (va_Nw.use rfl hX.2.2.1.2.2) hce hcv hcl ?_
                                        refine lv_astore (lv' := [(5, .ref q9), (0, .ref h0), (1, .int p1), (2, .int p2), (3, .int p3), (4, .int p4)]) hx hb dL_call_270 hl (by decide) rfl (fun ls hl => ?_)
                                        refine lv_bipush (v := (-11)) hx hb dL_call_272 (by decide) ?_
                                        obtain ⟨he0, hr⟩ := Prod.mk.inj (Option.some.inj hf)
                                        have he1 := hr
                                        subst he1
                                        refine W.widen (k := 1) (n := 6) (by decide) (by decide) ?_
                                        exact x_iM E ad hw he0 dL_call_274
                                      · rw [if_neg hq] at hf
                                        by_cases hq : ex = 1
                                        · rw [if_pos hq] at hf
                                          subst hq
                                          refine x_cX (en := "java/lang/IllegalArgumentException") (free := fun q => s.heap.size ≤ q) hw (fun q hq => hw.2.2.2 q hq) (x_rX E (As := [.int p2]) (rest := []) (mx_X5_gap l hfl D I J O h0 n t b0 b1 hh ha ad s.heap.size p2 x 1 h) blX (x_recv E hw.1 0 5 rfl rfl rfl) (x_pcX E hX rfl (va_P.part hw.1 [0, 1, 2, 3, 4, 5, 6, 7, 8, 9, 10, 11, 12, 13, 14, 15, 16, 17, 18, 19, 20, 21, 22, 23, 24, 25, 26] rfl)) ok_X5_gap q658 rfl hl.1 rfl (Nat.le_of_ble_eq_true rfl) ⟨Nat.le_of_ble_eq_true rfl, Nat.le_of_ble_eq_true rfl⟩ ⟨Nat.le_of_ble_eq_true rfl, Nat.le_of_ble_eq_true rfl⟩ dL_call_234) (fun ce q9 H locs hw hce hcv hcl => ?_)
                                          refine vx_catch (own := RL) (name := "java/lang/IllegalArgumentException") E.2.2.2.1 [(⟨0, 269, 270, 74⟩ : ExceptionTableEntry)] (⟨0, 269, 275, 76⟩ : ExceptionTableEntry) [(⟨0, 269, 280, 78⟩ : ExceptionTableEntry)] (htab.trans rfl) (fun z hz => by rcases List.mem_cons.mp hz with rfl | hz; exact Or.inr ⟨by decide, _, E.2.2.2.2.1 _ q448, hX.2.2.2.1.2.1⟩; cases hz) (by decide) (by decide) (E.2.2.2.2.1 _ q449) (va_Nw.use rfl hX.2.2.1.1) hce hcv hcl ?_
                                          refine lv_astore (lv' := [(5, .ref q9), (0, .ref h0), (1, .int p1), (2, .int p2), (3, .int p3), (4, .int p4)]) hx hb dL_call_275 hl (by decide) rfl (fun ls hl => ?_)
                                          refine lv_bipush (v := (-12)) hx hb dL_call_277 (by decide) ?_
                                          obtain ⟨he0, hr⟩ := Prod.mk.inj (Option.some.inj hf)
                                          have he1 := hr
                                          subst he1
                                          refine W.widen (k := 1) (n := 6) (by decide) (by decide) ?_
                                          exact x_iM E ad hw he0 dL_call_279
                                        · rw [if_neg hq] at hf
                                          by_cases hq : ex = 2
                                          · rw [if_pos hq] at hf
                                            subst hq
                                            refine x_cX (en := "java/lang/IllegalStateException") (free := fun q => s.heap.size ≤ q) hw (fun q hq => hw.2.2.2 q hq) (x_rX E (As := [.int p2]) (rest := []) (mx_X5_gap l hfl D I J O h0 n t b0 b1 hh ha ad s.heap.size p2 x 2 h) blX (x_recv E hw.1 0 5 rfl rfl rfl) (x_pcX E hX rfl (va_P.part hw.1 [0, 1, 2, 3, 4, 5, 6, 7, 8, 9, 10, 11, 12, 13, 14, 15, 16, 17, 18, 19, 20, 21, 22, 23, 24, 25, 26] rfl)) ok_X5_gap q658 rfl hl.1 rfl (Nat.le_of_ble_eq_true rfl) ⟨Nat.le_of_ble_eq_true rfl, Nat.le_of_ble_eq_true rfl⟩ ⟨Nat.le_of_ble_eq_true rfl, Nat.le_of_ble_eq_true rfl⟩ dL_call_234) (fun ce q9 H locs hw hce hcv hcl => ?_)
                                            refine vx_catch (own := RL) (name := "java/lang/IllegalStateException") E.2.2.2.1 [(⟨0, 269, 270, 74⟩ : ExceptionTableEntry), (⟨0, 269, 275, 76⟩ : ExceptionTableEntry)] (⟨0, 269, 280, 78⟩ : ExceptionTableEntry) [] (htab.trans rfl) (fun z hz => by rcases List.mem_cons.mp hz with rfl | hz; exact Or.inr ⟨by decide, _, E.2.2.2.2.1 _ q448, hX.2.2.2.1.2.2⟩; rcases List.mem_cons.mp hz with rfl | hz; exact Or.inr ⟨by decide, _, E.2.2.2.2.1 _ q449, hX.2.2.2.1.1⟩; cases hz) (by decide) (by decide) (E.2.2.2.2.1 _ q450) (va_Nw.use rfl hX.2.2.1.2.1) hce hcv hcl ?_
                                            refine lv_astore (lv' := [(5, .ref q9), (0, .ref h0), (1, .int p1), (2, .int p2), (3, .int p3), (4, .int p4)]) hx hb dL_call_280 hl (by decide) rfl (fun ls hl => ?_)
                                            refine lv_bipush (v := (-13)) hx hb dL_call_282 (by decide) ?_
                                            obtain ⟨he0, hr⟩ := Prod.mk.inj (Option.some.inj hf)
                                            have he1 := hr
                                            subst he1
                                            refine W.widen (k := 1) (n := 6) (by decide) (by decide) ?_
                                            exact x_iM E ad hw he0 dL_call_284
                                          · rw [if_neg hq] at hf
                                            cases hf
                                · rw [if_pos hc] at hf
                                  refine lv_aload_n hx hb dL_call_218 rfl (lv_at hl 0 rfl) ?_
                                  refine lv_iload_n hx hb dL_call_219 rfl (lv_at hl 2 rfl) ?_
                                  rcases ct_s hf with ⟨z6, h, hf⟩ | ⟨ex, h, hf⟩
                                  · refine x_ci (x_rV E (As := [.int p2]) (rest := []) (mt_X5_begins l D I J O h0 n t b0 b1 hh ha ad p2 x z6 h) blR (x_recv E hw.1 0 5 rfl rfl rfl) (x_pcR E hw.1) ok_X5_begins q653 rfl hl.1 rfl (Nat.le_of_ble_eq_true rfl) ⟨Nat.le_of_ble_eq_true rfl, Nat.le_of_ble_eq_true rfl⟩ ⟨Nat.le_of_ble_eq_true rfl, Nat.le_of_ble_eq_true rfl⟩ dL_call_220) ?_
                                    refine lv_goto (tgt := 269) hx hb dL_call_223 (by decide) ?_
                                    obtain ⟨he0, hr⟩ := Prod.mk.inj (Option.some.inj hf)
                                    have he1 := hr
                                    subst he1
                                    refine W.widen (k := 1) (n := 6) (by decide) (by decide) ?_
                                    exact x_iM E ad hw he0 dL_call_269
                                  · by_cases hq : ex = 3
                                    · rw [if_pos hq] at hf
                                      subst hq
                                      refine x_cX (en := "java/lang/IndexOutOfBoundsException") (free := fun q => s.heap.size ≤ q) hw (fun q hq => hw.2.2.2 q hq) (x_rX E (As := [.int p2]) (rest := []) (mx_X5_begins l hfl D I J O h0 n t b0 b1 hh ha ad s.heap.size p2 x 3 h) blX (x_recv E hw.1 0 5 rfl rfl rfl) (x_pcX E hX rfl (va_P.part hw.1 [0, 1, 2, 3, 4, 5, 6, 7, 8, 9, 10, 11, 12, 13, 14, 15, 16, 17, 18, 19, 20, 21, 22, 23, 24, 25, 26] rfl)) ok_X5_begins q653 rfl hl.1 rfl (Nat.le_of_ble_eq_true rfl) ⟨Nat.le_of_ble_eq_true rfl, Nat.le_of_ble_eq_true rfl⟩ ⟨Nat.le_of_ble_eq_true rfl, Nat.le_of_ble_eq_true rfl⟩ dL_call_220) (fun ce q9 H locs hw hce hcv hcl => ?_)
                                      refine vx_catch (own := RL) (name := "java/lang/IndexOutOfBoundsException") E.2.2.2.1 [] (⟨0, 269, 270, 74⟩ : ExceptionTableEntry) [(⟨0, 269, 275, 76⟩ : ExceptionTableEntry), (⟨0, 269, 280, 78⟩ : ExceptionTableEntry)] (htab.trans rfl) (fun z hz => nomatch hz) (by decide) (by decide) (E.2.2.2.2.1 _ q448) (va_Nw.use rfl hX.2.2.1.2.2) hce hcv hcl ?_
                                      refine lv_astore (lv' := [(5, .ref q9), (0, .ref h0), (1, .int p1), (2, .int p2), (3, .int p3), (4, .int p4)]) hx hb dL_call_270 hl (by decide) rfl (fun ls hl => ?_)
                                      refine lv_bipush (v := (-11)) hx hb dL_call_272 (by decide) ?_
                                      obtain ⟨he0, hr⟩ := Prod.mk.inj (Option.some.inj hf)
                                      have he1 := hr
                                      subst he1
                                      refine W.widen (k := 1) (n := 6) (by decide) (by decide) ?_
                                      exact x_iM E ad hw he0 dL_call_274
                                    · rw [if_neg hq] at hf
                                      by_cases hq : ex = 1
                                      · rw [if_pos hq] at hf
                                        subst hq
                                        refine x_cX (en := "java/lang/IllegalArgumentException") (free := fun q => s.heap.size ≤ q) hw (fun q hq => hw.2.2.2 q hq) (x_rX E (As := [.int p2]) (rest := []) (mx_X5_begins l hfl D I J O h0 n t b0 b1 hh ha ad s.heap.size p2 x 1 h) blX (x_recv E hw.1 0 5 rfl rfl rfl) (x_pcX E hX rfl (va_P.part hw.1 [0, 1, 2, 3, 4, 5, 6, 7, 8, 9, 10, 11, 12, 13, 14, 15, 16, 17, 18, 19, 20, 21, 22, 23, 24, 25, 26] rfl)) ok_X5_begins q653 rfl hl.1 rfl (Nat.le_of_ble_eq_true rfl) ⟨Nat.le_of_ble_eq_true rfl, Nat.le_of_ble_eq_true rfl⟩ ⟨Nat.le_of_ble_eq_true rfl, Nat.le_of_ble_eq_true rfl⟩ dL_call_220) (fun ce q9 H locs hw hce hcv hcl => ?_)
                                        refine vx_catch (own := RL) (name := "java/lang/IllegalArgumentException") E.2.2.2.1 [(⟨0, 269, 270, 74⟩ : ExceptionTableEntry)] (⟨0, 269, 275, 76⟩ : ExceptionTableEntry) [(⟨0, 269, 280, 78⟩ : ExceptionTableEntry)] (htab.trans rfl) (fun z hz => by rcases List.mem_cons.mp hz with rfl | hz; exact Or.inr ⟨by decide, _, E.2.2.2.2.1 _ q448, hX.2.2.2.1.2.1⟩; cases hz) (by decide) (by decide) (E.2.2.2.2.1 _ q449) (va_Nw.use rfl hX.2.2.1.1) hce hcv hcl ?_
                                        refine lv_astore (lv' := [(5, .ref q9), (0, .ref h0), (1, .int p1), (2, .int p2), (3, .int p3), (4, .int p4)]) hx hb dL_call_275 hl (by decide) rfl (fun ls hl => ?_)
                                        refine lv_bipush (v := (-12)) hx hb dL_call_277 (by decide) ?_
                                        obtain ⟨he0, hr⟩ := Prod.mk.inj (Option.some.inj hf)
                                        have he1 := hr
                                        subst he1
                                        refine W.widen (k := 1) (n := 6) (by decide) (by decide) ?_
                                        exact x_iM E ad hw he0 dL_call_279
                                      · rw [if_neg hq] at hf
                                        by_cases hq : ex = 2
                                        · rw [if_pos hq] at hf
                                          subst hq
                                          refine x_cX (en := "java/lang/IllegalStateException") (free := fun q => s.heap.size ≤ q) hw (fun q hq => hw.2.2.2 q hq) (x_rX E (As := [.int p2]) (rest := []) (mx_X5_begins l hfl D I J O h0 n t b0 b1 hh ha ad s.heap.size p2 x 2 h) blX (x_recv E hw.1 0 5 rfl rfl rfl) (x_pcX E hX rfl (va_P.part hw.1 [0, 1, 2, 3, 4, 5, 6, 7, 8, 9, 10, 11, 12, 13, 14, 15, 16, 17, 18, 19, 20, 21, 22, 23, 24, 25, 26] rfl)) ok_X5_begins q653 rfl hl.1 rfl (Nat.le_of_ble_eq_true rfl) ⟨Nat.le_of_ble_eq_true rfl, Nat.le_of_ble_eq_true rfl⟩ ⟨Nat.le_of_ble_eq_true rfl, Nat.le_of_ble_eq_true rfl⟩ dL_call_220) (fun ce q9 H locs hw hce hcv hcl => ?_)
                                          refine vx_catch (own := RL) (name := "java/lang/IllegalStateException") E.2.2.2.1 [(⟨0, 269, 270, 74⟩ : ExceptionTableEntry), (⟨0, 269, 275, 76⟩ : ExceptionTableEntry)] (⟨0, 269, 280, 78⟩ : ExceptionTableEntry) [] (htab.trans rfl) (fun z hz => by rcases List.mem_cons.mp hz with rfl | hz; exact Or.inr ⟨by decide, _, E.2.2.2.2.1 _ q448, hX.2.2.2.1.2.2⟩; rcases List.mem_cons.mp hz with rfl | hz; exact Or.inr ⟨by decide, _, E.2.2.2.2.1 _ q449, hX.2.2.2.1.1⟩; cases hz) (by decide) (by decide) (E.2.2.2.2.1 _ q450) (va_Nw.use rfl hX.2.2.1.2.1) hce hcv hcl ?_
                                          refine lv_astore (lv' := [(5, .ref q9), (0, .ref h0), (1, .int p1), (2, .int p2), (3, .int p3), (4, .int p4)]) hx hb dL_call_280 hl (by decide) rfl (fun ls hl => ?_)
                                          refine lv_bipush (v := (-13)) hx hb dL_call_282 (by decide) ?_
                                          obtain ⟨he0, hr⟩ := Prod.mk.inj (Option.some.inj hf)
                                          have he1 := hr
                                          subst he1
                                          refine W.widen (k := 1) (n := 6) (by decide) (by decide) ?_
                                          exact x_iM E ad hw he0 dL_call_284
                                        · rw [if_neg hq] at hf
                                          cases hf
                              · rw [if_pos hc] at hf
                                refine lv_aload_n hx hb dL_call_204 rfl (lv_at hl 0 rfl) ?_
                                refine lv_iload_n hx hb dL_call_205 rfl (lv_at hl 2 rfl) ?_
                                rcases ct_s hf with ⟨z7, h, hf⟩ | ⟨ex, h, hf⟩
                                · refine x_ci (x_rV E (As := [.int p2]) (rest := []) (mt_X5_count l D I J O h0 n t b0 b1 hh ha ad p2 x z7 h) blR (x_recv E hw.1 0 5 rfl rfl rfl) (x_pcR E hw.1) ok_X5_count q399 rfl hl.1 rfl (Nat.le_of_ble_eq_true rfl) ⟨Nat.le_of_ble_eq_true rfl, Nat.le_of_ble_eq_true rfl⟩ ⟨Nat.le_of_ble_eq_true rfl, Nat.le_of_ble_eq_true rfl⟩ dL_call_206) ?_
                                  refine lv_goto (tgt := 269) hx hb dL_call_209 (by decide) ?_
                                  obtain ⟨he0, hr⟩ := Prod.mk.inj (Option.some.inj hf)
                                  have he1 := hr
                                  subst he1
                                  refine W.widen (k := 1) (n := 6) (by decide) (by decide) ?_
                                  exact x_iM E ad hw he0 dL_call_269
                                · by_cases hq : ex = 3
                                  · rw [if_pos hq] at hf
                                    subst hq
                                    refine x_cX (en := "java/lang/IndexOutOfBoundsException") (free := fun q => s.heap.size ≤ q) hw (fun q hq => hw.2.2.2 q hq) (x_rX E (As := [.int p2]) (rest := []) (mx_X5_count l hfl D I J O h0 n t b0 b1 hh ha ad s.heap.size p2 x 3 h) blX (x_recv E hw.1 0 5 rfl rfl rfl) (x_pcX E hX rfl (va_P.part hw.1 [0, 1, 2, 3, 4, 5, 6, 7, 8, 9, 10, 11, 12, 13, 14, 15, 16, 17, 18, 19, 20, 21, 22, 23, 24, 25, 26] rfl)) ok_X5_count q399 rfl hl.1 rfl (Nat.le_of_ble_eq_true rfl) ⟨Nat.le_of_ble_eq_true rfl, Nat.le_of_ble_eq_true rfl⟩ ⟨Nat.le_of_ble_eq_true rfl, Nat.le_of_ble_eq_true rfl⟩ dL_call_206) (fun ce q9 H locs hw hce hcv hcl => ?_)
                                    refine vx_catch (own := RL) (name := "java/lang/IndexOutOfBoundsException") E.2.2.2.1 [] (⟨0, 269, 270, 74⟩ : ExceptionTableEntry) [(⟨0, 269, 275, 76⟩ : ExceptionTableEntry), (⟨0, 269, 280, 78⟩ : ExceptionTableEntry)] (htab.trans rfl) (fun z hz => nomatch hz) (by decide) (by decide) (E.2.2.2.2.1 _ q448) (va_Nw.use rfl hX.2.2.1.2.2) hce hcv hcl ?_
                                    refine lv_astore (lv' := [(5, .ref q9), (0, .ref h0), (1, .int p1), (2, .int p2), (3, .int p3), (4, .int p4)]) hx hb dL_call_270 hl (by decide) rfl (fun ls hl => ?_)
                                    refine lv_bipush (v := (-11)) hx hb dL_call_272 (by decide) ?_
                                    obtain ⟨he0, hr⟩ := Prod.mk.inj (Option.some.inj hf)
                                    have he1 := hr
                                    subst he1
                                    refine W.widen (k := 1) (n := 6) (by decide) (by decide) ?_
                                    exact x_iM E ad hw he0 dL_call_274
                                  · rw [if_neg hq] at hf
                                    by_cases hq : ex = 1
                                    · rw [if_pos hq] at hf
                                      subst hq
                                      refine x_cX (en := "java/lang/IllegalArgumentException") (free := fun q => s.heap.size ≤ q) hw (fun q hq => hw.2.2.2 q hq) (x_rX E (As := [.int p2]) (rest := []) (mx_X5_count l hfl D I J O h0 n t b0 b1 hh ha ad s.heap.size p2 x 1 h) blX (x_recv E hw.1 0 5 rfl rfl rfl) (x_pcX E hX rfl (va_P.part hw.1 [0, 1, 2, 3, 4, 5, 6, 7, 8, 9, 10, 11, 12, 13, 14, 15, 16, 17, 18, 19, 20, 21, 22, 23, 24, 25, 26] rfl)) ok_X5_count q399 rfl hl.1 rfl (Nat.le_of_ble_eq_true rfl) ⟨Nat.le_of_ble_eq_true rfl, Nat.le_of_ble_eq_true rfl⟩ ⟨Nat.le_of_ble_eq_true rfl, Nat.le_of_ble_eq_true rfl⟩ dL_call_206) (fun ce q9 H locs hw hce hcv hcl => ?_)
                                      refine vx_catch (own := RL) (name := "java/lang/IllegalArgumentException") E.2.2.2.1 [(⟨0, 269, 270, 74⟩ : ExceptionTableEntry)] (⟨0, 269, 275, 76⟩ : ExceptionTableEntry) [(⟨0, 269, 280, 78⟩ : ExceptionTableEntry)] (htab.trans rfl) (fun z hz => by rcases List.mem_cons.mp hz with rfl | hz; exact Or.inr ⟨by decide, _, E.2.2.2.2.1 _ q448, hX.2.2.2.1.2.1⟩; cases hz) (by decide) (by decide) (E.2.2.2.2.1 _ q449) (va_Nw.use rfl hX.2.2.1.1) hce hcv hcl ?_
                                      refine lv_astore (lv' := [(5, .ref q9), (0, .ref h0), (1, .int p1), (2, .int p2), (3, .int p3), (4, .int p4)]) hx hb dL_call_275 hl (by decide) rfl (fun ls hl => ?_)
                                      refine lv_bipush (v := (-12)) hx hb dL_call_277 (by decide) ?_
                                      obtain ⟨he0, hr⟩ := Prod.mk.inj (Option.some.inj hf)
                                      have he1 := hr
                                      subst he1
                                      refine W.widen (k := 1) (n := 6) (by decide) (by decide) ?_
                                      exact x_iM E ad hw he0 dL_call_279
                                    · rw [if_neg hq] at hf
                                      by_cases hq : ex = 2
                                      · rw [if_pos hq] at hf
                                        subst hq
                                        refine x_cX (en := "java/lang/IllegalStateException") (free := fun q => s.heap.size ≤ q) hw (fun q hq => hw.2.2.2 q hq) (x_rX E (As := [.int p2]) (rest := []) (mx_X5_count l hfl D I J O h0 n t b0 b1 hh ha ad s.heap.size p2 x 2 h) blX (x_recv E hw.1 0 5 rfl rfl rfl) (x_pcX E hX rfl (va_P.part hw.1 [0, 1, 2, 3, 4, 5, 6, 7, 8, 9, 10, 11, 12, 13, 14, 15, 16, 17, 18, 19, 20, 21, 22, 23, 24, 25, 26] rfl)) ok_X5_count q399 rfl hl.1 rfl (Nat.le_of_ble_eq_true rfl) ⟨Nat.le_of_ble_eq_true rfl, Nat.le_of_ble_eq_true rfl⟩ ⟨Nat.le_of_ble_eq_true rfl, Nat.le_of_ble_eq_true rfl⟩ dL_call_206) (fun ce q9 H locs hw hce hcv hcl => ?_)
                                        refine vx_catch (own := RL) (name := "java/lang/IllegalStateException") E.2.2.2.1 [(⟨0, 269, 270, 74⟩ : ExceptionTableEntry), (⟨0, 269, 275, 76⟩ : ExceptionTableEntry)] (⟨0, 269, 280, 78⟩ : ExceptionTableEntry) [] (htab.trans rfl) (fun z hz => by rcases List.mem_cons.mp hz with rfl | hz; exact Or.inr ⟨by decide, _, E.2.2.2.2.1 _ q448, hX.2.2.2.1.2.2⟩; rcases List.mem_cons.mp hz with rfl | hz; exact Or.inr ⟨by decide, _, E.2.2.2.2.1 _ q449, hX.2.2.2.1.1⟩; cases hz) (by decide) (by decide) (E.2.2.2.2.1 _ q450) (va_Nw.use rfl hX.2.2.1.2.1) hce hcv hcl ?_
                                        refine lv_astore (lv' := [(5, .ref q9), (0, .ref h0), (1, .int p1), (2, .int p2), (3, .int p3), (4, .int p4)]) hx hb dL_call_280 hl (by decide) rfl (fun ls hl => ?_)
                                        refine lv_bipush (v := (-13)) hx hb dL_call_282 (by decide) ?_
                                        obtain ⟨he0, hr⟩ := Prod.mk.inj (Option.some.inj hf)
                                        have he1 := hr
                                        subst he1
                                        refine W.widen (k := 1) (n := 6) (by decide) (by decide) ?_
                                        exact x_iM E ad hw he0 dL_call_284
                                      · rw [if_neg hq] at hf
                                        cases hf
                            · rw [if_pos hc] at hf
                              refine lv_aload_n hx hb dL_call_189 rfl (lv_at hl 0 rfl) ?_
                              refine lv_iload_n hx hb dL_call_190 rfl (lv_at hl 2 rfl) ?_
                              refine lv_iload_n hx hb dL_call_191 rfl (lv_at hl 3 rfl) ?_
                              rcases ct_s hf with ⟨z8, h, hf⟩ | ⟨ex, h, hf⟩
                              · refine x_ci (x_rV E (As := [.int p2, .int p3]) (rest := []) (mt_X5_walker l D I J O h0 n t b0 b1 hh ha ad p2 p3 x z8 h) blR (x_recv E hw.1 0 5 rfl rfl rfl) (x_pcR E hw.1) ok_X5_walker q644 rfl hl.1 rfl (Nat.le_of_ble_eq_true rfl) ⟨Nat.le_of_ble_eq_true rfl, Nat.le_of_ble_eq_true rfl⟩ ⟨Nat.le_of_ble_eq_true rfl, Nat.le_of_ble_eq_true rfl⟩ dL_call_192) ?_
                                refine lv_goto (tgt := 269) hx hb dL_call_195 (by decide) ?_
                                obtain ⟨he0, hr⟩ := Prod.mk.inj (Option.some.inj hf)
                                have he1 := hr
                                subst he1
                                refine W.widen (k := 1) (n := 6) (by decide) (by decide) ?_
                                exact x_iM E ad hw he0 dL_call_269
                              · by_cases hq : ex = 3
                                · rw [if_pos hq] at hf
                                  subst hq
                                  refine x_cX (en := "java/lang/IndexOutOfBoundsException") (free := fun q => s.heap.size ≤ q) hw (fun q hq => hw.2.2.2 q hq) (x_rX E (As := [.int p2, .int p3]) (rest := []) (mx_X5_walker l hfl D I J O h0 n t b0 b1 hh ha ad s.heap.size p2 p3 x 3 h) blX (x_recv E hw.1 0 5 rfl rfl rfl) (x_pcX E hX rfl (va_P.part hw.1 [0, 1, 2, 3, 4, 5, 6, 7, 8, 9, 10, 11, 12, 13, 14, 15, 16, 17, 18, 19, 20, 21, 22, 23, 24, 25, 26] rfl)) ok_X5_walker q644 rfl hl.1 rfl (Nat.le_of_ble_eq_true rfl) ⟨Nat.le_of_ble_eq_true rfl, Nat.le_of_ble_eq_true rfl⟩ ⟨Nat.le_of_ble_eq_true rfl, Nat.le_of_ble_eq_true rfl⟩ dL_call_192) (fun ce q9 H locs hw hce hcv hcl => ?_)
                                  refine vx_catch (own := RL) (name := "java/lang/IndexOutOfBoundsException") E.2.2.2.1 [] (⟨0, 269, 270, 74⟩ : ExceptionTableEntry) [(⟨0, 269, 275, 76⟩ : ExceptionTableEntry), (⟨0, 269, 280, 78⟩ : ExceptionTableEntry)] (htab.trans rfl) (fun z hz => nomatch hz) (by decide) (by decide) (E.2.2.2.2.1 _ q448) (va_Nw.use rfl hX.2.2.1.2.2) hce hcv hcl ?_
                                  refine lv_astore (lv' := [(5, .ref q9), (0, .ref h0), (1, .int p1), (2, .int p2), (3, .int p3), (4, .int p4)]) hx hb dL_call_270 hl (by decide) rfl (fun ls hl => ?_)
                                  refine lv_bipush (v := (-11)) hx hb dL_call_272 (by decide) ?_
                                  obtain ⟨he0, hr⟩ := Prod.mk.inj (Option.some.inj hf)
                                  have he1 := hr
                                  subst he1
                                  refine W.widen (k := 1) (n := 6) (by decide) (by decide) ?_
                                  exact x_iM E ad hw he0 dL_call_274
                                · rw [if_neg hq] at hf
                                  by_cases hq : ex = 1
                                  · rw [if_pos hq] at hf
                                    subst hq
                                    refine x_cX (en := "java/lang/IllegalArgumentException") (free := fun q => s.heap.size ≤ q) hw (fun q hq => hw.2.2.2 q hq) (x_rX E (As := [.int p2, .int p3]) (rest := []) (mx_X5_walker l hfl D I J O h0 n t b0 b1 hh ha ad s.heap.size p2 p3 x 1 h) blX (x_recv E hw.1 0 5 rfl rfl rfl) (x_pcX E hX rfl (va_P.part hw.1 [0, 1, 2, 3, 4, 5, 6, 7, 8, 9, 10, 11, 12, 13, 14, 15, 16, 17, 18, 19, 20, 21, 22, 23, 24, 25, 26] rfl)) ok_X5_walker q644 rfl hl.1 rfl (Nat.le_of_ble_eq_true rfl) ⟨Nat.le_of_ble_eq_true rfl, Nat.le_of_ble_eq_true rfl⟩ ⟨Nat.le_of_ble_eq_true rfl, Nat.le_of_ble_eq_true rfl⟩ dL_call_192) (fun ce q9 H locs hw hce hcv hcl => ?_)
                                    refine vx_catch (own := RL) (name := "java/lang/IllegalArgumentException") E.2.2.2.1 [(⟨0, 269, 270, 74⟩ : ExceptionTableEntry)] (⟨0, 269, 275, 76⟩ : ExceptionTableEntry) [(⟨0, 269, 280, 78⟩ : ExceptionTableEntry)] (htab.trans rfl) (fun z hz => by rcases List.mem_cons.mp hz with rfl | hz; exact Or.inr ⟨by decide, _, E.2.2.2.2.1 _ q448, hX.2.2.2.1.2.1⟩; cases hz) (by decide) (by decide) (E.2.2.2.2.1 _ q449) (va_Nw.use rfl hX.2.2.1.1) hce hcv hcl ?_
                                    refine lv_astore (lv' := [(5, .ref q9), (0, .ref h0), (1, .int p1), (2, .int p2), (3, .int p3), (4, .int p4)]) hx hb dL_call_275 hl (by decide) rfl (fun ls hl => ?_)
                                    refine lv_bipush (v := (-12)) hx hb dL_call_277 (by decide) ?_
                                    obtain ⟨he0, hr⟩ := Prod.mk.inj (Option.some.inj hf)
                                    have he1 := hr
                                    subst he1
                                    refine W.widen (k := 1) (n := 6) (by decide) (by decide) ?_
                                    exact x_iM E ad hw he0 dL_call_279
                                  · rw [if_neg hq] at hf
                                    by_cases hq : ex = 2
                                    · rw [if_pos hq] at hf
                                      subst hq
                                      refine x_cX (en := "java/lang/IllegalStateException") (free := fun q => s.heap.size ≤ q) hw (fun q hq => hw.2.2.2 q hq) (x_rX E (As := [.int p2, .int p3]) (rest := []) (mx_X5_walker l hfl D I J O h0 n t b0 b1 hh ha ad s.heap.size p2 p3 x 2 h) blX (x_recv E hw.1 0 5 rfl rfl rfl) (x_pcX E hX rfl (va_P.part hw.1 [0, 1, 2, 3, 4, 5, 6, 7, 8, 9, 10, 11, 12, 13, 14, 15, 16, 17, 18, 19, 20, 21, 22, 23, 24, 25, 26] rfl)) ok_X5_walker q644 rfl hl.1 rfl (Nat.le_of_ble_eq_true rfl) ⟨Nat.le_of_ble_eq_true rfl, Nat.le_of_ble_eq_true rfl⟩ ⟨Nat.le_of_ble_eq_true rfl, Nat.le_of_ble_eq_true rfl⟩ dL_call_192) (fun ce q9 H locs hw hce hcv hcl => ?_)
                                      refine vx_catch (own := RL) (name := "java/lang/IllegalStateException") E.2.2.2.1 [(⟨0, 269, 270, 74⟩ : ExceptionTableEntry), (⟨0, 269, 275, 76⟩ : ExceptionTableEntry)] (⟨0, 269, 280, 78⟩ : ExceptionTableEntry) [] (htab.trans rfl) (fun z hz => by rcases List.mem_cons.mp hz with rfl | hz; exact Or.inr ⟨by decide, _, E.2.2.2.2.1 _ q448, hX.2.2.2.1.2.2⟩; rcases List.mem_cons.mp hz with rfl | hz; exact Or.inr ⟨by decide, _, E.2.2.2.2.1 _ q449, hX.2.2.2.1.1⟩; cases hz) (by decide) (by decide) (E.2.2.2.2.1 _ q450) (va_Nw.use rfl hX.2.2.1.2.1) hce hcv hcl ?_
                                      refine lv_astore (lv' := [(5, .ref q9), (0, .ref h0), (1, .int p1), (2, .int p2), (3, .int p3), (4, .int p4)]) hx hb dL_call_280 hl (by decide) rfl (fun ls hl => ?_)
                                      refine lv_bipush (v := (-13)) hx hb dL_call_282 (by decide) ?_
                                      obtain ⟨he0, hr⟩ := Prod.mk.inj (Option.some.inj hf)
                                      have he1 := hr
                                      subst he1
                                      refine W.widen (k := 1) (n := 6) (by decide) (by decide) ?_
                                      exact x_iM E ad hw he0 dL_call_284
                                    · rw [if_neg hq] at hf
                                      cases hf
                          · rw [if_pos hc] at hf
                            refine lv_aload_n hx hb dL_call_174 rfl (lv_at hl 0 rfl) ?_
                            refine lv_iload_n hx hb dL_call_175 rfl (lv_at hl 2 rfl) ?_
                            refine lv_iload_n hx hb dL_call_176 rfl (lv_at hl 3 rfl) ?_
                            rcases ct_s hf with ⟨z9, h, hf⟩ | ⟨ex, h, hf⟩
                            · refine x_ci (x_rV E (As := [.int p2, .int p3]) (rest := []) (mt_X5_cell l D I J O h0 n t b0 b1 hh ha ad p2 p3 x z9 h) blR (x_recv E hw.1 0 5 rfl rfl rfl) (x_pcR E hw.1) ok_X5_cell q635 rfl hl.1 rfl (Nat.le_of_ble_eq_true rfl) ⟨Nat.le_of_ble_eq_true rfl, Nat.le_of_ble_eq_true rfl⟩ ⟨Nat.le_of_ble_eq_true rfl, Nat.le_of_ble_eq_true rfl⟩ dL_call_177) ?_
                              refine lv_goto (tgt := 269) hx hb dL_call_180 (by decide) ?_
                              obtain ⟨he0, hr⟩ := Prod.mk.inj (Option.some.inj hf)
                              have he1 := hr
                              subst he1
                              refine W.widen (k := 1) (n := 6) (by decide) (by decide) ?_
                              exact x_iM E ad hw he0 dL_call_269
                            · by_cases hq : ex = 3
                              · rw [if_pos hq] at hf
                                subst hq
                                refine x_cX (en := "java/lang/IndexOutOfBoundsException") (free := fun q => s.heap.size ≤ q) hw (fun q hq => hw.2.2.2 q hq) (x_rX E (As := [.int p2, .int p3]) (rest := []) (mx_X5_cell l hfl D I J O h0 n t b0 b1 hh ha ad s.heap.size p2 p3 x 3 h) blX (x_recv E hw.1 0 5 rfl rfl rfl) (x_pcX E hX rfl (va_P.part hw.1 [0, 1, 2, 3, 4, 5, 6, 7, 8, 9, 10, 11, 12, 13, 14, 15, 16, 17, 18, 19, 20, 21, 22, 23, 24, 25, 26] rfl)) ok_X5_cell q635 rfl hl.1 rfl (Nat.le_of_ble_eq_true rfl) ⟨Nat.le_of_ble_eq_true rfl, Nat.le_of_ble_eq_true rfl⟩ ⟨Nat.le_of_ble_eq_true rfl, Nat.le_of_ble_eq_true rfl⟩ dL_call_177) (fun ce q9 H locs hw hce hcv hcl => ?_)
                                refine vx_catch (own := RL) (name := "java/lang/IndexOutOfBoundsException") E.2.2.2.1 [] (⟨0, 269, 270, 74⟩ : ExceptionTableEntry) [(⟨0, 269, 275, 76⟩ : ExceptionTableEntry), (⟨0, 269, 280, 78⟩ : ExceptionTableEntry)] (htab.trans rfl) (fun z hz => nomatch hz) (by decide) (by decide) (E.2.2.2.2.1 _ q448) (va_Nw.use rfl hX.2.2.1.2.2) hce hcv hcl ?_
                                refine lv_astore (lv' := [(5, .ref q9), (0, .ref h0), (1, .int p1), (2, .int p2), (3, .int p3), (4, .int p4)]) hx hb dL_call_270 hl (by decide) rfl (fun ls hl => ?_)
                                refine lv_bipush (v := (-11)) hx hb dL_call_272 (by decide) ?_
                                obtain ⟨he0, hr⟩ := Prod.mk.inj (Option.some.inj hf)
                                have he1 := hr
                                subst he1
                                refine W.widen (k := 1) (n := 6) (by decide) (by decide) ?_
                                exact x_iM E ad hw he0 dL_call_274
                              · rw [if_neg hq] at hf
                                by_cases hq : ex = 1
                                · rw [if_pos hq] at hf
                                  subst hq
                                  refine x_cX (en := "java/lang/IllegalArgumentException") (free := fun q => s.heap.size ≤ q) hw (fun q hq => hw.2.2.2 q hq) (x_rX E (As := [.int p2, .int p3]) (rest := []) (mx_X5_cell l hfl D I J O h0 n t b0 b1 hh ha ad s.heap.size p2 p3 x 1 h) blX (x_recv E hw.1 0 5 rfl rfl rfl) (x_pcX E hX rfl (va_P.part hw.1 [0, 1, 2, 3, 4, 5, 6, 7, 8, 9, 10, 11, 12, 13, 14, 15, 16, 17, 18, 19, 20, 21, 22, 23, 24, 25, 26] rfl)) ok_X5_cell q635 rfl hl.1 rfl (Nat.le_of_ble_eq_true rfl) ⟨Nat.le_of_ble_eq_true rfl, Nat.le_of_ble_eq_true rfl⟩ ⟨Nat.le_of_ble_eq_true rfl, Nat.le_of_ble_eq_true rfl⟩ dL_call_177) (fun ce q9 H locs hw hce hcv hcl => ?_)
                                  refine vx_catch (own := RL) (name := "java/lang/IllegalArgumentException") E.2.2.2.1 [(⟨0, 269, 270, 74⟩ : ExceptionTableEntry)] (⟨0, 269, 275, 76⟩ : ExceptionTableEntry) [(⟨0, 269, 280, 78⟩ : ExceptionTableEntry)] (htab.trans rfl) (fun z hz => by rcases List.mem_cons.mp hz with rfl | hz; exact Or.inr ⟨by decide, _, E.2.2.2.2.1 _ q448, hX.2.2.2.1.2.1⟩; cases hz) (by decide) (by decide) (E.2.2.2.2.1 _ q449) (va_Nw.use rfl hX.2.2.1.1) hce hcv hcl ?_
                                  refine lv_astore (lv' := [(5, .ref q9), (0, .ref h0), (1, .int p1), (2, .int p2), (3, .int p3), (4, .int p4)]) hx hb dL_call_275 hl (by decide) rfl (fun ls hl => ?_)
                                  refine lv_bipush (v := (-12)) hx hb dL_call_277 (by decide) ?_
                                  obtain ⟨he0, hr⟩ := Prod.mk.inj (Option.some.inj hf)
                                  have he1 := hr
                                  subst he1
                                  refine W.widen (k := 1) (n := 6) (by decide) (by decide) ?_
                                  exact x_iM E ad hw he0 dL_call_279
                                · rw [if_neg hq] at hf
                                  by_cases hq : ex = 2
                                  · rw [if_pos hq] at hf
                                    subst hq
                                    refine x_cX (en := "java/lang/IllegalStateException") (free := fun q => s.heap.size ≤ q) hw (fun q hq => hw.2.2.2 q hq) (x_rX E (As := [.int p2, .int p3]) (rest := []) (mx_X5_cell l hfl D I J O h0 n t b0 b1 hh ha ad s.heap.size p2 p3 x 2 h) blX (x_recv E hw.1 0 5 rfl rfl rfl) (x_pcX E hX rfl (va_P.part hw.1 [0, 1, 2, 3, 4, 5, 6, 7, 8, 9, 10, 11, 12, 13, 14, 15, 16, 17, 18, 19, 20, 21, 22, 23, 24, 25, 26] rfl)) ok_X5_cell q635 rfl hl.1 rfl (Nat.le_of_ble_eq_true rfl) ⟨Nat.le_of_ble_eq_true rfl, Nat.le_of_ble_eq_true rfl⟩ ⟨Nat.le_of_ble_eq_true rfl, Nat.le_of_ble_eq_true rfl⟩ dL_call_177) (fun ce q9 H locs hw hce hcv hcl => ?_)
                                    refine vx_catch (own := RL) (name := "java/lang/IllegalStateException") E.2.2.2.1 [(⟨0, 269, 270, 74⟩ : ExceptionTableEntry), (⟨0, 269, 275, 76⟩ : ExceptionTableEntry)] (⟨0, 269, 280, 78⟩ : ExceptionTableEntry) [] (htab.trans rfl) (fun z hz => by rcases List.mem_cons.mp hz with rfl | hz; exact Or.inr ⟨by decide, _, E.2.2.2.2.1 _ q448, hX.2.2.2.1.2.2⟩; rcases List.mem_cons.mp hz with rfl | hz; exact Or.inr ⟨by decide, _, E.2.2.2.2.1 _ q449, hX.2.2.2.1.1⟩; cases hz) (by decide) (by decide) (E.2.2.2.2.1 _ q450) (va_Nw.use rfl hX.2.2.1.2.1) hce hcv hcl ?_
                                    refine lv_astore (lv' := [(5, .ref q9), (0, .ref h0), (1, .int p1), (2, .int p2), (3, .int p3), (4, .int p4)]) hx hb dL_call_280 hl (by decide) rfl (fun ls hl => ?_)
                                    refine lv_bipush (v := (-13)) hx hb dL_call_282 (by decide) ?_
                                    obtain ⟨he0, hr⟩ := Prod.mk.inj (Option.some.inj hf)
                                    have he1 := hr
                                    subst he1
                                    refine W.widen (k := 1) (n := 6) (by decide) (by decide) ?_
                                    exact x_iM E ad hw he0 dL_call_284
                                  · rw [if_neg hq] at hf
                                    cases hf
                        · rw [if_pos hc] at hf
                          refine lv_aload_n hx hb dL_call_160 rfl (lv_at hl 0 rfl) ?_
                          refine lv_iload_n hx hb dL_call_161 rfl (lv_at hl 2 rfl) ?_
                          rcases ct_s hf with ⟨z10, h, hf⟩ | ⟨ex, h, hf⟩
                          · refine x_ci (x_rV E (As := [.int p2]) (rest := []) (mt_X5_at l D I J O h0 n t b0 b1 hh ha ad p2 x z10 h) blR (x_recv E hw.1 0 5 rfl rfl rfl) (x_pcR E hw.1) ok_X5_at q371 rfl hl.1 rfl (Nat.le_of_ble_eq_true rfl) ⟨Nat.le_of_ble_eq_true rfl, Nat.le_of_ble_eq_true rfl⟩ ⟨Nat.le_of_ble_eq_true rfl, Nat.le_of_ble_eq_true rfl⟩ dL_call_162) ?_
                            refine lv_goto (tgt := 269) hx hb dL_call_165 (by decide) ?_
                            obtain ⟨he0, hr⟩ := Prod.mk.inj (Option.some.inj hf)
                            have he1 := hr
                            subst he1
                            refine W.widen (k := 1) (n := 6) (by decide) (by decide) ?_
                            exact x_iM E ad hw he0 dL_call_269
                          · by_cases hq : ex = 3
                            · rw [if_pos hq] at hf
                              subst hq
                              refine x_cX (en := "java/lang/IndexOutOfBoundsException") (free := fun q => s.heap.size ≤ q) hw (fun q hq => hw.2.2.2 q hq) (x_rX E (As := [.int p2]) (rest := []) (mx_X5_at l hfl D I J O h0 n t b0 b1 hh ha ad s.heap.size p2 x 3 h) blX (x_recv E hw.1 0 5 rfl rfl rfl) (x_pcX E hX rfl (va_P.part hw.1 [0, 1, 2, 3, 4, 5, 6, 7, 8, 9, 10, 11, 12, 13, 14, 15, 16, 17, 18, 19, 20, 21, 22, 23, 24, 25, 26] rfl)) ok_X5_at q371 rfl hl.1 rfl (Nat.le_of_ble_eq_true rfl) ⟨Nat.le_of_ble_eq_true rfl, Nat.le_of_ble_eq_true rfl⟩ ⟨Nat.le_of_ble_eq_true rfl, Nat.le_of_ble_eq_true rfl⟩ dL_call_162) (fun ce q9 H locs hw hce hcv hcl => ?_)
                              refine vx_catch (own := RL) (name := "java/lang/IndexOutOfBoundsException") E.2.2.2.1 [] (⟨0, 269, 270, 74⟩ : ExceptionTableEntry) [(⟨0, 269, 275, 76⟩ : ExceptionTableEntry), (⟨0, 269, 280, 78⟩ : ExceptionTableEntry)] (htab.trans rfl) (fun z hz => nomatch hz) (by decide) (by decide) (E.2.2.2.2.1 _ q448) (va_Nw.use rfl hX.2.2.1.2.2) hce hcv hcl ?_
                              refine lv_astore (lv' := [(5, .ref q9), (0, .ref h0), (1, .int p1), (2, .int p2), (3, .int p3), (4, .int p4)]) hx hb dL_call_270 hl (by decide) rfl (fun ls hl => ?_)
                              refine lv_bipush (v := (-11)) hx hb dL_call_272 (by decide) ?_
                              obtain ⟨he0, hr⟩ := Prod.mk.inj (Option.some.inj hf)
                              have he1 := hr
                              subst he1
                              refine W.widen (k := 1) (n := 6) (by decide) (by decide) ?_
                              exact x_iM E ad hw he0 dL_call_274
                            · rw [if_neg hq] at hf
                              by_cases hq : ex = 1
                              · rw [if_pos hq] at hf
                                subst hq
                                refine x_cX (en := "java/lang/IllegalArgumentException") (free := fun q => s.heap.size ≤ q) hw (fun q hq => hw.2.2.2 q hq) (x_rX E (As := [.int p2]) (rest := []) (mx_X5_at l hfl D I J O h0 n t b0 b1 hh ha ad s.heap.size p2 x 1 h) blX (x_recv E hw.1 0 5 rfl rfl rfl) (x_pcX E hX rfl (va_P.part hw.1 [0, 1, 2, 3, 4, 5, 6, 7, 8, 9, 10, 11, 12, 13, 14, 15, 16, 17, 18, 19, 20, 21, 22, 23, 24, 25, 26] rfl)) ok_X5_at q371 rfl hl.1 rfl (Nat.le_of_ble_eq_true rfl) ⟨Nat.le_of_ble_eq_true rfl, Nat.le_of_ble_eq_true rfl⟩ ⟨Nat.le_of_ble_eq_true rfl, Nat.le_of_ble_eq_true rfl⟩ dL_call_162) (fun ce q9 H locs hw hce hcv hcl => ?_)
                                refine vx_catch (own := RL) (name := "java/lang/IllegalArgumentException") E.2.2.2.1 [(⟨0, 269, 270, 74⟩ : ExceptionTableEntry)] (⟨0, 269, 275, 76⟩ : ExceptionTableEntry) [(⟨0, 269, 280, 78⟩ : ExceptionTableEntry)] (htab.trans rfl) (fun z hz => by rcases List.mem_cons.mp hz with rfl | hz; exact Or.inr ⟨by decide, _, E.2.2.2.2.1 _ q448, hX.2.2.2.1.2.1⟩; cases hz) (by decide) (by decide) (E.2.2.2.2.1 _ q449) (va_Nw.use rfl hX.2.2.1.1) hce hcv hcl ?_
                                refine lv_astore (lv' := [(5, .ref q9), (0, .ref h0), (1, .int p1), (2, .int p2), (3, .int p3), (4, .int p4)]) hx hb dL_call_275 hl (by decide) rfl (fun ls hl => ?_)
                                refine lv_bipush (v := (-12)) hx hb dL_call_277 (by decide) ?_
                                obtain ⟨he0, hr⟩ := Prod.mk.inj (Option.some.inj hf)
                                have he1 := hr
                                subst he1
                                refine W.widen (k := 1) (n := 6) (by decide) (by decide) ?_
                                exact x_iM E ad hw he0 dL_call_279
                              · rw [if_neg hq] at hf
                                by_cases hq : ex = 2
                                · rw [if_pos hq] at hf
                                  subst hq
                                  refine x_cX (en := "java/lang/IllegalStateException") (free := fun q => s.heap.size ≤ q) hw (fun q hq => hw.2.2.2 q hq) (x_rX E (As := [.int p2]) (rest := []) (mx_X5_at l hfl D I J O h0 n t b0 b1 hh ha ad s.heap.size p2 x 2 h) blX (x_recv E hw.1 0 5 rfl rfl rfl) (x_pcX E hX rfl (va_P.part hw.1 [0, 1, 2, 3, 4, 5, 6, 7, 8, 9, 10, 11, 12, 13, 14, 15, 16, 17, 18, 19, 20, 21, 22, 23, 24, 25, 26] rfl)) ok_X5_at q371 rfl hl.1 rfl (Nat.le_of_ble_eq_true rfl) ⟨Nat.le_of_ble_eq_true rfl, Nat.le_of_ble_eq_true rfl⟩ ⟨Nat.le_of_ble_eq_true rfl, Nat.le_of_ble_eq_true rfl⟩ dL_call_162) (fun ce q9 H locs hw hce hcv hcl => ?_)
                                  refine vx_catch (own := RL) (name := "java/lang/IllegalStateException") E.2.2.2.1 [(⟨0, 269, 270, 74⟩ : ExceptionTableEntry), (⟨0, 269, 275, 76⟩ : ExceptionTableEntry)] (⟨0, 269, 280, 78⟩ : ExceptionTableEntry) [] (htab.trans rfl) (fun z hz => by rcases List.mem_cons.mp hz with rfl | hz; exact Or.inr ⟨by decide, _, E.2.2.2.2.1 _ q448, hX.2.2.2.1.2.2⟩; rcases List.mem_cons.mp hz with rfl | hz; exact Or.inr ⟨by decide, _, E.2.2.2.2.1 _ q449, hX.2.2.2.1.1⟩; cases hz) (by decide) (by decide) (E.2.2.2.2.1 _ q450) (va_Nw.use rfl hX.2.2.1.2.1) hce hcv hcl ?_
                                  refine lv_astore (lv' := [(5, .ref q9), (0, .ref h0), (1, .int p1), (2, .int p2), (3, .int p3), (4, .int p4)]) hx hb dL_call_280 hl (by decide) rfl (fun ls hl => ?_)
                                  refine lv_bipush (v := (-13)) hx hb dL_call_282 (by decide) ?_
                                  obtain ⟨he0, hr⟩ := Prod.mk.inj (Option.some.inj hf)
                                  have he1 := hr
                                  subst he1
                                  refine W.widen (k := 1) (n := 6) (by decide) (by decide) ?_
                                  exact x_iM E ad hw he0 dL_call_284
                                · rw [if_neg hq] at hf
                                  cases hf
                      · rw [if_pos hc] at hf
                        refine lv_aload_n hx hb dL_call_145 rfl (lv_at hl 0 rfl) ?_
                        refine lv_iload_n hx hb dL_call_146 rfl (lv_at hl 2 rfl) ?_
                        refine lv_iload_n hx hb dL_call_147 rfl (lv_at hl 3 rfl) ?_
                        rcases ct_s hf with ⟨z11, h, hf⟩ | ⟨ex, h, hf⟩
                        · refine x_ci (x_rV E (As := [.int p2, .int p3]) (rest := []) (mt_X5_thing l D I J O h0 n t b0 b1 hh ha ad p2 p3 x z11 h) blR (x_recv E hw.1 0 5 rfl rfl rfl) (x_pcR E hw.1) ok_X5_thing q622 rfl hl.1 rfl (Nat.le_of_ble_eq_true rfl) ⟨Nat.le_of_ble_eq_true rfl, Nat.le_of_ble_eq_true rfl⟩ ⟨Nat.le_of_ble_eq_true rfl, Nat.le_of_ble_eq_true rfl⟩ dL_call_148) ?_
                          refine lv_goto (tgt := 269) hx hb dL_call_151 (by decide) ?_
                          obtain ⟨he0, hr⟩ := Prod.mk.inj (Option.some.inj hf)
                          have he1 := hr
                          subst he1
                          refine W.widen (k := 1) (n := 6) (by decide) (by decide) ?_
                          exact x_iM E ad hw he0 dL_call_269
                        · by_cases hq : ex = 3
                          · rw [if_pos hq] at hf
                            subst hq
                            refine x_cX (en := "java/lang/IndexOutOfBoundsException") (free := fun q => s.heap.size ≤ q) hw (fun q hq => hw.2.2.2 q hq) (x_rX E (As := [.int p2, .int p3]) (rest := []) (mx_X5_thing l hfl D I J O h0 n t b0 b1 hh ha ad s.heap.size p2 p3 x 3 h) blX (x_recv E hw.1 0 5 rfl rfl rfl) (x_pcX E hX rfl (va_P.part hw.1 [0, 1, 2, 3, 4, 5, 6, 7, 8, 9, 10, 11, 12, 13, 14, 15, 16, 17, 18, 19, 20, 21, 22, 23, 24, 25, 26] rfl)) ok_X5_thing q622 rfl hl.1 rfl (Nat.le_of_ble_eq_true rfl) ⟨Nat.le_of_ble_eq_true rfl, Nat.le_of_ble_eq_true rfl⟩ ⟨Nat.le_of_ble_eq_true rfl, Nat.le_of_ble_eq_true rfl⟩ dL_call_148) (fun ce q9 H locs hw hce hcv hcl => ?_)
                            refine vx_catch (own := RL) (name := "java/lang/IndexOutOfBoundsException") E.2.2.2.1 [] (⟨0, 269, 270, 74⟩ : ExceptionTableEntry) [(⟨0, 269, 275, 76⟩ : ExceptionTableEntry), (⟨0, 269, 280, 78⟩ : ExceptionTableEntry)] (htab.trans rfl) (fun z hz => nomatch hz) (by decide) (by decide) (E.2.2.2.2.1 _ q448) (va_Nw.use rfl hX.2.2.1.2.2) hce hcv hcl ?_
                            refine lv_astore (lv' := [(5, .ref q9), (0, .ref h0), (1, .int p1), (2, .int p2), (3, .int p3), (4, .int p4)]) hx hb dL_call_270 hl (by decide) rfl (fun ls hl => ?_)
                            refine lv_bipush (v := (-11)) hx hb dL_call_272 (by decide) ?_
                            obtain ⟨he0, hr⟩ := Prod.mk.inj (Option.some.inj hf)
                            have he1 := hr
                            subst he1
                            refine W.widen (k := 1) (n := 6) (by decide) (by decide) ?_
                            exact x_iM E ad hw he0 dL_call_274
                          · rw [if_neg hq] at hf
                            by_cases hq : ex = 1
                            · rw [if_pos hq] at hf
                              subst hq
                              refine x_cX (en := "java/lang/IllegalArgumentException") (free := fun q => s.heap.size ≤ q) hw (fun q hq => hw.2.2.2 q hq) (x_rX E (As := [.int p2, .int p3]) (rest := []) (mx_X5_thing l hfl D I J O h0 n t b0 b1 hh ha ad s.heap.size p2 p3 x 1 h) blX (x_recv E hw.1 0 5 rfl rfl rfl) (x_pcX E hX rfl (va_P.part hw.1 [0, 1, 2, 3, 4, 5, 6, 7, 8, 9, 10, 11, 12, 13, 14, 15, 16, 17, 18, 19, 20, 21, 22, 23, 24, 25, 26] rfl)) ok_X5_thing q622 rfl hl.1 rfl (Nat.le_of_ble_eq_true rfl) ⟨Nat.le_of_ble_eq_true rfl, Nat.le_of_ble_eq_true rfl⟩ ⟨Nat.le_of_ble_eq_true rfl, Nat.le_of_ble_eq_true rfl⟩ dL_call_148) (fun ce q9 H locs hw hce hcv hcl => ?_)
                              refine vx_catch (own := RL) (name := "java/lang/IllegalArgumentException") E.2.2.2.1 [(⟨0, 269, 270, 74⟩ : ExceptionTableEntry)] (⟨0, 269, 275, 76⟩ : ExceptionTableEntry) [(⟨0, 269, 280, 78⟩ : ExceptionTableEntry)] (htab.trans rfl) (fun z hz => by rcases List.mem_cons.mp hz with rfl | hz; exact Or.inr ⟨by decide, _, E.2.2.2.2.1 _ q448, hX.2.2.2.1.2.1⟩; cases hz) (by decide) (by decide) (E.2.2.2.2.1 _ q449) (va_Nw.use rfl hX.2.2.1.1) hce hcv hcl ?_
                              refine lv_astore (lv' := [(5, .ref q9), (0, .ref h0), (1, .int p1), (2, .int p2), (3, .int p3), (4, .int p4)]) hx hb dL_call_275 hl (by decide) rfl (fun ls hl => ?_)
                              refine lv_bipush (v := (-12)) hx hb dL_call_277 (by decide) ?_
                              obtain ⟨he0, hr⟩ := Prod.mk.inj (Option.some.inj hf)
                              have he1 := hr
                              subst he1
                              refine W.widen (k := 1) (n := 6) (by decide) (by decide) ?_
                              exact x_iM E ad hw he0 dL_call_279
                            · rw [if_neg hq] at hf
                              by_cases hq : ex = 2
                              · rw [if_pos hq] at hf
                                subst hq
                                refine x_cX (en := "java/lang/IllegalStateException") (free := fun q => s.heap.size ≤ q) hw (fun q hq => hw.2.2.2 q hq) (x_rX E (As := [.int p2, .int p3]) (rest := []) (mx_X5_thing l hfl D I J O h0 n t b0 b1 hh ha ad s.heap.size p2 p3 x 2 h) blX (x_recv E hw.1 0 5 rfl rfl rfl) (x_pcX E hX rfl (va_P.part hw.1 [0, 1, 2, 3, 4, 5, 6, 7, 8, 9, 10, 11, 12, 13, 14, 15, 16, 17, 18, 19, 20, 21, 22, 23, 24, 25, 26] rfl)) ok_X5_thing q622 rfl hl.1 rfl (Nat.le_of_ble_eq_true rfl) ⟨Nat.le_of_ble_eq_true rfl, Nat.le_of_ble_eq_true rfl⟩ ⟨Nat.le_of_ble_eq_true rfl, Nat.le_of_ble_eq_true rfl⟩ dL_call_148) (fun ce q9 H locs hw hce hcv hcl => ?_)
                                refine vx_catch (own := RL) (name := "java/lang/IllegalStateException") E.2.2.2.1 [(⟨0, 269, 270, 74⟩ : ExceptionTableEntry), (⟨0, 269, 275, 76⟩ : ExceptionTableEntry)] (⟨0, 269, 280, 78⟩ : ExceptionTableEntry) [] (htab.trans rfl) (fun z hz => by rcases List.mem_cons.mp hz with rfl | hz; exact Or.inr ⟨by decide, _, E.2.2.2.2.1 _ q448, hX.2.2.2.1.2.2⟩; rcases List.mem_cons.mp hz with rfl | hz; exact Or.inr ⟨by decide, _, E.2.2.2.2.1 _ q449, hX.2.2.2.1.1⟩; cases hz) (by decide) (by decide) (E.2.2.2.2.1 _ q450) (va_Nw.use rfl hX.2.2.1.2.1) hce hcv hcl ?_
                                refine lv_astore (lv' := [(5, .ref q9), (0, .ref h0), (1, .int p1), (2, .int p2), (3, .int p3), (4, .int p4)]) hx hb dL_call_280 hl (by decide) rfl (fun ls hl => ?_)
                                refine lv_bipush (v := (-13)) hx hb dL_call_282 (by decide) ?_
                                obtain ⟨he0, hr⟩ := Prod.mk.inj (Option.some.inj hf)
                                have he1 := hr
                                subst he1
                                refine W.widen (k := 1) (n := 6) (by decide) (by decide) ?_
                                exact x_iM E ad hw he0 dL_call_284
                              · rw [if_neg hq] at hf
                                cases hf
                    · rw [if_pos hc] at hf
                      refine lv_aload_n hx hb dL_call_132 rfl (lv_at hl 0 rfl) ?_
                      rcases ct_s hf with ⟨z12, h, hf⟩ | ⟨ex, h, hf⟩
                      · refine x_miFP0 hw (x_rV E (As := []) (rest := []) (mt_X5_undo l D I J O h0 n t b0 b1 hh ha ad s.heap.size x z12.1 z12.2 h) blM (x_recv E hw.1 0 5 rfl rfl rfl) (x_pcMPF0 E hw) ok_X5_undo q291 rfl hl.1 rfl (Nat.le_of_ble_eq_true rfl) ⟨Nat.le_of_ble_eq_true rfl, Nat.le_of_ble_eq_true rfl⟩ ⟨Nat.le_of_ble_eq_true rfl, Nat.le_of_ble_eq_true rfl⟩ dL_call_133) (fun _ => rfl) (fun ad13 H locs hw => ?_)
                        have hw : fy D (va_A ws0 sz) s.heap H locs (wCl I h0 n t b0 b1 hh z12.2 ++ wHi I O hh ha ad13 z12.2.2.2.1) := hw
                        refine lv_goto (tgt := 269) hx hb dL_call_136 (by decide) ?_
                        obtain ⟨he0, hr⟩ := Prod.mk.inj (Option.some.inj hf)
                        have he1 := hr
                        subst he1
                        refine W.widen (k := 1) (n := 6) (by decide) (by decide) ?_
                        exact x_iM E ad13 hw he0 dL_call_269
                      · by_cases hq : ex = 3
                        · rw [if_pos hq] at hf
                          subst hq
                          refine x_cX (en := "java/lang/IndexOutOfBoundsException") (free := fun q => s.heap.size ≤ q) hw (fun q hq => hw.2.2.2 q hq) (x_rX E (As := []) (rest := []) (mx_X5_undo l hfl D I J O h0 n t b0 b1 hh ha ad s.heap.size x 3 h) blX (x_recv E hw.1 0 5 rfl rfl rfl) (x_pcX E hX rfl (va_P.part hw.1 [0, 1, 2, 3, 4, 5, 6, 7, 8, 9, 10, 11, 12, 13, 14, 15, 16, 17, 18, 19, 20, 21, 22, 23, 24, 25, 26] rfl)) ok_X5_undo q291 rfl hl.1 rfl (Nat.le_of_ble_eq_true rfl) ⟨Nat.le_of_ble_eq_true rfl, Nat.le_of_ble_eq_true rfl⟩ ⟨Nat.le_of_ble_eq_true rfl, Nat.le_of_ble_eq_true rfl⟩ dL_call_133) (fun ce q9 H locs hw hce hcv hcl => ?_)
                          refine vx_catch (own := RL) (name := "java/lang/IndexOutOfBoundsException") E.2.2.2.1 [] (⟨0, 269, 270, 74⟩ : ExceptionTableEntry) [(⟨0, 269, 275, 76⟩ : ExceptionTableEntry), (⟨0, 269, 280, 78⟩ : ExceptionTableEntry)] (htab.trans rfl) (fun z hz => nomatch hz) (by decide) (by decide) (E.2.2.2.2.1 _ q448) (va_Nw.use rfl hX.2.2.1.2.2) hce hcv hcl ?_
                          refine lv_astore (lv' := [(5, .ref q9), (0, .ref h0), (1, .int p1), (2, .int p2), (3, .int p3), (4, .int p4)]) hx hb dL_call_270 hl (by decide) rfl (fun ls hl => ?_)
                          refine lv_bipush (v := (-11)) hx hb dL_call_272 (by decide) ?_
                          obtain ⟨he0, hr⟩ := Prod.mk.inj (Option.some.inj hf)
                          have he1 := hr
                          subst he1
                          refine W.widen (k := 1) (n := 6) (by decide) (by decide) ?_
                          exact x_iM E ad hw he0 dL_call_274
                        · rw [if_neg hq] at hf
                          by_cases hq : ex = 1
                          · rw [if_pos hq] at hf
                            subst hq
                            refine x_cX (en := "java/lang/IllegalArgumentException") (free := fun q => s.heap.size ≤ q) hw (fun q hq => hw.2.2.2 q hq) (x_rX E (As := []) (rest := []) (mx_X5_undo l hfl D I J O h0 n t b0 b1 hh ha ad s.heap.size x 1 h) blX (x_recv E hw.1 0 5 rfl rfl rfl) (x_pcX E hX rfl (va_P.part hw.1 [0, 1, 2, 3, 4, 5, 6, 7, 8, 9, 10, 11, 12, 13, 14, 15, 16, 17, 18, 19, 20, 21, 22, 23, 24, 25, 26] rfl)) ok_X5_undo q291 rfl hl.1 rfl (Nat.le_of_ble_eq_true rfl) ⟨Nat.le_of_ble_eq_true rfl, Nat.le_of_ble_eq_true rfl⟩ ⟨Nat.le_of_ble_eq_true rfl, Nat.le_of_ble_eq_true rfl⟩ dL_call_133) (fun ce q9 H locs hw hce hcv hcl => ?_)
                            refine vx_catch (own := RL) (name := "java/lang/IllegalArgumentException") E.2.2.2.1 [(⟨0, 269, 270, 74⟩ : ExceptionTableEntry)] (⟨0, 269, 275, 76⟩ : ExceptionTableEntry) [(⟨0, 269, 280, 78⟩ : ExceptionTableEntry)] (htab.trans rfl) (fun z hz => by rcases List.mem_cons.mp hz with rfl | hz; exact Or.inr ⟨by decide, _, E.2.2.2.2.1 _ q448, hX.2.2.2.1.2.1⟩; cases hz) (by decide) (by decide) (E.2.2.2.2.1 _ q449) (va_Nw.use rfl hX.2.2.1.1) hce hcv hcl ?_
                            refine lv_astore (lv' := [(5, .ref q9), (0, .ref h0), (1, .int p1), (2, .int p2), (3, .int p3), (4, .int p4)]) hx hb dL_call_275 hl (by decide) rfl (fun ls hl => ?_)
                            refine lv_bipush (v := (-12)) hx hb dL_call_277 (by decide) ?_
                            obtain ⟨he0, hr⟩ := Prod.mk.inj (Option.some.inj hf)
                            have he1 := hr
                            subst he1
                            refine W.widen (k := 1) (n := 6) (by decide) (by decide) ?_
                            exact x_iM E ad hw he0 dL_call_279
                          · rw [if_neg hq] at hf
                            by_cases hq : ex = 2
                            · rw [if_pos hq] at hf
                              subst hq
                              refine x_cX (en := "java/lang/IllegalStateException") (free := fun q => s.heap.size ≤ q) hw (fun q hq => hw.2.2.2 q hq) (x_rX E (As := []) (rest := []) (mx_X5_undo l hfl D I J O h0 n t b0 b1 hh ha ad s.heap.size x 2 h) blX (x_recv E hw.1 0 5 rfl rfl rfl) (x_pcX E hX rfl (va_P.part hw.1 [0, 1, 2, 3, 4, 5, 6, 7, 8, 9, 10, 11, 12, 13, 14, 15, 16, 17, 18, 19, 20, 21, 22, 23, 24, 25, 26] rfl)) ok_X5_undo q291 rfl hl.1 rfl (Nat.le_of_ble_eq_true rfl) ⟨Nat.le_of_ble_eq_true rfl, Nat.le_of_ble_eq_true rfl⟩ ⟨Nat.le_of_ble_eq_true rfl, Nat.le_of_ble_eq_true rfl⟩ dL_call_133) (fun ce q9 H locs hw hce hcv hcl => ?_)
                              refine vx_catch (own := RL) (name := "java/lang/IllegalStateException") E.2.2.2.1 [(⟨0, 269, 270, 74⟩ : ExceptionTableEntry), (⟨0, 269, 275, 76⟩ : ExceptionTableEntry)] (⟨0, 269, 280, 78⟩ : ExceptionTableEntry) [] (htab.trans rfl) (fun z hz => by rcases List.mem_cons.mp hz with rfl | hz; exact Or.inr ⟨by decide, _, E.2.2.2.2.1 _ q448, hX.2.2.2.1.2.2⟩; rcases List.mem_cons.mp hz with rfl | hz; exact Or.inr ⟨by decide, _, E.2.2.2.2.1 _ q449, hX.2.2.2.1.1⟩; cases hz) (by decide) (by decide) (E.2.2.2.2.1 _ q450) (va_Nw.use rfl hX.2.2.1.2.1) hce hcv hcl ?_
                              refine lv_astore (lv' := [(5, .ref q9), (0, .ref h0), (1, .int p1), (2, .int p2), (3, .int p3), (4, .int p4)]) hx hb dL_call_280 hl (by decide) rfl (fun ls hl => ?_)
                              refine lv_bipush (v := (-13)) hx hb dL_call_282 (by decide) ?_
                              obtain ⟨he0, hr⟩ := Prod.mk.inj (Option.some.inj hf)
                              have he1 := hr
                              subst he1
                              refine W.widen (k := 1) (n := 6) (by decide) (by decide) ?_
                              exact x_iM E ad hw he0 dL_call_284
                            · rw [if_neg hq] at hf
                              cases hf
                  · rw [if_pos hc] at hf
                    refine lv_aload_n hx hb dL_call_119 rfl (lv_at hl 0 rfl) ?_
                    rcases ct_s hf with ⟨z14, h, hf⟩ | ⟨ex, h, hf⟩
                    · refine x_miFP0 hw (x_rV E (As := []) (rest := []) (mt_X5_putAll l D I J O h0 n t b0 b1 hh ha ad s.heap.size x z14.1 z14.2 h) blM (x_recv E hw.1 0 5 rfl rfl rfl) (x_pcMPF0 E hw) ok_X5_putAll q577 rfl hl.1 rfl (Nat.le_of_ble_eq_true rfl) ⟨Nat.le_of_ble_eq_true rfl, Nat.le_of_ble_eq_true rfl⟩ ⟨Nat.le_of_ble_eq_true rfl, Nat.le_of_ble_eq_true rfl⟩ dL_call_120) (fun _ => rfl) (fun ad15 H locs hw => ?_)
                      have hw : fy D (va_A ws0 sz) s.heap H locs (wCl I h0 n t b0 b1 hh z14.2 ++ wHi I O hh ha ad15 z14.2.2.2.1) := hw
                      refine lv_goto (tgt := 269) hx hb dL_call_123 (by decide) ?_
                      obtain ⟨he0, hr⟩ := Prod.mk.inj (Option.some.inj hf)
                      have he1 := hr
                      subst he1
                      refine W.widen (k := 1) (n := 6) (by decide) (by decide) ?_
                      exact x_iM E ad15 hw he0 dL_call_269
                    · by_cases hq : ex = 3
                      · rw [if_pos hq] at hf
                        subst hq
                        refine x_cX (en := "java/lang/IndexOutOfBoundsException") (free := fun q => s.heap.size ≤ q) hw (fun q hq => hw.2.2.2 q hq) (x_rX E (As := []) (rest := []) (mx_X5_putAll l hfl D I J O h0 n t b0 b1 hh ha ad s.heap.size x 3 h) blX (x_recv E hw.1 0 5 rfl rfl rfl) (x_pcX E hX rfl (va_P.part hw.1 [0, 1, 2, 3, 4, 5, 6, 7, 8, 9, 10, 11, 12, 13, 14, 15, 16, 17, 18, 19, 20, 21, 22, 23, 24, 25, 26] rfl)) ok_X5_putAll q577 rfl hl.1 rfl (Nat.le_of_ble_eq_true rfl) ⟨Nat.le_of_ble_eq_true rfl, Nat.le_of_ble_eq_true rfl⟩ ⟨Nat.le_of_ble_eq_true rfl, Nat.le_of_ble_eq_true rfl⟩ dL_call_120) (fun ce q9 H locs hw hce hcv hcl => ?_)
                        refine vx_catch (own := RL) (name := "java/lang/IndexOutOfBoundsException") E.2.2.2.1 [] (⟨0, 269, 270, 74⟩ : ExceptionTableEntry) [(⟨0, 269, 275, 76⟩ : ExceptionTableEntry), (⟨0, 269, 280, 78⟩ : ExceptionTableEntry)] (htab.trans rfl) (fun z hz => nomatch hz) (by decide) (by decide) (E.2.2.2.2.1 _ q448) (va_Nw.use rfl hX.2.2.1.2.2) hce hcv hcl ?_
                        refine lv_astore (lv' := [(5, .ref q9), (0, .ref h0), (1, .int p1), (2, .int p2), (3, .int p3), (4, .int p4)]) hx hb dL_call_270 hl (by decide) rfl (fun ls hl => ?_)
                        refine lv_bipush (v := (-11)) hx hb dL_call_272 (by decide) ?_
                        obtain ⟨he0, hr⟩ := Prod.mk.inj (Option.some.inj hf)
                        have he1 := hr
                        subst he1
                        refine W.widen (k := 1) (n := 6) (by decide) (by decide) ?_
                        exact x_iM E ad hw he0 dL_call_274
                      · rw [if_neg hq] at hf
                        by_cases hq : ex = 1
                        · rw [if_pos hq] at hf
                          subst hq
                          refine x_cX (en := "java/lang/IllegalArgumentException") (free := fun q => s.heap.size ≤ q) hw (fun q hq => hw.2.2.2 q hq) (x_rX E (As := []) (rest := []) (mx_X5_putAll l hfl D I J O h0 n t b0 b1 hh ha ad s.heap.size x 1 h) blX (x_recv E hw.1 0 5 rfl rfl rfl) (x_pcX E hX rfl (va_P.part hw.1 [0, 1, 2, 3, 4, 5, 6, 7, 8, 9, 10, 11, 12, 13, 14, 15, 16, 17, 18, 19, 20, 21, 22, 23, 24, 25, 26] rfl)) ok_X5_putAll q577 rfl hl.1 rfl (Nat.le_of_ble_eq_true rfl) ⟨Nat.le_of_ble_eq_true rfl, Nat.le_of_ble_eq_true rfl⟩ ⟨Nat.le_of_ble_eq_true rfl, Nat.le_of_ble_eq_true rfl⟩ dL_call_120) (fun ce q9 H locs hw hce hcv hcl => ?_)
                          refine vx_catch (own := RL) (name := "java/lang/IllegalArgumentException") E.2.2.2.1 [(⟨0, 269, 270, 74⟩ : ExceptionTableEntry)] (⟨0, 269, 275, 76⟩ : ExceptionTableEntry) [(⟨0, 269, 280, 78⟩ : ExceptionTableEntry)] (htab.trans rfl) (fun z hz => by rcases List.mem_cons.mp hz with rfl | hz; exact Or.inr ⟨by decide, _, E.2.2.2.2.1 _ q448, hX.2.2.2.1.2.1⟩; cases hz) (by decide) (by decide) (E.2.2.2.2.1 _ q449) (va_Nw.use rfl hX.2.2.1.1) hce hcv hcl ?_
                          refine lv_astore (lv' := [(5, .ref q9), (0, .ref h0), (1, .int p1), (2, .int p2), (3, .int p3), (4, .int p4)]) hx hb dL_call_275 hl (by decide) rfl (fun ls hl => ?_)
                          refine lv_bipush (v := (-12)) hx hb dL_call_277 (by decide) ?_
                          obtain ⟨he0, hr⟩ := Prod.mk.inj (Option.some.inj hf)
                          have he1 := hr
                          subst he1
                          refine W.widen (k := 1) (n := 6) (by decide) (by decide) ?_
                          exact x_iM E ad hw he0 dL_call_279
                        · rw [if_neg hq] at hf
                          by_cases hq : ex = 2
                          · rw [if_pos hq] at hf
                            subst hq
                            refine x_cX (en := "java/lang/IllegalStateException") (free := fun q => s.heap.size ≤ q) hw (fun q hq => hw.2.2.2 q hq) (x_rX E (As := []) (rest := []) (mx_X5_putAll l hfl D I J O h0 n t b0 b1 hh ha ad s.heap.size x 2 h) blX (x_recv E hw.1 0 5 rfl rfl rfl) (x_pcX E hX rfl (va_P.part hw.1 [0, 1, 2, 3, 4, 5, 6, 7, 8, 9, 10, 11, 12, 13, 14, 15, 16, 17, 18, 19, 20, 21, 22, 23, 24, 25, 26] rfl)) ok_X5_putAll q577 rfl hl.1 rfl (Nat.le_of_ble_eq_true rfl) ⟨Nat.le_of_ble_eq_true rfl, Nat.le_of_ble_eq_true rfl⟩ ⟨Nat.le_of_ble_eq_true rfl, Nat.le_of_ble_eq_true rfl⟩ dL_call_120) (fun ce q9 H locs hw hce hcv hcl => ?_)
                            refine vx_catch (own := RL) (name := "java/lang/IllegalStateException") E.2.2.2.1 [(⟨0, 269, 270, 74⟩ : ExceptionTableEntry), (⟨0, 269, 275, 76⟩ : ExceptionTableEntry)] (⟨0, 269, 280, 78⟩ : ExceptionTableEntry) [] (htab.trans rfl) (fun z hz => by rcases List.mem_cons.mp hz with rfl | hz; exact Or.inr ⟨by decide, _, E.2.2.2.2.1 _ q448, hX.2.2.2.1.2.2⟩; rcases List.mem_cons.mp hz with rfl | hz; exact Or.inr ⟨by decide, _, E.2.2.2.2.1 _ q449, hX.2.2.2.1.1⟩; cases hz) (by decide) (by decide) (E.2.2.2.2.1 _ q450) (va_Nw.use rfl hX.2.2.1.2.1) hce hcv hcl ?_
                            refine lv_astore (lv' := [(5, .ref q9), (0, .ref h0), (1, .int p1), (2, .int p2), (3, .int p3), (4, .int p4)]) hx hb dL_call_280 hl (by decide) rfl (fun ls hl => ?_)
                            refine lv_bipush (v := (-13)) hx hb dL_call_282 (by decide) ?_
                            obtain ⟨he0, hr⟩ := Prod.mk.inj (Option.some.inj hf)
                            have he1 := hr
                            subst he1
                            refine W.widen (k := 1) (n := 6) (by decide) (by decide) ?_
                            exact x_iM E ad hw he0 dL_call_284
                          · rw [if_neg hq] at hf
                            cases hf
                · rw [if_pos hc] at hf
                  refine lv_aload_n hx hb dL_call_105 rfl (lv_at hl 0 rfl) ?_
                  refine lv_iload_n hx hb dL_call_106 rfl (lv_at hl 2 rfl) ?_
                  rcases ct_s hf with ⟨z16, h, hf⟩ | ⟨ex, h, hf⟩
                  · refine x_miFP0 hw (x_rV E (As := [.int p2]) (rest := []) (mt_X5_append l D I J O h0 n t b0 b1 hh ha ad s.heap.size p2 x z16.1 z16.2 h) blM (x_recv E hw.1 0 5 rfl rfl rfl) (x_pcMPF0 E hw) ok_X5_append q559 rfl hl.1 rfl (Nat.le_of_ble_eq_true rfl) ⟨Nat.le_of_ble_eq_true rfl, Nat.le_of_ble_eq_true rfl⟩ ⟨Nat.le_of_ble_eq_true rfl, Nat.le_of_ble_eq_true rfl⟩ dL_call_107) (fun _ => rfl) (fun ad17 H locs hw => ?_)
                    have hw : fy D (va_A ws0 sz) s.heap H locs (wCl I h0 n t b0 b1 hh z16.2 ++ wHi I O hh ha ad17 z16.2.2.2.1) := hw
                    refine lv_goto (tgt := 269) hx hb dL_call_110 (by decide) ?_
                    obtain ⟨he0, hr⟩ := Prod.mk.inj (Option.some.inj hf)
                    have he1 := hr
                    subst he1
                    refine W.widen (k := 1) (n := 6) (by decide) (by decide) ?_
                    exact x_iM E ad17 hw he0 dL_call_269
                  · by_cases hq : ex = 3
                    · rw [if_pos hq] at hf
                      subst hq
                      refine x_cX (en := "java/lang/IndexOutOfBoundsException") (free := fun q => s.heap.size ≤ q) hw (fun q hq => hw.2.2.2 q hq) (x_rX E (As := [.int p2]) (rest := []) (mx_X5_append l hfl D I J O h0 n t b0 b1 hh ha ad s.heap.size p2 x 3 h) blX (x_recv E hw.1 0 5 rfl rfl rfl) (x_pcX E hX rfl (va_P.part hw.1 [0, 1, 2, 3, 4, 5, 6, 7, 8, 9, 10, 11, 12, 13, 14, 15, 16, 17, 18, 19, 20, 21, 22, 23, 24, 25, 26] rfl)) ok_X5_append q559 rfl hl.1 rfl (Nat.le_of_ble_eq_true rfl) ⟨Nat.le_of_ble_eq_true rfl, Nat.le_of_ble_eq_true rfl⟩ ⟨Nat.le_of_ble_eq_true rfl, Nat.le_of_ble_eq_true rfl⟩ dL_call_107) (fun ce q9 H locs hw hce hcv hcl => ?_)
                      refine vx_catch (own := RL) (name := "java/lang/IndexOutOfBoundsException") E.2.2.2.1 [] (⟨0, 269, 270, 74⟩ : ExceptionTableEntry) [(⟨0, 269, 275, 76⟩ : ExceptionTableEntry), (⟨0, 269, 280, 78⟩ : ExceptionTableEntry)] (htab.trans rfl) (fun z hz => nomatch hz) (by decide) (by decide) (E.2.2.2.2.1 _ q448) (va_Nw.use rfl hX.2.2.1.2.2) hce hcv hcl ?_
                      refine lv_astore (lv' := [(5, .ref q9), (0, .ref h0), (1, .int p1), (2, .int p2), (3, .int p3), (4, .int p4)]) hx hb dL_call_270 hl (by decide) rfl (fun ls hl => ?_)
                      refine lv_bipush (v := (-11)) hx hb dL_call_272 (by decide) ?_
                      obtain ⟨he0, hr⟩ := Prod.mk.inj (Option.some.inj hf)
                      have he1 := hr
                      subst he1
                      refine W.widen (k := 1) (n := 6) (by decide) (by decide) ?_
                      exact x_iM E ad hw he0 dL_call_274
                    · rw [if_neg hq] at hf
                      by_cases hq : ex = 1
                      · rw [if_pos hq] at hf
                        subst hq
                        refine x_cX (en := "java/lang/IllegalArgumentException") (free := fun q => s.heap.size ≤ q) hw (fun q hq => hw.2.2.2 q hq) (x_rX E (As := [.int p2]) (rest := []) (mx_X5_append l hfl D I J O h0 n t b0 b1 hh ha ad s.heap.size p2 x 1 h) blX (x_recv E hw.1 0 5 rfl rfl rfl) (x_pcX E hX rfl (va_P.part hw.1 [0, 1, 2, 3, 4, 5, 6, 7, 8, 9, 10, 11, 12, 13, 14, 15, 16, 17, 18, 19, 20, 21, 22, 23, 24, 25, 26] rfl)) ok_X5_append q559 rfl hl.1 rfl (Nat.le_of_ble_eq_true rfl) ⟨Nat.le_of_ble_eq_true rfl, Nat.le_of_ble_eq_true rfl⟩ ⟨Nat.le_of_ble_eq_true rfl, Nat.le_of_ble_eq_true rfl⟩ dL_call_107) (fun ce q9 H locs hw hce hcv hcl => ?_)
                        refine vx_catch (own := RL) (name := "java/lang/IllegalArgumentException") E.2.2.2.1 [(⟨0, 269, 270, 74⟩ : ExceptionTableEntry)] (⟨0, 269, 275, 76⟩ : ExceptionTableEntry) [(⟨0, 269, 280, 78⟩ : ExceptionTableEntry)] (htab.trans rfl) (fun z hz => by rcases List.mem_cons.mp hz with rfl | hz; exact Or.inr ⟨by decide, _, E.2.2.2.2.1 _ q448, hX.2.2.2.1.2.1⟩; cases hz) (by decide) (by decide) (E.2.2.2.2.1 _ q449) (va_Nw.use rfl hX.2.2.1.1) hce hcv hcl ?_
                        refine lv_astore (lv' := [(5, .ref q9), (0, .ref h0), (1, .int p1), (2, .int p2), (3, .int p3), (4, .int p4)]) hx hb dL_call_275 hl (by decide) rfl (fun ls hl => ?_)
                        refine lv_bipush (v := (-12)) hx hb dL_call_277 (by decide) ?_
                        obtain ⟨he0, hr⟩ := Prod.mk.inj (Option.some.inj hf)
                        have he1 := hr
                        subst he1
                        refine W.widen (k := 1) (n := 6) (by decide) (by decide) ?_
                        exact x_iM E ad hw he0 dL_call_279
                      · rw [if_neg hq] at hf
                        by_cases hq : ex = 2
                        · rw [if_pos hq] at hf
                          subst hq
                          refine x_cX (en := "java/lang/IllegalStateException") (free := fun q => s.heap.size ≤ q) hw (fun q hq => hw.2.2.2 q hq) (x_rX E (As := [.int p2]) (rest := []) (mx_X5_append l hfl D I J O h0 n t b0 b1 hh ha ad s.heap.size p2 x 2 h) blX (x_recv E hw.1 0 5 rfl rfl rfl) (x_pcX E hX rfl (va_P.part hw.1 [0, 1, 2, 3, 4, 5, 6, 7, 8, 9, 10, 11, 12, 13, 14, 15, 16, 17, 18, 19, 20, 21, 22, 23, 24, 25, 26] rfl)) ok_X5_append q559 rfl hl.1 rfl (Nat.le_of_ble_eq_true rfl) ⟨Nat.le_of_ble_eq_true rfl, Nat.le_of_ble_eq_true rfl⟩ ⟨Nat.le_of_ble_eq_true rfl, Nat.le_of_ble_eq_true rfl⟩ dL_call_107) (fun ce q9 H locs hw hce hcv hcl => ?_)
                          refine vx_catch (own := RL) (name := "java/lang/IllegalStateException") E.2.2.2.1 [(⟨0, 269, 270, 74⟩ : ExceptionTableEntry), (⟨0, 269, 275, 76⟩ : ExceptionTableEntry)] (⟨0, 269, 280, 78⟩ : ExceptionTableEntry) [] (htab.trans rfl) (fun z hz => by rcases List.mem_cons.mp hz with rfl | hz; exact Or.inr ⟨by decide, _, E.2.2.2.2.1 _ q448, hX.2.2.2.1.2.2⟩; rcases List.mem_cons.mp hz with rfl | hz; exact Or.inr ⟨by decide, _, E.2.2.2.2.1 _ q449, hX.2.2.2.1.1⟩; cases hz) (by decide) (by decide) (E.2.2.2.2.1 _ q450) (va_Nw.use rfl hX.2.2.1.2.1) hce hcv hcl ?_
                          refine lv_astore (lv' := [(5, .ref q9), (0, .ref h0), (1, .int p1), (2, .int p2), (3, .int p3), (4, .int p4)]) hx hb dL_call_280 hl (by decide) rfl (fun ls hl => ?_)
                          refine lv_bipush (v := (-13)) hx hb dL_call_282 (by decide) ?_
                          obtain ⟨he0, hr⟩ := Prod.mk.inj (Option.some.inj hf)
                          have he1 := hr
                          subst he1
                          refine W.widen (k := 1) (n := 6) (by decide) (by decide) ?_
                          exact x_iM E ad hw he0 dL_call_284
                        · rw [if_neg hq] at hf
                          cases hf
              · rw [if_pos hc] at hf
                refine lv_aload_n hx hb dL_call_91 rfl (lv_at hl 0 rfl) ?_
                refine lv_iload_n hx hb dL_call_92 rfl (lv_at hl 2 rfl) ?_
                rcases ct_s hf with ⟨z18, h, hf⟩ | ⟨ex, h, hf⟩
                · refine x_miFP0 hw (x_rV E (As := [.int p2]) (rest := []) (mt_X5_take l D I J O h0 n t b0 b1 hh ha ad s.heap.size p2 x z18.1 z18.2 h) blM (x_recv E hw.1 0 5 rfl rfl rfl) (x_pcMPF0 E hw) ok_X5_take q554 rfl hl.1 rfl (Nat.le_of_ble_eq_true rfl) ⟨Nat.le_of_ble_eq_true rfl, Nat.le_of_ble_eq_true rfl⟩ ⟨Nat.le_of_ble_eq_true rfl, Nat.le_of_ble_eq_true rfl⟩ dL_call_93) (fun _ => rfl) (fun ad19 H locs hw => ?_)
                  have hw : fy D (va_A ws0 sz) s.heap H locs (wCl I h0 n t b0 b1 hh z18.2 ++ wHi I O hh ha ad19 z18.2.2.2.1) := hw
                  refine lv_goto (tgt := 269) hx hb dL_call_96 (by decide) ?_
                  obtain ⟨he0, hr⟩ := Prod.mk.inj (Option.some.inj hf)
                  have he1 := hr
                  subst he1
                  refine W.widen (k := 1) (n := 6) (by decide) (by decide) ?_
                  exact x_iM E ad19 hw he0 dL_call_269
                · by_cases hq : ex = 3
                  · rw [if_pos hq] at hf
                    subst hq
                    refine x_cX (en := "java/lang/IndexOutOfBoundsException") (free := fun q => s.heap.size ≤ q) hw (fun q hq => hw.2.2.2 q hq) (x_rX E (As := [.int p2]) (rest := []) (mx_X5_take l hfl D I J O h0 n t b0 b1 hh ha ad s.heap.size p2 x 3 h) blX (x_recv E hw.1 0 5 rfl rfl rfl) (x_pcX E hX rfl (va_P.part hw.1 [0, 1, 2, 3, 4, 5, 6, 7, 8, 9, 10, 11, 12, 13, 14, 15, 16, 17, 18, 19, 20, 21, 22, 23, 24, 25, 26] rfl)) ok_X5_take q554 rfl hl.1 rfl (Nat.le_of_ble_eq_true rfl) ⟨Nat.le_of_ble_eq_true rfl, Nat.le_of_ble_eq_true rfl⟩ ⟨Nat.le_of_ble_eq_true rfl, Nat.le_of_ble_eq_true rfl⟩ dL_call_93) (fun ce q9 H locs hw hce hcv hcl => ?_)
                    refine vx_catch (own := RL) (name := "java/lang/IndexOutOfBoundsException") E.2.2.2.1 [] (⟨0, 269, 270, 74⟩ : ExceptionTableEntry) [(⟨0, 269, 275, 76⟩ : ExceptionTableEntry), (⟨0, 269, 280, 78⟩ : ExceptionTableEntry)] (htab.trans rfl) (fun z hz => nomatch hz) (by decide) (by decide) (E.2.2.2.2.1 _ q448) (va_Nw.use rfl hX.2.2.1.2.2) hce hcv hcl ?_
                    refine lv_astore (lv' := [(5, .ref q9), (0, .ref h0), (1, .int p1), (2, .int p2), (3, .int p3), (4, .int p4)]) hx hb dL_call_270 hl (by decide) rfl (fun ls hl => ?_)
                    refine lv_bipush (v := (-11)) hx hb dL_call_272 (by decide) ?_
                    obtain ⟨he0, hr⟩ := Prod.mk.inj (Option.some.inj hf)
                    have he1 := hr
                    subst he1
                    refine W.widen (k := 1) (n := 6) (by decide) (by decide) ?_
                    exact x_iM E ad hw he0 dL_call_274
                  · rw [if_neg hq] at hf
                    by_cases hq : ex = 1
                    · rw [if_pos hq] at hf
                      subst hq
                      refine x_cX (en := "java/lang/IllegalArgumentException") (free := fun q => s.heap.size ≤ q) hw (fun q hq => hw.2.2.2 q hq) (x_rX E (As := [.int p2]) (rest := []) (mx_X5_take l hfl D I J O h0 n t b0 b1 hh ha ad s.heap.size p2 x 1 h) blX (x_recv E hw.1 0 5 rfl rfl rfl) (x_pcX E hX rfl (va_P.part hw.1 [0, 1, 2, 3, 4, 5, 6, 7, 8, 9, 10, 11, 12, 13, 14, 15, 16, 17, 18, 19, 20, 21, 22, 23, 24, 25, 26] rfl)) ok_X5_take q554 rfl hl.1 rfl (Nat.le_of_ble_eq_true rfl) ⟨Nat.le_of_ble_eq_true rfl, Nat.le_of_ble_eq_true rfl⟩ ⟨Nat.le_of_ble_eq_true rfl, Nat.le_of_ble_eq_true rfl⟩ dL_call_93) (fun ce q9 H locs hw hce hcv hcl => ?_)
                      refine vx_catch (own := RL) (name := "java/lang/IllegalArgumentException") E.2.2.2.1 [(⟨0, 269, 270, 74⟩ : ExceptionTableEntry)] (⟨0, 269, 275, 76⟩ : ExceptionTableEntry) [(⟨0, 269, 280, 78⟩ : ExceptionTableEntry)] (htab.trans rfl) (fun z hz => by rcases List.mem_cons.mp hz with rfl | hz; exact Or.inr ⟨by decide, _, E.2.2.2.2.1 _ q448, hX.2.2.2.1.2.1⟩; cases hz) (by decide) (by decide) (E.2.2.2.2.1 _ q449) (va_Nw.use rfl hX.2.2.1.1) hce hcv hcl ?_
                      refine lv_astore (lv' := [(5, .ref q9), (0, .ref h0), (1, .int p1), (2, .int p2), (3, .int p3), (4, .int p4)]) hx hb dL_call_275 hl (by decide) rfl (fun ls hl => ?_)
                      refine lv_bipush (v := (-12)) hx hb dL_call_277 (by decide) ?_
                      obtain ⟨he0, hr⟩ := Prod.mk.inj (Option.some.inj hf)
                      have he1 := hr
                      subst he1
                      refine W.widen (k := 1) (n := 6) (by decide) (by decide) ?_
                      exact x_iM E ad hw he0 dL_call_279
                    · rw [if_neg hq] at hf
                      by_cases hq : ex = 2
                      · rw [if_pos hq] at hf
                        subst hq
                        refine x_cX (en := "java/lang/IllegalStateException") (free := fun q => s.heap.size ≤ q) hw (fun q hq => hw.2.2.2 q hq) (x_rX E (As := [.int p2]) (rest := []) (mx_X5_take l hfl D I J O h0 n t b0 b1 hh ha ad s.heap.size p2 x 2 h) blX (x_recv E hw.1 0 5 rfl rfl rfl) (x_pcX E hX rfl (va_P.part hw.1 [0, 1, 2, 3, 4, 5, 6, 7, 8, 9, 10, 11, 12, 13, 14, 15, 16, 17, 18, 19, 20, 21, 22, 23, 24, 25, 26] rfl)) ok_X5_take q554 rfl hl.1 rfl (Nat.le_of_ble_eq_true rfl) ⟨Nat.le_of_ble_eq_true rfl, Nat.le_of_ble_eq_true rfl⟩ ⟨Nat.le_of_ble_eq_true rfl, Nat.le_of_ble_eq_true rfl⟩ dL_call_93) (fun ce q9 H locs hw hce hcv hcl => ?_)
                        refine vx_catch (own := RL) (name := "java/lang/IllegalStateException") E.2.2.2.1 [(⟨0, 269, 270, 74⟩ : ExceptionTableEntry), (⟨0, 269, 275, 76⟩ : ExceptionTableEntry)] (⟨0, 269, 280, 78⟩ : ExceptionTableEntry) [] (htab.trans rfl) (fun z hz => by rcases List.mem_cons.mp hz with rfl | hz; exact Or.inr ⟨by decide, _, E.2.2.2.2.1 _ q448, hX.2.2.2.1.2.2⟩; rcases List.mem_cons.mp hz with rfl | hz; exact Or.inr ⟨by decide, _, E.2.2.2.2.1 _ q449, hX.2.2.2.1.1⟩; cases hz) (by decide) (by decide) (E.2.2.2.2.1 _ q450) (va_Nw.use rfl hX.2.2.1.2.1) hce hcv hcl ?_
                        refine lv_astore (lv' := [(5, .ref q9), (0, .ref h0), (1, .int p1), (2, .int p2), (3, .int p3), (4, .int p4)]) hx hb dL_call_280 hl (by decide) rfl (fun ls hl => ?_)
                        refine lv_bipush (v := (-13)) hx hb dL_call_282 (by decide) ?_
                        obtain ⟨he0, hr⟩ := Prod.mk.inj (Option.some.inj hf)
                        have he1 := hr
                        subst he1
                        refine W.widen (k := 1) (n := 6) (by decide) (by decide) ?_
                        exact x_iM E ad hw he0 dL_call_284
                      · rw [if_neg hq] at hf
                        cases hf
            · rw [if_pos hc] at hf
              refine lv_aload_n hx hb dL_call_77 rfl (lv_at hl 0 rfl) ?_
              refine lv_iload_n hx hb dL_call_78 rfl (lv_at hl 2 rfl) ?_
              rcases ct_s hf with ⟨z20, h, hf⟩ | ⟨ex, h, hf⟩
              · refine x_miFP0 hw (x_rV E (As := [.int p2]) (rest := []) (mt_X5_goOn l D I J O h0 n t b0 b1 hh ha ad s.heap.size p2 x z20.1 z20.2 h) blM (x_recv E hw.1 0 5 rfl rfl rfl) (x_pcMPF0 E hw) ok_X5_goOn q538 rfl hl.1 rfl (Nat.le_of_ble_eq_true rfl) ⟨Nat.le_of_ble_eq_true rfl, Nat.le_of_ble_eq_true rfl⟩ ⟨Nat.le_of_ble_eq_true rfl, Nat.le_of_ble_eq_true rfl⟩ dL_call_79) (fun _ => rfl) (fun ad21 H locs hw => ?_)
                have hw : fy D (va_A ws0 sz) s.heap H locs (wCl I h0 n t b0 b1 hh z20.2 ++ wHi I O hh ha ad21 z20.2.2.2.1) := hw
                refine lv_goto (tgt := 269) hx hb dL_call_82 (by decide) ?_
                obtain ⟨he0, hr⟩ := Prod.mk.inj (Option.some.inj hf)
                have he1 := hr
                subst he1
                refine W.widen (k := 1) (n := 6) (by decide) (by decide) ?_
                exact x_iM E ad21 hw he0 dL_call_269
              · by_cases hq : ex = 3
                · rw [if_pos hq] at hf
                  subst hq
                  refine x_cX (en := "java/lang/IndexOutOfBoundsException") (free := fun q => s.heap.size ≤ q) hw (fun q hq => hw.2.2.2 q hq) (x_rX E (As := [.int p2]) (rest := []) (mx_X5_goOn l hfl D I J O h0 n t b0 b1 hh ha ad s.heap.size p2 x 3 h) blX (x_recv E hw.1 0 5 rfl rfl rfl) (x_pcX E hX rfl (va_P.part hw.1 [0, 1, 2, 3, 4, 5, 6, 7, 8, 9, 10, 11, 12, 13, 14, 15, 16, 17, 18, 19, 20, 21, 22, 23, 24, 25, 26] rfl)) ok_X5_goOn q538 rfl hl.1 rfl (Nat.le_of_ble_eq_true rfl) ⟨Nat.le_of_ble_eq_true rfl, Nat.le_of_ble_eq_true rfl⟩ ⟨Nat.le_of_ble_eq_true rfl, Nat.le_of_ble_eq_true rfl⟩ dL_call_79) (fun ce q9 H locs hw hce hcv hcl => ?_)
                  refine vx_catch (own := RL) (name := "java/lang/IndexOutOfBoundsException") E.2.2.2.1 [] (⟨0, 269, 270, 74⟩ : ExceptionTableEntry) [(⟨0, 269, 275, 76⟩ : ExceptionTableEntry), (⟨0, 269, 280, 78⟩ : ExceptionTableEntry)] (htab.trans rfl) (fun z hz => nomatch hz) (by decide) (by decide) (E.2.2.2.2.1 _ q448) (va_Nw.use rfl hX.2.2.1.2.2) hce hcv hcl ?_
                  refine lv_astore (lv' := [(5, .ref q9), (0, .ref h0), (1, .int p1), (2, .int p2), (3, .int p3), (4, .int p4)]) hx hb dL_call_270 hl (by decide) rfl (fun ls hl => ?_)
                  refine lv_bipush (v := (-11)) hx hb dL_call_272 (by decide) ?_
                  obtain ⟨he0, hr⟩ := Prod.mk.inj (Option.some.inj hf)
                  have he1 := hr
                  subst he1
                  refine W.widen (k := 1) (n := 6) (by decide) (by decide) ?_
                  exact x_iM E ad hw he0 dL_call_274
                · rw [if_neg hq] at hf
                  by_cases hq : ex = 1
                  · rw [if_pos hq] at hf
                    subst hq
                    refine x_cX (en := "java/lang/IllegalArgumentException") (free := fun q => s.heap.size ≤ q) hw (fun q hq => hw.2.2.2 q hq) (x_rX E (As := [.int p2]) (rest := []) (mx_X5_goOn l hfl D I J O h0 n t b0 b1 hh ha ad s.heap.size p2 x 1 h) blX (x_recv E hw.1 0 5 rfl rfl rfl) (x_pcX E hX rfl (va_P.part hw.1 [0, 1, 2, 3, 4, 5, 6, 7, 8, 9, 10, 11, 12, 13, 14, 15, 16, 17, 18, 19, 20, 21, 22, 23, 24, 25, 26] rfl)) ok_X5_goOn q538 rfl hl.1 rfl (Nat.le_of_ble_eq_true rfl) ⟨Nat.le_of_ble_eq_true rfl, Nat.le_of_ble_eq_true rfl⟩ ⟨Nat.le_of_ble_eq_true rfl, Nat.le_of_ble_eq_true rfl⟩ dL_call_79) (fun ce q9 H locs hw hce hcv hcl => ?_)
                    refine vx_catch (own := RL) (name := "java/lang/IllegalArgumentException") E.2.2.2.1 [(⟨0, 269, 270, 74⟩ : ExceptionTableEntry)] (⟨0, 269, 275, 76⟩ : ExceptionTableEntry) [(⟨0, 269, 280, 78⟩ : ExceptionTableEntry)] (htab.trans rfl) (fun z hz => by rcases List.mem_cons.mp hz with rfl | hz; exact Or.inr ⟨by decide, _, E.2.2.2.2.1 _ q448, hX.2.2.2.1.2.1⟩; cases hz) (by decide) (by decide) (E.2.2.2.2.1 _ q449) (va_Nw.use rfl hX.2.2.1.1) hce hcv hcl ?_
                    refine lv_astore (lv' := [(5, .ref q9), (0, .ref h0), (1, .int p1), (2, .int p2), (3, .int p3), (4, .int p4)]) hx hb dL_call_275 hl (by decide) rfl (fun ls hl => ?_)
                    refine lv_bipush (v := (-12)) hx hb dL_call_277 (by decide) ?_
                    obtain ⟨he0, hr⟩ := Prod.mk.inj (Option.some.inj hf)
                    have he1 := hr
                    subst he1
                    refine W.widen (k := 1) (n := 6) (by decide) (by decide) ?_
                    exact x_iM E ad hw he0 dL_call_279
                  · rw [if_neg hq] at hf
                    by_cases hq : ex = 2
                    · rw [if_pos hq] at hf
                      subst hq
                      refine x_cX (en := "java/lang/IllegalStateException") (free := fun q => s.heap.size ≤ q) hw (fun q hq => hw.2.2.2 q hq) (x_rX E (As := [.int p2]) (rest := []) (mx_X5_goOn l hfl D I J O h0 n t b0 b1 hh ha ad s.heap.size p2 x 2 h) blX (x_recv E hw.1 0 5 rfl rfl rfl) (x_pcX E hX rfl (va_P.part hw.1 [0, 1, 2, 3, 4, 5, 6, 7, 8, 9, 10, 11, 12, 13, 14, 15, 16, 17, 18, 19, 20, 21, 22, 23, 24, 25, 26] rfl)) ok_X5_goOn q538 rfl hl.1 rfl (Nat.le_of_ble_eq_true rfl) ⟨Nat.le_of_ble_eq_true rfl, Nat.le_of_ble_eq_true rfl⟩ ⟨Nat.le_of_ble_eq_true rfl, Nat.le_of_ble_eq_true rfl⟩ dL_call_79) (fun ce q9 H locs hw hce hcv hcl => ?_)
                      refine vx_catch (own := RL) (name := "java/lang/IllegalStateException") E.2.2.2.1 [(⟨0, 269, 270, 74⟩ : ExceptionTableEntry), (⟨0, 269, 275, 76⟩ : ExceptionTableEntry)] (⟨0, 269, 280, 78⟩ : ExceptionTableEntry) [] (htab.trans rfl) (fun z hz => by rcases List.mem_cons.mp hz with rfl | hz; exact Or.inr ⟨by decide, _, E.2.2.2.2.1 _ q448, hX.2.2.2.1.2.2⟩; rcases List.mem_cons.mp hz with rfl | hz; exact Or.inr ⟨by decide, _, E.2.2.2.2.1 _ q449, hX.2.2.2.1.1⟩; cases hz) (by decide) (by decide) (E.2.2.2.2.1 _ q450) (va_Nw.use rfl hX.2.2.1.2.1) hce hcv hcl ?_
                      refine lv_astore (lv' := [(5, .ref q9), (0, .ref h0), (1, .int p1), (2, .int p2), (3, .int p3), (4, .int p4)]) hx hb dL_call_280 hl (by decide) rfl (fun ls hl => ?_)
                      refine lv_bipush (v := (-13)) hx hb dL_call_282 (by decide) ?_
                      obtain ⟨he0, hr⟩ := Prod.mk.inj (Option.some.inj hf)
                      have he1 := hr
                      subst he1
                      refine W.widen (k := 1) (n := 6) (by decide) (by decide) ?_
                      exact x_iM E ad hw he0 dL_call_284
                    · rw [if_neg hq] at hf
                      cases hf
          · rw [if_pos hc] at hf
            refine lv_aload_n hx hb dL_call_64 rfl (lv_at hl 0 rfl) ?_
            refine lv_iload_n hx hb dL_call_65 rfl (lv_at hl 2 rfl) ?_
            rcases ct_s hf with ⟨z22, h, hf⟩ | ⟨ex, h, hf⟩
            · refine x_miFP0 hw (x_rV E (As := [.int p2]) (rest := []) (mt_X5_restart l D I J O h0 n t b0 b1 hh ha ad s.heap.size p2 x z22.1 z22.2 h) blM (x_recv E hw.1 0 5 rfl rfl rfl) (x_pcMPF0 E hw) ok_X5_restart q513 rfl hl.1 rfl (Nat.le_of_ble_eq_true rfl) ⟨Nat.le_of_ble_eq_true rfl, Nat.le_of_ble_eq_true rfl⟩ ⟨Nat.le_of_ble_eq_true rfl, Nat.le_of_ble_eq_true rfl⟩ dL_call_66) (fun _ => rfl) (fun ad23 H locs hw => ?_)
              have hw : fy D (va_A ws0 sz) s.heap H locs (wCl I h0 n t b0 b1 hh z22.2 ++ wHi I O hh ha ad23 z22.2.2.2.1) := hw
              refine lv_goto (tgt := 269) hx hb dL_call_69 (by decide) ?_
              obtain ⟨he0, hr⟩ := Prod.mk.inj (Option.some.inj hf)
              have he1 := hr
              subst he1
              refine W.widen (k := 1) (n := 6) (by decide) (by decide) ?_
              exact x_iM E ad23 hw he0 dL_call_269
            · by_cases hq : ex = 3
              · rw [if_pos hq] at hf
                subst hq
                refine x_cX (en := "java/lang/IndexOutOfBoundsException") (free := fun q => s.heap.size ≤ q) hw (fun q hq => hw.2.2.2 q hq) (x_rX E (As := [.int p2]) (rest := []) (mx_X5_restart l hfl D I J O h0 n t b0 b1 hh ha ad s.heap.size p2 x 3 h) blX (x_recv E hw.1 0 5 rfl rfl rfl) (x_pcX E hX rfl (va_P.part hw.1 [0, 1, 2, 3, 4, 5, 6, 7, 8, 9, 10, 11, 12, 13, 14, 15, 16, 17, 18, 19, 20, 21, 22, 23, 24, 25, 26] rfl)) ok_X5_restart q513 rfl hl.1 rfl (Nat.le_of_ble_eq_true rfl) ⟨Nat.le_of_ble_eq_true rfl, Nat.le_of_ble_eq_true rfl⟩ ⟨Nat.le_of_ble_eq_true rfl, Nat.le_of_ble_eq_true rfl⟩ dL_call_66) (fun ce q9 H locs hw hce hcv hcl => ?_)
                refine vx_catch (own := RL) (name := "java/lang/IndexOutOfBoundsException") E.2.2.2.1 [] (⟨0, 269, 270, 74⟩ : ExceptionTableEntry) [(⟨0, 269, 275, 76⟩ : ExceptionTableEntry), (⟨0, 269, 280, 78⟩ : ExceptionTableEntry)] (htab.trans rfl) (fun z hz => nomatch hz) (by decide) (by decide) (E.2.2.2.2.1 _ q448) (va_Nw.use rfl hX.2.2.1.2.2) hce hcv hcl ?_
                refine lv_astore (lv' := [(5, .ref q9), (0, .ref h0), (1, .int p1), (2, .int p2), (3, .int p3), (4, .int p4)]) hx hb dL_call_270 hl (by decide) rfl (fun ls hl => ?_)
                refine lv_bipush (v := (-11)) hx hb dL_call_272 (by decide) ?_
                obtain ⟨he0, hr⟩ := Prod.mk.inj (Option.some.inj hf)
                have he1 := hr
                subst he1
                refine W.widen (k := 1) (n := 6) (by decide) (by decide) ?_
                exact x_iM E ad hw he0 dL_call_274
              · rw [if_neg hq] at hf
                by_cases hq : ex = 1
                · rw [if_pos hq] at hf
                  subst hq
                  refine x_cX (en := "java/lang/IllegalArgumentException") (free := fun q => s.heap.size ≤ q) hw (fun q hq => hw.2.2.2 q hq) (x_rX E (As := [.int p2]) (rest := []) (mx_X5_restart l hfl D I J O h0 n t b0 b1 hh ha ad s.heap.size p2 x 1 h) blX (x_recv E hw.1 0 5 rfl rfl rfl) (x_pcX E hX rfl (va_P.part hw.1 [0, 1, 2, 3, 4, 5, 6, 7, 8, 9, 10, 11, 12, 13, 14, 15, 16, 17, 18, 19, 20, 21, 22, 23, 24, 25, 26] rfl)) ok_X5_restart q513 rfl hl.1 rfl (Nat.le_of_ble_eq_true rfl) ⟨Nat.le_of_ble_eq_true rfl, Nat.le_of_ble_eq_true rfl⟩ ⟨Nat.le_of_ble_eq_true rfl, Nat.le_of_ble_eq_true rfl⟩ dL_call_66) (fun ce q9 H locs hw hce hcv hcl => ?_)
                  refine vx_catch (own := RL) (name := "java/lang/IllegalArgumentException") E.2.2.2.1 [(⟨0, 269, 270, 74⟩ : ExceptionTableEntry)] (⟨0, 269, 275, 76⟩ : ExceptionTableEntry) [(⟨0, 269, 280, 78⟩ : ExceptionTableEntry)] (htab.trans rfl) (fun z hz => by rcases List.mem_cons.mp hz with rfl | hz; exact Or.inr ⟨by decide, _, E.2.2.2.2.1 _ q448, hX.2.2.2.1.2.1⟩; cases hz) (by decide) (by decide) (E.2.2.2.2.1 _ q449) (va_Nw.use rfl hX.2.2.1.1) hce hcv hcl ?_
                  refine lv_astore (lv' := [(5, .ref q9), (0, .ref h0), (1, .int p1), (2, .int p2), (3, .int p3), (4, .int p4)]) hx hb dL_call_275 hl (by decide) rfl (fun ls hl => ?_)
                  refine lv_bipush (v := (-12)) hx hb dL_call_277 (by decide) ?_
                  obtain ⟨he0, hr⟩ := Prod.mk.inj (Option.some.inj hf)
                  have he1 := hr
                  subst he1
                  refine W.widen (k := 1) (n := 6) (by decide) (by decide) ?_
                  exact x_iM E ad hw he0 dL_call_279
                · rw [if_neg hq] at hf
                  by_cases hq : ex = 2
                  · rw [if_pos hq] at hf
                    subst hq
                    refine x_cX (en := "java/lang/IllegalStateException") (free := fun q => s.heap.size ≤ q) hw (fun q hq => hw.2.2.2 q hq) (x_rX E (As := [.int p2]) (rest := []) (mx_X5_restart l hfl D I J O h0 n t b0 b1 hh ha ad s.heap.size p2 x 2 h) blX (x_recv E hw.1 0 5 rfl rfl rfl) (x_pcX E hX rfl (va_P.part hw.1 [0, 1, 2, 3, 4, 5, 6, 7, 8, 9, 10, 11, 12, 13, 14, 15, 16, 17, 18, 19, 20, 21, 22, 23, 24, 25, 26] rfl)) ok_X5_restart q513 rfl hl.1 rfl (Nat.le_of_ble_eq_true rfl) ⟨Nat.le_of_ble_eq_true rfl, Nat.le_of_ble_eq_true rfl⟩ ⟨Nat.le_of_ble_eq_true rfl, Nat.le_of_ble_eq_true rfl⟩ dL_call_66) (fun ce q9 H locs hw hce hcv hcl => ?_)
                    refine vx_catch (own := RL) (name := "java/lang/IllegalStateException") E.2.2.2.1 [(⟨0, 269, 270, 74⟩ : ExceptionTableEntry), (⟨0, 269, 275, 76⟩ : ExceptionTableEntry)] (⟨0, 269, 280, 78⟩ : ExceptionTableEntry) [] (htab.trans rfl) (fun z hz => by rcases List.mem_cons.mp hz with rfl | hz; exact Or.inr ⟨by decide, _, E.2.2.2.2.1 _ q448, hX.2.2.2.1.2.2⟩; rcases List.mem_cons.mp hz with rfl | hz; exact Or.inr ⟨by decide, _, E.2.2.2.2.1 _ q449, hX.2.2.2.1.1⟩; cases hz) (by decide) (by decide) (E.2.2.2.2.1 _ q450) (va_Nw.use rfl hX.2.2.1.2.1) hce hcv hcl ?_
                    refine lv_astore (lv' := [(5, .ref q9), (0, .ref h0), (1, .int p1), (2, .int p2), (3, .int p3), (4, .int p4)]) hx hb dL_call_280 hl (by decide) rfl (fun ls hl => ?_)
                    refine lv_bipush (v := (-13)) hx hb dL_call_282 (by decide) ?_
                    obtain ⟨he0, hr⟩ := Prod.mk.inj (Option.some.inj hf)
                    have he1 := hr
                    subst he1
                    refine W.widen (k := 1) (n := 6) (by decide) (by decide) ?_
                    exact x_iM E ad hw he0 dL_call_284
                  · rw [if_neg hq] at hf
                    cases hf
        · rw [if_pos hc] at hf
          refine lv_aload_n hx hb dL_call_50 rfl (lv_at hl 0 rfl) ?_
          refine lv_iload_n hx hb dL_call_51 rfl (lv_at hl 2 rfl) ?_
          refine lv_iload_n hx hb dL_call_52 rfl (lv_at hl 3 rfl) ?_
          rcases ct_s hf with ⟨z24, h, hf⟩ | ⟨ex, h, hf⟩
          · refine x_miFP0 hw (x_rV E (As := [.int p2, .int p3]) (rest := []) (mt_X5_change l D I J O h0 n t b0 b1 hh ha ad s.heap.size p2 p3 x z24.1 z24.2 h) blM (x_recv E hw.1 0 5 rfl rfl rfl) (x_pcMPF0 E hw) ok_X5_change q504 rfl hl.1 rfl (Nat.le_of_ble_eq_true rfl) ⟨Nat.le_of_ble_eq_true rfl, Nat.le_of_ble_eq_true rfl⟩ ⟨Nat.le_of_ble_eq_true rfl, Nat.le_of_ble_eq_true rfl⟩ dL_call_53) (fun _ => rfl) (fun ad25 H locs hw => ?_)
            have hw : fy D (va_A ws0 sz) s.heap H locs (wCl I h0 n t b0 b1 hh z24.2 ++ wHi I O hh ha ad25 z24.2.2.2.1) := hw
            refine lv_goto (tgt := 269) hx hb dL_call_56 (by decide) ?_
            obtain ⟨he0, hr⟩ := Prod.mk.inj (Option.some.inj hf)
            have he1 := hr
            subst he1
            refine W.widen (k := 1) (n := 6) (by decide) (by decide) ?_
            exact x_iM E ad25 hw he0 dL_call_269
          · by_cases hq : ex = 3
            · rw [if_pos hq] at hf
              subst hq
              refine x_cX (en := "java/lang/IndexOutOfBoundsException") (free := fun q => s.heap.size ≤ q) hw (fun q hq => hw.2.2.2 q hq) (x_rX E (As := [.int p2, .int p3]) (rest := []) (mx_X5_change l hfl D I J O h0 n t b0 b1 hh ha ad s.heap.size p2 p3 x 3 h) blX (x_recv E hw.1 0 5 rfl rfl rfl) (x_pcX E hX rfl (va_P.part hw.1 [0, 1, 2, 3, 4, 5, 6, 7, 8, 9, 10, 11, 12, 13, 14, 15, 16, 17, 18, 19, 20, 21, 22, 23, 24, 25, 26] rfl)) ok_X5_change q504 rfl hl.1 rfl (Nat.le_of_ble_eq_true rfl) ⟨Nat.le_of_ble_eq_true rfl, Nat.le_of_ble_eq_true rfl⟩ ⟨Nat.le_of_ble_eq_true rfl, Nat.le_of_ble_eq_true rfl⟩ dL_call_53) (fun ce q9 H locs hw hce hcv hcl => ?_)
              refine vx_catch (own := RL) (name := "java/lang/IndexOutOfBoundsException") E.2.2.2.1 [] (⟨0, 269, 270, 74⟩ : ExceptionTableEntry) [(⟨0, 269, 275, 76⟩ : ExceptionTableEntry), (⟨0, 269, 280, 78⟩ : ExceptionTableEntry)] (htab.trans rfl) (fun z hz => nomatch hz) (by decide) (by decide) (E.2.2.2.2.1 _ q448) (va_Nw.use rfl hX.2.2.1.2.2) hce hcv hcl ?_
              refine lv_astore (lv' := [(5, .ref q9), (0, .ref h0), (1, .int p1), (2, .int p2), (3, .int p3), (4, .int p4)]) hx hb dL_call_270 hl (by decide) rfl (fun ls hl => ?_)
              refine lv_bipush (v := (-11)) hx hb dL_call_272 (by decide) ?_
              obtain ⟨he0, hr⟩ := Prod.mk.inj (Option.some.inj hf)
              have he1 := hr
              subst he1
              refine W.widen (k := 1) (n := 6) (by decide) (by decide) ?_
              exact x_iM E ad hw he0 dL_call_274
            · rw [if_neg hq] at hf
              by_cases hq : ex = 1
              · rw [if_pos hq] at hf
                subst hq
                refine x_cX (en := "java/lang/IllegalArgumentException") (free := fun q => s.heap.size ≤ q) hw (fun q hq => hw.2.2.2 q hq) (x_rX E (As := [.int p2, .int p3]) (rest := []) (mx_X5_change l hfl D I J O h0 n t b0 b1 hh ha ad s.heap.size p2 p3 x 1 h) blX (x_recv E hw.1 0 5 rfl rfl rfl) (x_pcX E hX rfl (va_P.part hw.1 [0, 1, 2, 3, 4, 5, 6, 7, 8, 9, 10, 11, 12, 13, 14, 15, 16, 17, 18, 19, 20, 21, 22, 23, 24, 25, 26] rfl)) ok_X5_change q504 rfl hl.1 rfl (Nat.le_of_ble_eq_true rfl) ⟨Nat.le_of_ble_eq_true rfl, Nat.le_of_ble_eq_true rfl⟩ ⟨Nat.le_of_ble_eq_true rfl, Nat.le_of_ble_eq_true rfl⟩ dL_call_53) (fun ce q9 H locs hw hce hcv hcl => ?_)
                refine vx_catch (own := RL) (name := "java/lang/IllegalArgumentException") E.2.2.2.1 [(⟨0, 269, 270, 74⟩ : ExceptionTableEntry)] (⟨0, 269, 275, 76⟩ : ExceptionTableEntry) [(⟨0, 269, 280, 78⟩ : ExceptionTableEntry)] (htab.trans rfl) (fun z hz => by rcases List.mem_cons.mp hz with rfl | hz; exact Or.inr ⟨by decide, _, E.2.2.2.2.1 _ q448, hX.2.2.2.1.2.1⟩; cases hz) (by decide) (by decide) (E.2.2.2.2.1 _ q449) (va_Nw.use rfl hX.2.2.1.1) hce hcv hcl ?_
                refine lv_astore (lv' := [(5, .ref q9), (0, .ref h0), (1, .int p1), (2, .int p2), (3, .int p3), (4, .int p4)]) hx hb dL_call_275 hl (by decide) rfl (fun ls hl => ?_)
                refine lv_bipush (v := (-12)) hx hb dL_call_277 (by decide) ?_
                obtain ⟨he0, hr⟩ := Prod.mk.inj (Option.some.inj hf)
                have he1 := hr
                subst he1
                refine W.widen (k := 1) (n := 6) (by decide) (by decide) ?_
                exact x_iM E ad hw he0 dL_call_279
              · rw [if_neg hq] at hf
                by_cases hq : ex = 2
                · rw [if_pos hq] at hf
                  subst hq
                  refine x_cX (en := "java/lang/IllegalStateException") (free := fun q => s.heap.size ≤ q) hw (fun q hq => hw.2.2.2 q hq) (x_rX E (As := [.int p2, .int p3]) (rest := []) (mx_X5_change l hfl D I J O h0 n t b0 b1 hh ha ad s.heap.size p2 p3 x 2 h) blX (x_recv E hw.1 0 5 rfl rfl rfl) (x_pcX E hX rfl (va_P.part hw.1 [0, 1, 2, 3, 4, 5, 6, 7, 8, 9, 10, 11, 12, 13, 14, 15, 16, 17, 18, 19, 20, 21, 22, 23, 24, 25, 26] rfl)) ok_X5_change q504 rfl hl.1 rfl (Nat.le_of_ble_eq_true rfl) ⟨Nat.le_of_ble_eq_true rfl, Nat.le_of_ble_eq_true rfl⟩ ⟨Nat.le_of_ble_eq_true rfl, Nat.le_of_ble_eq_true rfl⟩ dL_call_53) (fun ce q9 H locs hw hce hcv hcl => ?_)
                  refine vx_catch (own := RL) (name := "java/lang/IllegalStateException") E.2.2.2.1 [(⟨0, 269, 270, 74⟩ : ExceptionTableEntry), (⟨0, 269, 275, 76⟩ : ExceptionTableEntry)] (⟨0, 269, 280, 78⟩ : ExceptionTableEntry) [] (htab.trans rfl) (fun z hz => by rcases List.mem_cons.mp hz with rfl | hz; exact Or.inr ⟨by decide, _, E.2.2.2.2.1 _ q448, hX.2.2.2.1.2.2⟩; rcases List.mem_cons.mp hz with rfl | hz; exact Or.inr ⟨by decide, _, E.2.2.2.2.1 _ q449, hX.2.2.2.1.1⟩; cases hz) (by decide) (by decide) (E.2.2.2.2.1 _ q450) (va_Nw.use rfl hX.2.2.1.2.1) hce hcv hcl ?_
                  refine lv_astore (lv' := [(5, .ref q9), (0, .ref h0), (1, .int p1), (2, .int p2), (3, .int p3), (4, .int p4)]) hx hb dL_call_280 hl (by decide) rfl (fun ls hl => ?_)
                  refine lv_bipush (v := (-13)) hx hb dL_call_282 (by decide) ?_
                  obtain ⟨he0, hr⟩ := Prod.mk.inj (Option.some.inj hf)
                  have he1 := hr
                  subst he1
                  refine W.widen (k := 1) (n := 6) (by decide) (by decide) ?_
                  exact x_iM E ad hw he0 dL_call_284
                · rw [if_neg hq] at hf
                  cases hf
      · rw [if_pos hc] at hf
        refine lv_aload_n hx hb dL_call_37 rfl (lv_at hl 0 rfl) ?_
        refine lv_iload_n hx hb dL_call_38 rfl (lv_at hl 2 rfl) ?_
        rcases ct_s hf with ⟨z26, h, hf⟩ | ⟨ex, h, hf⟩
        · refine x_miFP0 hw (x_rV E (As := [.int p2]) (rest := []) (mt_X5_remove l D I J O h0 n t b0 b1 hh ha ad s.heap.size p2 x z26.1 z26.2 h) blM (x_recv E hw.1 0 5 rfl rfl rfl) (x_pcMPF0 E hw) ok_X5_remove q498 rfl hl.1 rfl (Nat.le_of_ble_eq_true rfl) ⟨Nat.le_of_ble_eq_true rfl, Nat.le_of_ble_eq_true rfl⟩ ⟨Nat.le_of_ble_eq_true rfl, Nat.le_of_ble_eq_true rfl⟩ dL_call_39) (fun _ => rfl) (fun ad27 H locs hw => ?_)
          have hw : fy D (va_A ws0 sz) s.heap H locs (wCl I h0 n t b0 b1 hh z26.2 ++ wHi I O hh ha ad27 z26.2.2.2.1) := hw
          refine lv_goto (tgt := 269) hx hb dL_call_42 (by decide) ?_
          obtain ⟨he0, hr⟩ := Prod.mk.inj (Option.some.inj hf)
          have he1 := hr
          subst he1
          refine W.widen (k := 1) (n := 6) (by decide) (by decide) ?_
          exact x_iM E ad27 hw he0 dL_call_269
        · by_cases hq : ex = 3
          · rw [if_pos hq] at hf
            subst hq
            refine x_cX (en := "java/lang/IndexOutOfBoundsException") (free := fun q => s.heap.size ≤ q) hw (fun q hq => hw.2.2.2 q hq) (x_rX E (As := [.int p2]) (rest := []) (mx_X5_remove l hfl D I J O h0 n t b0 b1 hh ha ad s.heap.size p2 x 3 h) blX (x_recv E hw.1 0 5 rfl rfl rfl) (x_pcX E hX rfl (va_P.part hw.1 [0, 1, 2, 3, 4, 5, 6, 7, 8, 9, 10, 11, 12, 13, 14, 15, 16, 17, 18, 19, 20, 21, 22, 23, 24, 25, 26] rfl)) ok_X5_remove q498 rfl hl.1 rfl (Nat.le_of_ble_eq_true rfl) ⟨Nat.le_of_ble_eq_true rfl, Nat.le_of_ble_eq_true rfl⟩ ⟨Nat.le_of_ble_eq_true rfl, Nat.le_of_ble_eq_true rfl⟩ dL_call_39) (fun ce q9 H locs hw hce hcv hcl => ?_)
            refine vx_catch (own := RL) (name := "java/lang/IndexOutOfBoundsException") E.2.2.2.1 [] (⟨0, 269, 270, 74⟩ : ExceptionTableEntry) [(⟨0, 269, 275, 76⟩ : ExceptionTableEntry), (⟨0, 269, 280, 78⟩ : ExceptionTableEntry)] (htab.trans rfl) (fun z hz => nomatch hz) (by decide) (by decide) (E.2.2.2.2.1 _ q448) (va_Nw.use rfl hX.2.2.1.2.2) hce hcv hcl ?_
            refine lv_astore (lv' := [(5, .ref q9), (0, .ref h0), (1, .int p1), (2, .int p2), (3, .int p3), (4, .int p4)]) hx hb dL_call_270 hl (by decide) rfl (fun ls hl => ?_)
            refine lv_bipush (v := (-11)) hx hb dL_call_272 (by decide) ?_
            obtain ⟨he0, hr⟩ := Prod.mk.inj (Option.some.inj hf)
            have he1 := hr
            subst he1
            refine W.widen (k := 1) (n := 6) (by decide) (by decide) ?_
            exact x_iM E ad hw he0 dL_call_274
          · rw [if_neg hq] at hf
            by_cases hq : ex = 1
            · rw [if_pos hq] at hf
              subst hq
              refine x_cX (en := "java/lang/IllegalArgumentException") (free := fun q => s.heap.size ≤ q) hw (fun q hq => hw.2.2.2 q hq) (x_rX E (As := [.int p2]) (rest := []) (mx_X5_remove l hfl D I J O h0 n t b0 b1 hh ha ad s.heap.size p2 x 1 h) blX (x_recv E hw.1 0 5 rfl rfl rfl) (x_pcX E hX rfl (va_P.part hw.1 [0, 1, 2, 3, 4, 5, 6, 7, 8, 9, 10, 11, 12, 13, 14, 15, 16, 17, 18, 19, 20, 21, 22, 23, 24, 25, 26] rfl)) ok_X5_remove q498 rfl hl.1 rfl (Nat.le_of_ble_eq_true rfl) ⟨Nat.le_of_ble_eq_true rfl, Nat.le_of_ble_eq_true rfl⟩ ⟨Nat.le_of_ble_eq_true rfl, Nat.le_of_ble_eq_true rfl⟩ dL_call_39) (fun ce q9 H locs hw hce hcv hcl => ?_)
              refine vx_catch (own := RL) (name := "java/lang/IllegalArgumentException") E.2.2.2.1 [(⟨0, 269, 270, 74⟩ : ExceptionTableEntry)] (⟨0, 269, 275, 76⟩ : ExceptionTableEntry) [(⟨0, 269, 280, 78⟩ : ExceptionTableEntry)] (htab.trans rfl) (fun z hz => by rcases List.mem_cons.mp hz with rfl | hz; exact Or.inr ⟨by decide, _, E.2.2.2.2.1 _ q448, hX.2.2.2.1.2.1⟩; cases hz) (by decide) (by decide) (E.2.2.2.2.1 _ q449) (va_Nw.use rfl hX.2.2.1.1) hce hcv hcl ?_
              refine lv_astore (lv' := [(5, .ref q9), (0, .ref h0), (1, .int p1), (2, .int p2), (3, .int p3), (4, .int p4)]) hx hb dL_call_275 hl (by decide) rfl (fun ls hl => ?_)
              refine lv_bipush (v := (-12)) hx hb dL_call_277 (by decide) ?_
              obtain ⟨he0, hr⟩ := Prod.mk.inj (Option.some.inj hf)
              have he1 := hr
              subst he1
              refine W.widen (k := 1) (n := 6) (by decide) (by decide) ?_
              exact x_iM E ad hw he0 dL_call_279
            · rw [if_neg hq] at hf
              by_cases hq : ex = 2
              · rw [if_pos hq] at hf
                subst hq
                refine x_cX (en := "java/lang/IllegalStateException") (free := fun q => s.heap.size ≤ q) hw (fun q hq => hw.2.2.2 q hq) (x_rX E (As := [.int p2]) (rest := []) (mx_X5_remove l hfl D I J O h0 n t b0 b1 hh ha ad s.heap.size p2 x 2 h) blX (x_recv E hw.1 0 5 rfl rfl rfl) (x_pcX E hX rfl (va_P.part hw.1 [0, 1, 2, 3, 4, 5, 6, 7, 8, 9, 10, 11, 12, 13, 14, 15, 16, 17, 18, 19, 20, 21, 22, 23, 24, 25, 26] rfl)) ok_X5_remove q498 rfl hl.1 rfl (Nat.le_of_ble_eq_true rfl) ⟨Nat.le_of_ble_eq_true rfl, Nat.le_of_ble_eq_true rfl⟩ ⟨Nat.le_of_ble_eq_true rfl, Nat.le_of_ble_eq_true rfl⟩ dL_call_39) (fun ce q9 H locs hw hce hcv hcl => ?_)
                refine vx_catch (own := RL) (name := "java/lang/IllegalStateException") E.2.2.2.1 [(⟨0, 269, 270, 74⟩ : ExceptionTableEntry), (⟨0, 269, 275, 76⟩ : ExceptionTableEntry)] (⟨0, 269, 280, 78⟩ : ExceptionTableEntry) [] (htab.trans rfl) (fun z hz => by rcases List.mem_cons.mp hz with rfl | hz; exact Or.inr ⟨by decide, _, E.2.2.2.2.1 _ q448, hX.2.2.2.1.2.2⟩; rcases List.mem_cons.mp hz with rfl | hz; exact Or.inr ⟨by decide, _, E.2.2.2.2.1 _ q449, hX.2.2.2.1.1⟩; cases hz) (by decide) (by decide) (E.2.2.2.2.1 _ q450) (va_Nw.use rfl hX.2.2.1.2.1) hce hcv hcl ?_
                refine lv_astore (lv' := [(5, .ref q9), (0, .ref h0), (1, .int p1), (2, .int p2), (3, .int p3), (4, .int p4)]) hx hb dL_call_280 hl (by decide) rfl (fun ls hl => ?_)
                refine lv_bipush (v := (-13)) hx hb dL_call_282 (by decide) ?_
                obtain ⟨he0, hr⟩ := Prod.mk.inj (Option.some.inj hf)
                have he1 := hr
                subst he1
                refine W.widen (k := 1) (n := 6) (by decide) (by decide) ?_
                exact x_iM E ad hw he0 dL_call_284
              · rw [if_neg hq] at hf
                cases hf
    · rw [if_pos hc] at hf
      refine lv_aload_n hx hb dL_call_20 rfl (lv_at hl 0 rfl) ?_
      refine lv_iload_n hx hb dL_call_21 rfl (lv_at hl 2 rfl) ?_
      refine lv_iconst (v := 5) hx hb dL_call_22 (by decide) ?_
      refine lv_iload_n hx hb dL_call_23 rfl (lv_at hl 3 rfl) ?_
      refine lv_iload hx hb dL_call_24 (lv_at hl 4 rfl) ?_
      rcases ct_s hf with ⟨z28, h, hf⟩ | ⟨ex, h, hf⟩
      · refine x_miFP0 hw (x_rV E (As := [.int p2, .int 5, .int p3, .int p4]) (rest := []) (mt_X5_putBehind l D I J O h0 n t b0 b1 hh ha ad s.heap.size p2 5 p3 p4 x z28.1 z28.2 h) blM (x_recv E hw.1 0 5 rfl rfl rfl) (x_pcMPF0 E hw) ok_X5_putBehind q469 rfl hl.1 rfl (Nat.le_of_ble_eq_true rfl) ⟨Nat.le_of_ble_eq_true rfl, Nat.le_of_ble_eq_true rfl⟩ ⟨Nat.le_of_ble_eq_true rfl, Nat.le_of_ble_eq_true rfl⟩ dL_call_26) (fun _ => rfl) (fun ad29 H locs hw => ?_)
        have hw : fy D (va_A ws0 sz) s.heap H locs (wCl I h0 n t b0 b1 hh z28.2 ++ wHi I O hh ha ad29 z28.2.2.2.1) := hw
        refine lv_goto (tgt := 269) hx hb dL_call_29 (by decide) ?_
        obtain ⟨he0, hr⟩ := Prod.mk.inj (Option.some.inj hf)
        have he1 := hr
        subst he1
        refine W.widen (k := 1) (n := 6) (by decide) (by decide) ?_
        exact x_iM E ad29 hw he0 dL_call_269
      · by_cases hq : ex = 3
        · rw [if_pos hq] at hf
          subst hq
          refine x_cX (en := "java/lang/IndexOutOfBoundsException") (free := fun q => s.heap.size ≤ q) hw (fun q hq => hw.2.2.2 q hq) (x_rX E (As := [.int p2, .int 5, .int p3, .int p4]) (rest := []) (mx_X5_putBehind l hfl D I J O h0 n t b0 b1 hh ha ad s.heap.size p2 5 p3 p4 x 3 h) blX (x_recv E hw.1 0 5 rfl rfl rfl) (x_pcX E hX rfl (va_P.part hw.1 [0, 1, 2, 3, 4, 5, 6, 7, 8, 9, 10, 11, 12, 13, 14, 15, 16, 17, 18, 19, 20, 21, 22, 23, 24, 25, 26] rfl)) ok_X5_putBehind q469 rfl hl.1 rfl (Nat.le_of_ble_eq_true rfl) ⟨Nat.le_of_ble_eq_true rfl, Nat.le_of_ble_eq_true rfl⟩ ⟨Nat.le_of_ble_eq_true rfl, Nat.le_of_ble_eq_true rfl⟩ dL_call_26) (fun ce q9 H locs hw hce hcv hcl => ?_)
          refine vx_catch (own := RL) (name := "java/lang/IndexOutOfBoundsException") E.2.2.2.1 [] (⟨0, 269, 270, 74⟩ : ExceptionTableEntry) [(⟨0, 269, 275, 76⟩ : ExceptionTableEntry), (⟨0, 269, 280, 78⟩ : ExceptionTableEntry)] (htab.trans rfl) (fun z hz => nomatch hz) (by decide) (by decide) (E.2.2.2.2.1 _ q448) (va_Nw.use rfl hX.2.2.1.2.2) hce hcv hcl ?_
          refine lv_astore (lv' := [(5, .ref q9), (0, .ref h0), (1, .int p1), (2, .int p2), (3, .int p3), (4, .int p4)]) hx hb dL_call_270 hl (by decide) rfl (fun ls hl => ?_)
          refine lv_bipush (v := (-11)) hx hb dL_call_272 (by decide) ?_
          obtain ⟨he0, hr⟩ := Prod.mk.inj (Option.some.inj hf)
          have he1 := hr
          subst he1
          refine W.widen (k := 1) (n := 6) (by decide) (by decide) ?_
          exact x_iM E ad hw he0 dL_call_274
        · rw [if_neg hq] at hf
          by_cases hq : ex = 1
          · rw [if_pos hq] at hf
            subst hq
            refine x_cX (en := "java/lang/IllegalArgumentException") (free := fun q => s.heap.size ≤ q) hw (fun q hq => hw.2.2.2 q hq) (x_rX E (As := [.int p2, .int 5, .int p3, .int p4]) (rest := []) (mx_X5_putBehind l hfl D I J O h0 n t b0 b1 hh ha ad s.heap.size p2 5 p3 p4 x 1 h) blX (x_recv E hw.1 0 5 rfl rfl rfl) (x_pcX E hX rfl (va_P.part hw.1 [0, 1, 2, 3, 4, 5, 6, 7, 8, 9, 10, 11, 12, 13, 14, 15, 16, 17, 18, 19, 20, 21, 22, 23, 24, 25, 26] rfl)) ok_X5_putBehind q469 rfl hl.1 rfl (Nat.le_of_ble_eq_true rfl) ⟨Nat.le_of_ble_eq_true rfl, Nat.le_of_ble_eq_true rfl⟩ ⟨Nat.le_of_ble_eq_true rfl, Nat.le_of_ble_eq_true rfl⟩ dL_call_26) (fun ce q9 H locs hw hce hcv hcl => ?_)
            refine vx_catch (own := RL) (name := "java/lang/IllegalArgumentException") E.2.2.2.1 [(⟨0, 269, 270, 74⟩ : ExceptionTableEntry)] (⟨0, 269, 275, 76⟩ : ExceptionTableEntry) [(⟨0, 269, 280, 78⟩ : ExceptionTableEntry)] (htab.trans rfl) (fun z hz => by rcases List.mem_cons.mp hz with rfl | hz; exact Or.inr ⟨by decide, _, E.2.2.2.2.1 _ q448, hX.2.2.2.1.2.1⟩; cases hz) (by decide) (by decide) (E.2.2.2.2.1 _ q449) (va_Nw.use rfl hX.2.2.1.1) hce hcv hcl ?_
            refine lv_astore (lv' := [(5, .ref q9), (0, .ref h0), (1, .int p1), (2, .int p2), (3, .int p3), (4, .int p4)]) hx hb dL_call_275 hl (by decide) rfl (fun ls hl => ?_)
            refine lv_bipush (v := (-12)) hx hb dL_call_277 (by decide) ?_
            obtain ⟨he0, hr⟩ := Prod.mk.inj (Option.some.inj hf)
            have he1 := hr
            subst he1
            refine W.widen (k := 1) (n := 6) (by decide) (by decide) ?_
            exact x_iM E ad hw he0 dL_call_279
          · rw [if_neg hq] at hf
            by_cases hq : ex = 2
            · rw [if_pos hq] at hf
              subst hq
              refine x_cX (en := "java/lang/IllegalStateException") (free := fun q => s.heap.size ≤ q) hw (fun q hq => hw.2.2.2 q hq) (x_rX E (As := [.int p2, .int 5, .int p3, .int p4]) (rest := []) (mx_X5_putBehind l hfl D I J O h0 n t b0 b1 hh ha ad s.heap.size p2 5 p3 p4 x 2 h) blX (x_recv E hw.1 0 5 rfl rfl rfl) (x_pcX E hX rfl (va_P.part hw.1 [0, 1, 2, 3, 4, 5, 6, 7, 8, 9, 10, 11, 12, 13, 14, 15, 16, 17, 18, 19, 20, 21, 22, 23, 24, 25, 26] rfl)) ok_X5_putBehind q469 rfl hl.1 rfl (Nat.le_of_ble_eq_true rfl) ⟨Nat.le_of_ble_eq_true rfl, Nat.le_of_ble_eq_true rfl⟩ ⟨Nat.le_of_ble_eq_true rfl, Nat.le_of_ble_eq_true rfl⟩ dL_call_26) (fun ce q9 H locs hw hce hcv hcl => ?_)
              refine vx_catch (own := RL) (name := "java/lang/IllegalStateException") E.2.2.2.1 [(⟨0, 269, 270, 74⟩ : ExceptionTableEntry), (⟨0, 269, 275, 76⟩ : ExceptionTableEntry)] (⟨0, 269, 280, 78⟩ : ExceptionTableEntry) [] (htab.trans rfl) (fun z hz => by rcases List.mem_cons.mp hz with rfl | hz; exact Or.inr ⟨by decide, _, E.2.2.2.2.1 _ q448, hX.2.2.2.1.2.2⟩; rcases List.mem_cons.mp hz with rfl | hz; exact Or.inr ⟨by decide, _, E.2.2.2.2.1 _ q449, hX.2.2.2.1.1⟩; cases hz) (by decide) (by decide) (E.2.2.2.2.1 _ q450) (va_Nw.use rfl hX.2.2.1.2.1) hce hcv hcl ?_
              refine lv_astore (lv' := [(5, .ref q9), (0, .ref h0), (1, .int p1), (2, .int p2), (3, .int p3), (4, .int p4)]) hx hb dL_call_280 hl (by decide) rfl (fun ls hl => ?_)
              refine lv_bipush (v := (-13)) hx hb dL_call_282 (by decide) ?_
              obtain ⟨he0, hr⟩ := Prod.mk.inj (Option.some.inj hf)
              have he1 := hr
              subst he1
              refine W.widen (k := 1) (n := 6) (by decide) (by decide) ?_
              exact x_iM E ad hw he0 dL_call_284
            · rw [if_neg hq] at hf
              cases hf
  · rw [if_pos hc] at hf
    refine lv_aload_n hx hb dL_call_4 rfl (lv_at hl 0 rfl) ?_
    refine lv_iload_n hx hb dL_call_5 rfl (lv_at hl 2 rfl) ?_
    refine lv_iload_n hx hb dL_call_6 rfl (lv_at hl 3 rfl) ?_
    refine lv_iload hx hb dL_call_7 (lv_at hl 4 rfl) ?_
    rcases ct_s hf with ⟨z30, h, hf⟩ | ⟨ex, h, hf⟩
    · refine x_miFP0 hw (x_rV E (As := [.int p2, .int p3, .int p4]) (rest := []) (mt_X5_put l D I J O h0 n t b0 b1 hh ha ad s.heap.size p2 p3 p4 x z30.1 z30.2 h) blM (x_recv E hw.1 0 5 rfl rfl rfl) (x_pcMPF0 E hw) ok_X5_put q451 rfl hl.1 rfl (Nat.le_of_ble_eq_true rfl) ⟨Nat.le_of_ble_eq_true rfl, Nat.le_of_ble_eq_true rfl⟩ ⟨Nat.le_of_ble_eq_true rfl, Nat.le_of_ble_eq_true rfl⟩ dL_call_9) (fun _ => rfl) (fun ad31 H locs hw => ?_)
      have hw : fy D (va_A ws0 sz) s.heap H locs (wCl I h0 n t b0 b1 hh z30.2 ++ wHi I O hh ha ad31 z30.2.2.2.1) := hw
      refine lv_goto (tgt := 269) hx hb dL_call_12 (by decide) ?_
      obtain ⟨he0, hr⟩ := Prod.mk.inj (Option.some.inj hf)
      have he1 := hr
      subst he1
      refine W.widen (k := 1) (n := 6) (by decide) (by decide) ?_
      exact x_iM E ad31 hw he0 dL_call_269
    · by_cases hq : ex = 3
      · rw [if_pos hq] at hf
        subst hq
        refine x_cX (en := "java/lang/IndexOutOfBoundsException") (free := fun q => s.heap.size ≤ q) hw (fun q hq => hw.2.2.2 q hq) (x_rX E (As := [.int p2, .int p3, .int p4]) (rest := []) (mx_X5_put l hfl D I J O h0 n t b0 b1 hh ha ad s.heap.size p2 p3 p4 x 3 h) blX (x_recv E hw.1 0 5 rfl rfl rfl) (x_pcX E hX rfl (va_P.part hw.1 [0, 1, 2, 3, 4, 5, 6, 7, 8, 9, 10, 11, 12, 13, 14, 15, 16, 17, 18, 19, 20, 21, 22, 23, 24, 25, 26] rfl)) ok_X5_put q451 rfl hl.1 rfl (Nat.le_of_ble_eq_true rfl) ⟨Nat.le_of_ble_eq_true rfl, Nat.le_of_ble_eq_true rfl⟩ ⟨Nat.le_of_ble_eq_true rfl, Nat.le_of_ble_eq_true rfl⟩ dL_call_9) (fun ce q9 H locs hw hce hcv hcl => ?_)
        refine vx_catch (own := RL) (name := "java/lang/IndexOutOfBoundsException") E.2.2.2.1 [] (⟨0, 269, 270, 74⟩ : ExceptionTableEntry) [(⟨0, 269, 275, 76⟩ : ExceptionTableEntry), (⟨0, 269, 280, 78⟩ : ExceptionTableEntry)] (htab.trans rfl) (fun z hz => nomatch hz) (by decide) (by decide) (E.2.2.2.2.1 _ q448) (va_Nw.use rfl hX.2.2.1.2.2) hce hcv hcl ?_
        refine lv_astore (lv' := [(5, .ref q9), (0, .ref h0), (1, .int p1), (2, .int p2), (3, .int p3), (4, .int p4)]) hx hb dL_call_270 hl (by decide) rfl (fun ls hl => ?_)
        refine lv_bipush (v := (-11)) hx hb dL_call_272 (by decide) ?_
        obtain ⟨he0, hr⟩ := Prod.mk.inj (Option.some.inj hf)
        have he1 := hr
        subst he1
        refine W.widen (k := 1) (n := 6) (by decide) (by decide) ?_
        exact x_iM E ad hw he0 dL_call_274
      · rw [if_neg hq] at hf
        by_cases hq : ex = 1
        · rw [if_pos hq] at hf
          subst hq
          refine x_cX (en := "java/lang/IllegalArgumentException") (free := fun q => s.heap.size ≤ q) hw (fun q hq => hw.2.2.2 q hq) (x_rX E (As := [.int p2, .int p3, .int p4]) (rest := []) (mx_X5_put l hfl D I J O h0 n t b0 b1 hh ha ad s.heap.size p2 p3 p4 x 1 h) blX (x_recv E hw.1 0 5 rfl rfl rfl) (x_pcX E hX rfl (va_P.part hw.1 [0, 1, 2, 3, 4, 5, 6, 7, 8, 9, 10, 11, 12, 13, 14, 15, 16, 17, 18, 19, 20, 21, 22, 23, 24, 25, 26] rfl)) ok_X5_put q451 rfl hl.1 rfl (Nat.le_of_ble_eq_true rfl) ⟨Nat.le_of_ble_eq_true rfl, Nat.le_of_ble_eq_true rfl⟩ ⟨Nat.le_of_ble_eq_true rfl, Nat.le_of_ble_eq_true rfl⟩ dL_call_9) (fun ce q9 H locs hw hce hcv hcl => ?_)
          refine vx_catch (own := RL) (name := "java/lang/IllegalArgumentException") E.2.2.2.1 [(⟨0, 269, 270, 74⟩ : ExceptionTableEntry)] (⟨0, 269, 275, 76⟩ : ExceptionTableEntry) [(⟨0, 269, 280, 78⟩ : ExceptionTableEntry)] (htab.trans rfl) (fun z hz => by rcases List.mem_cons.mp hz with rfl | hz; exact Or.inr ⟨by decide, _, E.2.2.2.2.1 _ q448, hX.2.2.2.1.2.1⟩; cases hz) (by decide) (by decide) (E.2.2.2.2.1 _ q449) (va_Nw.use rfl hX.2.2.1.1) hce hcv hcl ?_
          refine lv_astore (lv' := [(5, .ref q9), (0, .ref h0), (1, .int p1), (2, .int p2), (3, .int p3), (4, .int p4)]) hx hb dL_call_275 hl (by decide) rfl (fun ls hl => ?_)
          refine lv_bipush (v := (-12)) hx hb dL_call_277 (by decide) ?_
          obtain ⟨he0, hr⟩ := Prod.mk.inj (Option.some.inj hf)
          have he1 := hr
          subst he1
          refine W.widen (k := 1) (n := 6) (by decide) (by decide) ?_
          exact x_iM E ad hw he0 dL_call_279
        · rw [if_neg hq] at hf
          by_cases hq : ex = 2
          · rw [if_pos hq] at hf
            subst hq
            refine x_cX (en := "java/lang/IllegalStateException") (free := fun q => s.heap.size ≤ q) hw (fun q hq => hw.2.2.2 q hq) (x_rX E (As := [.int p2, .int p3, .int p4]) (rest := []) (mx_X5_put l hfl D I J O h0 n t b0 b1 hh ha ad s.heap.size p2 p3 p4 x 2 h) blX (x_recv E hw.1 0 5 rfl rfl rfl) (x_pcX E hX rfl (va_P.part hw.1 [0, 1, 2, 3, 4, 5, 6, 7, 8, 9, 10, 11, 12, 13, 14, 15, 16, 17, 18, 19, 20, 21, 22, 23, 24, 25, 26] rfl)) ok_X5_put q451 rfl hl.1 rfl (Nat.le_of_ble_eq_true rfl) ⟨Nat.le_of_ble_eq_true rfl, Nat.le_of_ble_eq_true rfl⟩ ⟨Nat.le_of_ble_eq_true rfl, Nat.le_of_ble_eq_true rfl⟩ dL_call_9) (fun ce q9 H locs hw hce hcv hcl => ?_)
            refine vx_catch (own := RL) (name := "java/lang/IllegalStateException") E.2.2.2.1 [(⟨0, 269, 270, 74⟩ : ExceptionTableEntry), (⟨0, 269, 275, 76⟩ : ExceptionTableEntry)] (⟨0, 269, 280, 78⟩ : ExceptionTableEntry) [] (htab.trans rfl) (fun z hz => by rcases List.mem_cons.mp hz with rfl | hz; exact Or.inr ⟨by decide, _, E.2.2.2.2.1 _ q448, hX.2.2.2.1.2.2⟩; rcases List.mem_cons.mp hz with rfl | hz; exact Or.inr ⟨by decide, _, E.2.2.2.2.1 _ q449, hX.2.2.2.1.1⟩; cases hz) (by decide) (by decide) (E.2.2.2.2.1 _ q450) (va_Nw.use rfl hX.2.2.1.2.1) hce hcv hcl ?_
            refine lv_astore (lv' := [(5, .ref q9), (0, .ref h0), (1, .int p1), (2, .int p2), (3, .int p3), (4, .int p4)]) hx hb dL_call_280 hl (by decide) rfl (fun ls hl => ?_)
            refine lv_bipush (v := (-13)) hx hb dL_call_282 (by decide) ?_
            obtain ⟨he0, hr⟩ := Prod.mk.inj (Option.some.inj hf)
            have he1 := hr
            subst he1
            refine W.widen (k := 1) (n := 6) (by decide) (by decide) ?_
            exact x_iM E ad hw he0 dL_call_284
          · rw [if_neg hq] at hf
            cases hf
