/-- an address ahead of some others -/
def nz (a : Nat) (u : Nat → Nat) : Nat → Nat := fun k => if k = 0 then a else u k
theorem q_oi : Cond.code objectInit object_method_1_code 1 none ∈ B0 := B0_t 22 (by decide +kernel) (by decide +kernel)
section
variable {p : Program} {l : Launch} {e : Env} {R : Room} {s : State} {m : MethodId} {args : Array Value} {below : List Frame} {meth : Method} {c : Code} {H H0 : Heap} {locs : List Loc} {cells slots mc ms : Nat} {Q : State → Prop} {pc : Nat} {ls : Array Slot} {rest st0 : List Value} {cc : ByteArray} {own : String} {nL : Nat} {rt : Option FieldType} {D : va_G} {I J O : ClassId} {A : Nat → Prop}
theorem x_ctor {S : Type} {w1 : S → va_W} {X : va_W} {q : Nat} {e0 : va_E} {av : Array Value} (E : fx p s m args meth c cc own nL rt D I J O) (hw : fy D A H0 H locs (X ++ [(q, e0)]))
    (hr : (∀ U : State, U.heap = H → s.WarmedH U.vm → pcM D I J O H.size [.ref q] [(q, e0)] ([.ref q] : List Value).toArray U) → va_Run p l e R s m args below meth c H locs cells slots mc ms (F0 m pc ls st0) rest (qMv D H.size [(q, e0)] w1 av) (va_A [(q, e0)] H.size))
    (kk : ∀ (u : S) (H1 : Heap) (locs1 : List Loc), fy D A H0 H1 locs1 (X ++ w1 u) → W p l e R s m args below meth c H1 locs1 (cells + mc) (slots + ms) Q (F0 m (pc + 3) ls rest)) : W p l e R s m args below meth c H locs cells slots Q (F0 m pc ls st0) := by
  refine x_mvP (X := X) (pl := [(q, e0)]) (wc := []) (rx := fun _ : S => []) (pl1 := w1) hw [] rfl rfl (hr (x_pcM (A := A) E (x_lastpl hw.1) ⟨fun i j a b h1 h2 _ => ?_, fun k a h => ?_⟩)) (fun _ => rfl) (fun u H1 locs1 h => kk u H1 locs1 h)
  · have g1 := (List.getElem?_eq_some_iff.mp h1).1
    have g2 := (List.getElem?_eq_some_iff.mp h2).1
    simp at g1 g2
    omega
  · exact hw.2.1.2 (X.length + k) a (by rw [List.getElem?_append_right (by omega), show X.length + k - X.length = k by omega]; exact h)
end
theorem W_postM {p : Program} {l : Launch} {e : Env} {R : Room} {s : State} {m : MethodId} {args : Array Value} {below : List Frame} {meth : Method} {c : Code} {H : Heap} {locs : List Loc} {cells slots mc ms : Nat} {g : JFrame} {D : va_G} {sz : Nat} {ws0 : va_W} {S : Type} {w1 : S → va_W} {w0 : va_W} (u : S) (h : ∀ _ : Unit, w0 = w1 u) (hk : W p l e R s m args below meth c H locs cells slots (MQ below (qMv D sz ws0 (fun _ : Unit => w0)) args s mc ms (va_A ws0 sz)) g) :
    W p l e R s m args below meth c H locs cells slots (MQ below (qMv D sz ws0 w1) args s mc ms (va_A ws0 sz)) g := by
  intro T hT X
  obtain ⟨t, a1, o, b1, b2, ⟨⟨_, h1, -, h2, h3⟩, h4⟩, b4⟩ := hk T hT X
  rw [h ()] at h2 h3
  exact ⟨t, a1, o, b1, b2, ⟨⟨u, h1, trivial, h2, h3⟩, h4⟩, b4⟩
set_option maxRecDepth 100000 in
set_option maxHeartbeats 4000000 in
theorem k_X2_init_60 {p : Program} {l : Launch} {e : Env} {s : State} {m : MethodId} {args : Array Value} {below : List Frame} {meth : Method} {c : Code} {D : va_G} {I J O : ClassId} (E : fx p s m args meth c cX2_init RX2 2 none D I J O) (a0 a1 a2 a3 a4 a5 a6 : Nat)  {ws0 : va_W} {sz : Nat} (y0 : SlC) : ∀ fu : Nat, ∀ (v1 : Int32) (x : SlC), f_X2_init_60 fu v1 x = some y0 → ∀ (H : Heap) (locs : List Loc), fy D (va_A ws0 sz) s.heap H locs (wSl I a0 a1 a2 a3 a4 a5 a6 x) → ∀ ls : Array Slot, lv_has ls 2 [(0, .ref a0), (1, .int v1)] → W p l e (rmB 1 20 6 384) s m args below meth c H locs 6 384 (MQ below (qMv D sz ws0 (fun _ : Unit => wSl I a0 a1 a2 a3 a4 a5 a6 y0)) args s 6 384 (va_A ws0 sz)) (F0 m 60 ls []) := by
  have hx := E.1
  have hb := E.2.1
  intro fu
  induction fu with
  | zero =>
    intro v1 x hf H locs hw ls hl
    rw [f_X2_init_60.eq_1] at hf
    cases hf
  | succ fu ih =>
    intro v1 x hf H locs hw ls hl
    rw [f_X2_init_60.eq_2] at hf
    refine lv_iload_n hx hb dX2_init_60 rfl (lv_at hl 1 rfl) ?_
    refine lv_bipush (v := 64) hx hb dX2_init_61 (by decide) ?_
    refine lv_icmp_ge (tgt := 79) hx hb dX2_init_63 (by decide) (fun hc => ?_) (fun hc => ?_)
    · rw [if_pos hc] at hf
      have he0 := (Option.some.inj hf)
      subst he0
      exact x_vM E () hw dX2_init_79
    · rw [if_neg hc] at hf
      refine lv_aload_n hx hb dX2_init_66 rfl (lv_at hl 0 rfl) ?_
      refine x_get E hw.1 0 rfl rfl in2 2 (by decide) q37 rfl rfl dX2_init_67 ?_
      refine lv_iload_n hx hb dX2_init_70 rfl (lv_at hl 1 rfl) ?_
      refine lv_iconst (v := (-1)) hx hb dX2_init_71 (by decide) ?_
      obtain ⟨g, hf⟩ := gi_s hf
      refine x_ast E hw 2 rfl g dX2_init_72 (fun H locs hw => ?_)
      have hw : fy D (va_A ws0 sz) s.heap H locs (wSl I a0 a1 a2 a3 a4 a5 a6 (x.1, x.2.1, (upd x.2.2.1 v1.toNatClampNeg (-1)), x.2.2.2)) := hw
      refine lv_iinc (v := v1 + 1) (lv' := [(1, .int (v1 + 1)), (0, .ref a0)]) hx hb dX2_init_73 hl (k := 1) rfl rfl (by decide) rfl (fun ls hl => ?_)
      refine lv_goto (tgt := 60) hx hb dX2_init_76 (by decide) ?_
      exact ih (v1 + 1) (x.1, x.2.1, (upd x.2.2.1 v1.toNatClampNeg (-1)), x.2.2.2) hf _ _ hw _ (lv_sub hl [1, 0] rfl)
theorem ok_X2_init : yI yX2_init cX2_init 2 0 := ⟨q33, q3, q32, rfl, by decide +kernel, by decide +kernel, by decide +kernel⟩
set_option maxRecDepth 100000 in
set_option maxHeartbeats 4000000 in
theorem mt_X2_init (l : Launch) (D : va_G) (I J O : ClassId) (a0 : Nat) (sz : Nat) (y0 : SlC) (hf : f_X2_init = some y0) : mM l yX2_init cX2_init 2 none 1 20 6 384 D I J O sz [.ref a0] [(a0, .inr (2, [.int 0, .null, .null, .null, .null, .null, .null]))] (qMv D sz [(a0, .inr (2, [.int 0, .null, .null, .null, .null, .null, .null]))] (fun u9 : Nat → Nat => wSl I a0 (u9 1) (u9 2) (u9 3) (u9 4) (u9 5) (u9 6) y0)) := by
  refine mM_open (own := RX2) rfl (by decide +kernel) (Nat.le_of_ble_eq_true rfl) (fun p e s m below meth c ls E hnm hsz hw hl => ?_)
  obtain ⟨ws0, hws⟩ : ∃ ws0 : va_W, ws0 = [(a0, .inr (2, [.int 0, .null, .null, .null, .null, .null, .null]))] := ⟨_, rfl⟩
  have hw : fy D (va_A ws0 sz) s.heap s.heap [] ([(a0, .inr (2, [.int 0, .null, .null, .null, .null, .null, .null]))]) := by rw [hws]; exact hw
  rw [← hws]
  have hx := E.1
  have hb := E.2.1
  have hl : lv_has ls 2 [(0, .ref a0)] := hl
  obtain ⟨L0, hL0⟩ : ∃ z : List Loc, z = [] := ⟨_, rfl⟩
  rw [← hL0] at hw ⊢
  refine lv_aload_n hx hb dX2_init_0 rfl (lv_at hl 0 rfl) ?_
  refine x_objI E hl.1 q34 q21 q_oi (Nat.le_of_ble_eq_true rfl) (Nat.le_of_ble_eq_true rfl) dX2_init_1 ?_
  refine lv_aload_n hx hb dX2_init_4 rfl (lv_at hl 0 rfl) ?_
  refine lv_bipush (v := 16) hx hb dX2_init_5 (by decide) ?_
  refine x_put E hw 0 rfl rfl in2 tyX2_ok nmX2 0 (by decide) q35 rfl rfl rfl rfl (Nat.le_of_ble_eq_true rfl) dX2_init_7 (fun H locs hw => ?_)
  have hw : fy D (va_A ws0 sz) s.heap H locs ([(a0, .inr (2, [.int 16, .null, .null, .null, .null, .null, .null]))]) := hw
  refine lv_aload_n hx hb dX2_init_10 rfl (lv_at hl 0 rfl) ?_
  refine lv_bipush (v := 64) hx hb dX2_init_11 (by decide) ?_
  refine x_newi (N := 64) E q57 hw (by decide) (by decide) (Nat.le_of_ble_eq_true rfl) (Nat.le_of_ble_eq_true rfl) (Nat.le_of_ble_eq_true rfl) dX2_init_13 (fun aq1 H hw => ?_)
  have hw : fy D (va_A ws0 sz) s.heap H locs ([(a0, .inr (2, [.int 16, .null, .null, .null, .null, .null, .null]))] ++ [(aq1, .inl (I, 64, .inl (fun _ => 0)))]) := hw
  refine x_putF E hw 0 rfl rfl in2 tyX2_ok nmX2 1 (by decide) q36 rfl rfl hnm rfl rfl (Nat.le_of_ble_eq_true rfl) dX2_init_15 (fun H locs hw => ?_)
  have hw : fy D (va_A ws0 sz) s.heap H locs ([(a0, .inr (2, [.int 16, .ref aq1, .null, .null, .null, .null, .null]))] ++ [(aq1, .inl (I, 64, .inl (fun _ => 0)))]) := hw
  refine lv_aload_n hx hb dX2_init_18 rfl (lv_at hl 0 rfl) ?_
  refine lv_bipush (v := 64) hx hb dX2_init_19 (by decide) ?_
  refine x_newi (N := 64) E q57 hw (by decide) (by decide) (Nat.le_of_ble_eq_true rfl) (Nat.le_of_ble_eq_true rfl) (Nat.le_of_ble_eq_true rfl) dX2_init_21 (fun aq2 H hw => ?_)
  have hw : fy D (va_A ws0 sz) s.heap H locs ([(a0, .inr (2, [.int 16, .ref aq1, .null, .null, .null, .null, .null]))] ++ [(aq1, .inl (I, 64, .inl (fun _ => 0)))] ++ [(aq2, .inl (I, 64, .inl (fun _ => 0)))]) := hw
  refine x_putF E hw 0 rfl rfl in2 tyX2_ok nmX2 2 (by decide) q37 rfl rfl hnm rfl rfl (Nat.le_of_ble_eq_true rfl) dX2_init_23 (fun H locs hw => ?_)
  have hw : fy D (va_A ws0 sz) s.heap H locs ([(a0, .inr (2, [.int 16, .ref aq1, .ref aq2, .null, .null, .null, .null]))] ++ [(aq1, .inl (I, 64, .inl (fun _ => 0)))] ++ [(aq2, .inl (I, 64, .inl (fun _ => 0)))]) := hw
  refine lv_aload_n hx hb dX2_init_26 rfl (lv_at hl 0 rfl) ?_
  refine lv_bipush (v := 64) hx hb dX2_init_27 (by decide) ?_
  refine x_newi (N := 64) E q57 hw (by decide) (by decide) (Nat.le_of_ble_eq_true rfl) (Nat.le_of_ble_eq_true rfl) (Nat.le_of_ble_eq_true rfl) dX2_init_29 (fun aq3 H hw => ?_)
  have hw : fy D (va_A ws0 sz) s.heap H locs ([(a0, .inr (2, [.int 16, .ref aq1, .ref aq2, .null, .null, .null, .null]))] ++ [(aq1, .inl (I, 64, .inl (fun _ => 0)))] ++ [(aq2, .inl (I, 64, .inl (fun _ => 0)))] ++ [(aq3, .inl (I, 64, .inl (fun _ => 0)))]) := hw
  refine x_putF E hw 0 rfl rfl in2 tyX2_ok nmX2 3 (by decide) q38 rfl rfl hnm rfl rfl (Nat.le_of_ble_eq_true rfl) dX2_init_31 (fun H locs hw => ?_)
  have hw : fy D (va_A ws0 sz) s.heap H locs ([(a0, .inr (2, [.int 16, .ref aq1, .ref aq2, .ref aq3, .null, .null, .null]))] ++ [(aq1, .inl (I, 64, .inl (fun _ => 0)))] ++ [(aq2, .inl (I, 64, .inl (fun _ => 0)))] ++ [(aq3, .inl (I, 64, .inl (fun _ => 0)))]) := hw
  refine lv_aload_n hx hb dX2_init_34 rfl (lv_at hl 0 rfl) ?_
  refine lv_bipush (v := 64) hx hb dX2_init_35 (by decide) ?_
  refine x_newi (N := 64) E q57 hw (by decide) (by decide) (Nat.le_of_ble_eq_true rfl) (Nat.le_of_ble_eq_true rfl) (Nat.le_of_ble_eq_true rfl) dX2_init_37 (fun aq4 H hw => ?_)
  have hw : fy D (va_A ws0 sz) s.heap H locs ([(a0, .inr (2, [.int 16, .ref aq1, .ref aq2, .ref aq3, .null, .null, .null]))] ++ [(aq1, .inl (I, 64, .inl (fun _ => 0)))] ++ [(aq2, .inl (I, 64, .inl (fun _ => 0)))] ++ [(aq3, .inl (I, 64, .inl (fun _ => 0)))] ++ [(aq4, .inl (I, 64, .inl (fun _ => 0)))]) := hw
  refine x_putF E hw 0 rfl rfl in2 tyX2_ok nmX2 4 (by decide) q39 rfl rfl hnm rfl rfl (Nat.le_of_ble_eq_true rfl) dX2_init_39 (fun H locs hw => ?_)
  have hw : fy D (va_A ws0 sz) s.heap H locs ([(a0, .inr (2, [.int 16, .ref aq1, .ref aq2, .ref aq3, .ref aq4, .null, .null]))] ++ [(aq1, .inl (I, 64, .inl (fun _ => 0)))] ++ [(aq2, .inl (I, 64, .inl (fun _ => 0)))] ++ [(aq3, .inl (I, 64, .inl (fun _ => 0)))] ++ [(aq4, .inl (I, 64, .inl (fun _ => 0)))]) := hw
  refine lv_aload_n hx hb dX2_init_42 rfl (lv_at hl 0 rfl) ?_
  refine lv_bipush (v := 64) hx hb dX2_init_43 (by decide) ?_
  refine x_newi (N := 64) E q57 hw (by decide) (by decide) (Nat.le_of_ble_eq_true rfl) (Nat.le_of_ble_eq_true rfl) (Nat.le_of_ble_eq_true rfl) dX2_init_45 (fun aq5 H hw => ?_)
  have hw : fy D (va_A ws0 sz) s.heap H locs ([(a0, .inr (2, [.int 16, .ref aq1, .ref aq2, .ref aq3, .ref aq4, .null, .null]))] ++ [(aq1, .inl (I, 64, .inl (fun _ => 0)))] ++ [(aq2, .inl (I, 64, .inl (fun _ => 0)))] ++ [(aq3, .inl (I, 64, .inl (fun _ => 0)))] ++ [(aq4, .inl (I, 64, .inl (fun _ => 0)))] ++ [(aq5, .inl (I, 64, .inl (fun _ => 0)))]) := hw
  refine x_putF E hw 0 rfl rfl in2 tyX2_ok nmX2 5 (by decide) q40 rfl rfl hnm rfl rfl (Nat.le_of_ble_eq_true rfl) dX2_init_47 (fun H locs hw => ?_)
  have hw : fy D (va_A ws0 sz) s.heap H locs ([(a0, .inr (2, [.int 16, .ref aq1, .ref aq2, .ref aq3, .ref aq4, .ref aq5, .null]))] ++ [(aq1, .inl (I, 64, .inl (fun _ => 0)))] ++ [(aq2, .inl (I, 64, .inl (fun _ => 0)))] ++ [(aq3, .inl (I, 64, .inl (fun _ => 0)))] ++ [(aq4, .inl (I, 64, .inl (fun _ => 0)))] ++ [(aq5, .inl (I, 64, .inl (fun _ => 0)))]) := hw
  refine lv_aload_n hx hb dX2_init_50 rfl (lv_at hl 0 rfl) ?_
  refine lv_bipush (v := 64) hx hb dX2_init_51 (by decide) ?_
  refine x_newi (N := 64) E q57 hw (by decide) (by decide) (Nat.le_of_ble_eq_true rfl) (Nat.le_of_ble_eq_true rfl) (Nat.le_of_ble_eq_true rfl) dX2_init_53 (fun aq6 H hw => ?_)
  have hw : fy D (va_A ws0 sz) s.heap H locs ([(a0, .inr (2, [.int 16, .ref aq1, .ref aq2, .ref aq3, .ref aq4, .ref aq5, .null]))] ++ [(aq1, .inl (I, 64, .inl (fun _ => 0)))] ++ [(aq2, .inl (I, 64, .inl (fun _ => 0)))] ++ [(aq3, .inl (I, 64, .inl (fun _ => 0)))] ++ [(aq4, .inl (I, 64, .inl (fun _ => 0)))] ++ [(aq5, .inl (I, 64, .inl (fun _ => 0)))] ++ [(aq6, .inl (I, 64, .inl (fun _ => 0)))]) := hw
  refine x_putF E hw 0 rfl rfl in2 tyX2_ok nmX2 6 (by decide) q41 rfl rfl hnm rfl rfl (Nat.le_of_ble_eq_true rfl) dX2_init_55 (fun H locs hw => ?_)
  have hw : fy D (va_A ws0 sz) s.heap H locs ([(a0, .inr (2, [.int 16, .ref aq1, .ref aq2, .ref aq3, .ref aq4, .ref aq5, .ref aq6]))] ++ [(aq1, .inl (I, 64, .inl (fun _ => 0)))] ++ [(aq2, .inl (I, 64, .inl (fun _ => 0)))] ++ [(aq3, .inl (I, 64, .inl (fun _ => 0)))] ++ [(aq4, .inl (I, 64, .inl (fun _ => 0)))] ++ [(aq5, .inl (I, 64, .inl (fun _ => 0)))] ++ [(aq6, .inl (I, 64, .inl (fun _ => 0)))]) := hw
  refine lv_iconst (v := 0) hx hb dX2_init_58 (by decide) ?_
  refine lv_istore_n (lv' := [(1, .int 0), (0, .ref a0)]) hx hb dX2_init_59 rfl hl (by decide) rfl (fun ls hl => ?_)
  have hw : fy D (va_A ws0 sz) s.heap H locs (wSl I a0 aq1 aq2 aq3 aq4 aq5 aq6 (16, (fun _ => 0), (fun _ => 0), (fun _ => 0), (fun _ => 0), (fun _ => 0), (fun _ => 0))) := hw
  unfold f_X2_init at hf
  exact W_postM (ws0 := ws0) (sz := sz) (w0 := wSl I a0 aq1 aq2 aq3 aq4 aq5 aq6 y0) (w1 := fun u9 : Nat → Nat => wSl I a0 (u9 1) (u9 2) (u9 3) (u9 4) (u9 5) (u9 6) y0) (fun k => [a0, aq1, aq2, aq3, aq4, aq5, aq6].getD k 0) (fun _ => rfl) (k_X2_init_60 E a0 aq1 aq2 aq3 aq4 aq5 aq6 y0 FU 0 (16, (fun _ => 0), (fun _ => 0), (fun _ => 0), (fun _ => 0), (fun _ => 0), (fun _ => 0)) hf H locs hw ls (lv_sub hl [1, 0] rfl))
set_option maxRecDepth 100000 in
set_option maxHeartbeats 4000000 in
theorem k_X1_init_26 {p : Program} {l : Launch} {e : Env} {s : State} {m : MethodId} {args : Array Value} {below : List Frame} {meth : Method} {c : Code} {D : va_G} {I J O : ClassId} (E : fx p s m args meth c cX1_init RX1 2 none D I J O) (a0 a1 a2 : Nat)  {ws0 : va_W} {sz : Nat} (y0 : RwC) : ∀ fu : Nat, ∀ (v1 : Int32) (x : RwC), f_X1_init_26 fu v1 x = some y0 → ∀ (H : Heap) (locs : List Loc), fy D (va_A ws0 sz) s.heap H locs (wRw I a0 a1 a2 x) → ∀ ls : Array Slot, lv_has ls 2 [(0, .ref a0), (1, .int v1)] → W p l e (rmB 1 20 2 72) s m args below meth c H locs 2 72 (MQ below (qMv D sz ws0 (fun _ : Unit => wRw I a0 a1 a2 y0)) args s 2 72 (va_A ws0 sz)) (F0 m 26 ls []) := by
  have hx := E.1
  have hb := E.2.1
  intro fu
  induction fu with
  | zero =>
    intro v1 x hf H locs hw ls hl
    rw [f_X1_init_26.eq_1] at hf
    cases hf
  | succ fu ih =>
    intro v1 x hf H locs hw ls hl
    rw [f_X1_init_26.eq_2] at hf
    refine lv_iload_n hx hb dX1_init_26 rfl (lv_at hl 1 rfl) ?_
    refine lv_iconst (v := 4) hx hb dX1_init_27 (by decide) ?_
    refine lv_icmp_ge (tgt := 44) hx hb dX1_init_28 (by decide) (fun hc => ?_) (fun hc => ?_)
    · rw [if_pos hc] at hf
      have he0 := (Option.some.inj hf)
      subst he0
      exact x_vM E () hw dX1_init_44
    · rw [if_neg hc] at hf
      refine lv_aload_n hx hb dX1_init_31 rfl (lv_at hl 0 rfl) ?_
      refine x_get E hw.1 0 rfl rfl in1 2 (by decide) q66 rfl rfl dX1_init_32 ?_
      refine lv_iload_n hx hb dX1_init_35 rfl (lv_at hl 1 rfl) ?_
      refine lv_iconst (v := (-1)) hx hb dX1_init_36 (by decide) ?_
      obtain ⟨g, hf⟩ := gi_s hf
      refine x_ast E hw 2 rfl g dX1_init_37 (fun H locs hw => ?_)
      have hw : fy D (va_A ws0 sz) s.heap H locs (wRw I a0 a1 a2 (x.1, x.2.1, (upd x.2.2 v1.toNatClampNeg (-1)))) := hw
      refine lv_iinc (v := v1 + 1) (lv' := [(1, .int (v1 + 1)), (0, .ref a0)]) hx hb dX1_init_38 hl (k := 1) rfl rfl (by decide) rfl (fun ls hl => ?_)
      refine lv_goto (tgt := 26) hx hb dX1_init_41 (by decide) ?_
      exact ih (v1 + 1) (x.1, x.2.1, (upd x.2.2 v1.toNatClampNeg (-1))) hf _ _ hw _ (lv_sub hl [1, 0] rfl)
theorem ok_X1_init : yI yX1_init cX1_init 2 0 := ⟨q62, q4, q61, rfl, by decide +kernel, by decide +kernel, by decide +kernel⟩
set_option maxRecDepth 100000 in
set_option maxHeartbeats 4000000 in
theorem mt_X1_init (l : Launch) (D : va_G) (I J O : ClassId) (a0 : Nat) (sz : Nat) (y0 : RwC) (hf : f_X1_init = some y0) : mM l yX1_init cX1_init 2 none 1 20 2 72 D I J O sz [.ref a0] [(a0, .inr (1, [.int 0, .null, .null]))] (qMv D sz [(a0, .inr (1, [.int 0, .null, .null]))] (fun u9 : Nat → Nat => wRw I a0 (u9 1) (u9 2) y0)) := by
  refine mM_open (own := RX1) rfl (by decide +kernel) (Nat.le_of_ble_eq_true rfl) (fun p e s m below meth c ls E hnm hsz hw hl => ?_)
  obtain ⟨ws0, hws⟩ : ∃ ws0 : va_W, ws0 = [(a0, .inr (1, [.int 0, .null, .null]))] := ⟨_, rfl⟩
  have hw : fy D (va_A ws0 sz) s.heap s.heap [] ([(a0, .inr (1, [.int 0, .null, .null]))]) := by rw [hws]; exact hw
  rw [← hws]
  have hx := E.1
  have hb := E.2.1
  have hl : lv_has ls 2 [(0, .ref a0)] := hl
  obtain ⟨L0, hL0⟩ : ∃ z : List Loc, z = [] := ⟨_, rfl⟩
  rw [← hL0] at hw ⊢
  refine lv_aload_n hx hb dX1_init_0 rfl (lv_at hl 0 rfl) ?_
  refine x_objI E hl.1 q63 q21 q_oi (Nat.le_of_ble_eq_true rfl) (Nat.le_of_ble_eq_true rfl) dX1_init_1 ?_
  refine lv_aload_n hx hb dX1_init_4 rfl (lv_at hl 0 rfl) ?_
  refine lv_iconst (v := 0) hx hb dX1_init_5 (by decide) ?_
  refine x_put E hw 0 rfl rfl in1 tyX1_ok nmX1 0 (by decide) q64 rfl rfl rfl rfl (Nat.le_of_ble_eq_true rfl) dX1_init_6 (fun H locs hw => ?_)
  have hw : fy D (va_A ws0 sz) s.heap H locs ([(a0, .inr (1, [.int 0, .null, .null]))]) := hw
  refine lv_aload_n hx hb dX1_init_9 rfl (lv_at hl 0 rfl) ?_
  refine lv_bipush (v := 68) hx hb dX1_init_10 (by decide) ?_
  refine x_newi (N := 68) E q57 hw (by decide) (by decide) (Nat.le_of_ble_eq_true rfl) (Nat.le_of_ble_eq_true rfl) (Nat.le_of_ble_eq_true rfl) dX1_init_12 (fun aq1 H hw => ?_)
  have hw : fy D (va_A ws0 sz) s.heap H locs ([(a0, .inr (1, [.int 0, .null, .null]))] ++ [(aq1, .inl (I, 68, .inl (fun _ => 0)))]) := hw
  refine x_putF E hw 0 rfl rfl in1 tyX1_ok nmX1 1 (by decide) q65 rfl rfl hnm rfl rfl (Nat.le_of_ble_eq_true rfl) dX1_init_14 (fun H locs hw => ?_)
  have hw : fy D (va_A ws0 sz) s.heap H locs ([(a0, .inr (1, [.int 0, .ref aq1, .null]))] ++ [(aq1, .inl (I, 68, .inl (fun _ => 0)))]) := hw
  refine lv_aload_n hx hb dX1_init_17 rfl (lv_at hl 0 rfl) ?_
  refine lv_iconst (v := 4) hx hb dX1_init_18 (by decide) ?_
  refine x_newi (N := 4) E q57 hw (by decide) (by decide) (Nat.le_of_ble_eq_true rfl) (Nat.le_of_ble_eq_true rfl) (Nat.le_of_ble_eq_true rfl) dX1_init_19 (fun aq2 H hw => ?_)
  have hw : fy D (va_A ws0 sz) s.heap H locs ([(a0, .inr (1, [.int 0, .ref aq1, .null]))] ++ [(aq1, .inl (I, 68, .inl (fun _ => 0)))] ++ [(aq2, .inl (I, 4, .inl (fun _ => 0)))]) := hw
  refine x_putF E hw 0 rfl rfl in1 tyX1_ok nmX1 2 (by decide) q66 rfl rfl hnm rfl rfl (Nat.le_of_ble_eq_true rfl) dX1_init_21 (fun H locs hw => ?_)
  have hw : fy D (va_A ws0 sz) s.heap H locs ([(a0, .inr (1, [.int 0, .ref aq1, .ref aq2]))] ++ [(aq1, .inl (I, 68, .inl (fun _ => 0)))] ++ [(aq2, .inl (I, 4, .inl (fun _ => 0)))]) := hw
  refine lv_iconst (v := 0) hx hb dX1_init_24 (by decide) ?_
  refine lv_istore_n (lv' := [(1, .int 0), (0, .ref a0)]) hx hb dX1_init_25 rfl hl (by decide) rfl (fun ls hl => ?_)
  have hw : fy D (va_A ws0 sz) s.heap H locs (wRw I a0 aq1 aq2 (0, (fun _ => 0), (fun _ => 0))) := hw
  unfold f_X1_init at hf
  exact W_postM (ws0 := ws0) (sz := sz) (w0 := wRw I a0 aq1 aq2 y0) (w1 := fun u9 : Nat → Nat => wRw I a0 (u9 1) (u9 2) y0) (fun k => [a0, aq1, aq2].getD k 0) (fun _ => rfl) (k_X1_init_26 E a0 aq1 aq2 y0 FU 0 (0, (fun _ => 0), (fun _ => 0)) hf H locs hw ls (lv_sub hl [1, 0] rfl))
theorem ok_X4_init : yI yX4_init cX4_init 1 0 := ⟨q122, q6, q121, rfl, by decide +kernel, by decide +kernel, by decide +kernel⟩
set_option maxRecDepth 100000 in
set_option maxHeartbeats 4000000 in
theorem mt_X4_init (l : Launch) (D : va_G) (I J O : ClassId) (a0 : Nat) (sz : Nat) (y0 : TxC) (hf : f_X4_init = some y0) : mM l yX4_init cX4_init 1 none 1 20 1 60 D I J O sz [.ref a0] [(a0, .inr (4, [.null, .int 0]))] (qMv D sz [(a0, .inr (4, [.null, .int 0]))] (fun u9 : Nat → Nat => wTx I a0 (u9 1) y0)) := by
  refine mM_open (own := RX4) rfl (by decide +kernel) (Nat.le_of_ble_eq_true rfl) (fun p e s m below meth c ls E hnm hsz hw hl => ?_)
  obtain ⟨ws0, hws⟩ : ∃ ws0 : va_W, ws0 = [(a0, .inr (4, [.null, .int 0]))] := ⟨_, rfl⟩
  have hw : fy D (va_A ws0 sz) s.heap s.heap [] ([(a0, .inr (4, [.null, .int 0]))]) := by rw [hws]; exact hw
  rw [← hws]
  have hx := E.1
  have hb := E.2.1
  have hl : lv_has ls 1 [(0, .ref a0)] := hl
  obtain ⟨L0, hL0⟩ : ∃ z : List Loc, z = [] := ⟨_, rfl⟩
  rw [← hL0] at hw ⊢
  unfold f_X4_init at hf
  refine lv_aload_n hx hb dX4_init_0 rfl (lv_at hl 0 rfl) ?_
  refine x_objI E hl.1 q123 q21 q_oi (Nat.le_of_ble_eq_true rfl) (Nat.le_of_ble_eq_true rfl) dX4_init_1 ?_
  refine lv_aload_n hx hb dX4_init_4 rfl (lv_at hl 0 rfl) ?_
  refine lv_bipush (v := 60) hx hb dX4_init_5 (by decide) ?_
  refine x_newi (N := 60) E q57 hw (by decide) (by decide) (Nat.le_of_ble_eq_true rfl) (Nat.le_of_ble_eq_true rfl) (Nat.le_of_ble_eq_true rfl) dX4_init_7 (fun aq1 H hw => ?_)
  have hw : fy D (va_A ws0 sz) s.heap H L0 ([(a0, .inr (4, [.null, .int 0]))] ++ [(aq1, .inl (I, 60, .inl (fun _ => 0)))]) := hw
  refine x_putF E hw 0 rfl rfl in4 tyX4_ok nmX4 0 (by decide) q124 rfl rfl hnm rfl rfl (Nat.le_of_ble_eq_true rfl) dX4_init_9 (fun H locs hw => ?_)
  have hw : fy D (va_A ws0 sz) s.heap H locs ([(a0, .inr (4, [.ref aq1, .int 0]))] ++ [(aq1, .inl (I, 60, .inl (fun _ => 0)))]) := hw
  refine lv_aload_n hx hb dX4_init_12 rfl (lv_at hl 0 rfl) ?_
  refine lv_iconst (v := 0) hx hb dX4_init_13 (by decide) ?_
  refine x_put E hw 0 rfl rfl in4 tyX4_ok nmX4 1 (by decide) q125 rfl rfl rfl rfl (Nat.le_of_ble_eq_true rfl) dX4_init_14 (fun H locs hw => ?_)
  have hw : fy D (va_A ws0 sz) s.heap H locs ([(a0, .inr (4, [.ref aq1, .int 0]))] ++ [(aq1, .inl (I, 60, .inl (fun _ => 0)))]) := hw
  have h0 := Option.some.inj hf
  subst h0
  have hw : fy D (va_A ws0 sz) s.heap H locs (wTx I a0 ((fun k => [a0, aq1].getD k 0) 1) ((fun _ => 0), 0)) := hw
  exact x_vM E (fun k => [a0, aq1].getD k 0) hw dX4_init_17
theorem ok_X3_init : yI yX3_init cX3_init 1 0 := ⟨q27, q2, q26, rfl, by decide +kernel, by decide +kernel, by decide +kernel⟩
set_option maxRecDepth 100000 in
set_option maxHeartbeats 4000000 in
theorem mt_X3_init (l : Launch) (D : va_G) (I J O : ClassId) (a0 : Nat) (sz : Nat) (y0 : StC) (hf : f_X3_init = some y0) : mM l yX3_init cX3_init 1 none 2 41 11 530 D I J O sz [.ref a0] [(a0, .inr (3, [.null, .null, .null, .int 0, .int 0, .int 0, .int 0]))] (qMv D sz [(a0, .inr (3, [.null, .null, .null, .int 0, .int 0, .int 0, .int 0]))] (fun u9 : Nat → Nat => wSt I (nz a0 u9) y0)) := by
  refine mM_open (own := RX3) rfl (by decide +kernel) (Nat.le_of_ble_eq_true rfl) (fun p e s m below meth c ls E hnm hsz hw hl => ?_)
  obtain ⟨ws0, hws⟩ : ∃ ws0 : va_W, ws0 = [(a0, .inr (3, [.null, .null, .null, .int 0, .int 0, .int 0, .int 0]))] := ⟨_, rfl⟩
  have hw : fy D (va_A ws0 sz) s.heap s.heap [] ([(a0, .inr (3, [.null, .null, .null, .int 0, .int 0, .int 0, .int 0]))]) := by rw [hws]; exact hw
  rw [← hws]
  have hx := E.1
  have hb := E.2.1
  have hl : lv_has ls 1 [(0, .ref a0)] := hl
  obtain ⟨L0, hL0⟩ : ∃ z : List Loc, z = [] := ⟨_, rfl⟩
  rw [← hL0] at hw ⊢
  unfold f_X3_init at hf
  refine lv_aload_n hx hb dX3_init_0 rfl (lv_at hl 0 rfl) ?_
  refine x_objI E hl.1 q28 q21 q_oi (Nat.le_of_ble_eq_true rfl) (Nat.le_of_ble_eq_true rfl) dX3_init_1 ?_
  refine lv_aload_n hx hb dX3_init_4 rfl (lv_at hl 0 rfl) ?_
  refine x_new (ci := 2) (fs := [.int 0, .null, .null, .null, .null, .null, .null]) E hw rfl in2 tyX2_ok q29 q30 q3 (fun j hj => by rcases (show j = 0 ∨ j = 1 ∨ j = 2 ∨ j = 3 ∨ j = 4 ∨ j = 5 ∨ j = 6 by omega) with rfl | rfl | rfl | rfl | rfl | rfl | rfl <;> rfl) (Nat.le_of_ble_eq_true rfl) (Nat.le_of_ble_eq_true rfl) dX3_init_5 (fun aq1 H hw => ?_)
  have hw : fy D (va_A ws0 sz) s.heap H L0 ([(a0, .inr (3, [.null, .null, .null, .int 0, .int 0, .int 0, .int 0]))] ++ [(aq1, .inr (2, [.int 0, .null, .null, .null, .null, .null, .null]))]) := hw
  refine lv_dup hx hb dX3_init_8 rfl ?_
  obtain ⟨z1, hz1, hf⟩ := bd_s hf
  refine x_ctor (w1 := fun (u1 : Nat → Nat) => wSl I aq1 (u1 1) (u1 2) (u1 3) (u1 4) (u1 5) (u1 6) z1) E hw (fun hpc => x_rI E (As := []) (rest := [.ref aq1, .ref a0]) (mt_X2_init l D I J O aq1 H.size z1 hz1) blM hpc ok_X2_init q31 rfl hl.1 rfl (Nat.le_of_ble_eq_true rfl) ⟨Nat.le_of_ble_eq_true rfl, Nat.le_of_ble_eq_true rfl⟩ ⟨Nat.le_of_ble_eq_true rfl, Nat.le_of_ble_eq_true rfl⟩ dX3_init_9) (fun u1 H locs hw => ?_)
  have hw : fy D (va_A ws0 sz) s.heap H locs ([(a0, .inr (3, [.null, .null, .null, .int 0, .int 0, .int 0, .int 0]))] ++ (wSl I aq1 (u1 1) (u1 2) (u1 3) (u1 4) (u1 5) (u1 6) z1)) := hw
  refine x_putF E hw 0 rfl rfl in3 tyX3_ok nmX3 0 (by decide) q74 rfl rfl hnm rfl rfl (Nat.le_of_ble_eq_true rfl) dX3_init_12 (fun H locs hw => ?_)
  have hw : fy D (va_A ws0 sz) s.heap H locs ([(a0, .inr (3, [.ref aq1, .null, .null, .int 0, .int 0, .int 0, .int 0]))] ++ (wSl I aq1 (u1 1) (u1 2) (u1 3) (u1 4) (u1 5) (u1 6) z1)) := hw
  refine lv_aload_n hx hb dX3_init_15 rfl (lv_at hl 0 rfl) ?_
  refine x_new (ci := 1) (fs := [.int 0, .null, .null]) E hw rfl in1 tyX1_ok q58 q59 q4 (fun j hj => by rcases (show j = 0 ∨ j = 1 ∨ j = 2 by omega) with rfl | rfl | rfl <;> rfl) (Nat.le_of_ble_eq_true rfl) (Nat.le_of_ble_eq_true rfl) dX3_init_16 (fun aq2 H hw => ?_)
  have hw : fy D (va_A ws0 sz) s.heap H locs ([(a0, .inr (3, [.ref aq1, .null, .null, .int 0, .int 0, .int 0, .int 0]))] ++ (wSl I aq1 (u1 1) (u1 2) (u1 3) (u1 4) (u1 5) (u1 6) z1) ++ [(aq2, .inr (1, [.int 0, .null, .null]))]) := hw
  refine lv_dup hx hb dX3_init_19 rfl ?_
  obtain ⟨z2, hz2, hf⟩ := bd_s hf
  refine x_ctor (w1 := fun (u2 : Nat → Nat) => wRw I aq2 (u2 1) (u2 2) z2) E hw (fun hpc => x_rI E (As := []) (rest := [.ref aq2, .ref a0]) (mt_X1_init l D I J O aq2 H.size z2 hz2) blM hpc ok_X1_init q60 rfl hl.1 rfl (Nat.le_of_ble_eq_true rfl) ⟨Nat.le_of_ble_eq_true rfl, Nat.le_of_ble_eq_true rfl⟩ ⟨Nat.le_of_ble_eq_true rfl, Nat.le_of_ble_eq_true rfl⟩ dX3_init_20) (fun u2 H locs hw => ?_)
  have hw : fy D (va_A ws0 sz) s.heap H locs ([(a0, .inr (3, [.ref aq1, .null, .null, .int 0, .int 0, .int 0, .int 0]))] ++ (wSl I aq1 (u1 1) (u1 2) (u1 3) (u1 4) (u1 5) (u1 6) z1) ++ (wRw I aq2 (u2 1) (u2 2) z2)) := hw
  refine x_putF E hw 0 rfl rfl in3 tyX3_ok nmX3 1 (by decide) q76 rfl rfl hnm rfl rfl (Nat.le_of_ble_eq_true rfl) dX3_init_23 (fun H locs hw => ?_)
  have hw : fy D (va_A ws0 sz) s.heap H locs ([(a0, .inr (3, [.ref aq1, .ref aq2, .null, .int 0, .int 0, .int 0, .int 0]))] ++ (wSl I aq1 (u1 1) (u1 2) (u1 3) (u1 4) (u1 5) (u1 6) z1) ++ (wRw I aq2 (u2 1) (u2 2) z2)) := hw
  refine lv_aload_n hx hb dX3_init_26 rfl (lv_at hl 0 rfl) ?_
  refine lv_bipush (v := 64) hx hb dX3_init_27 (by decide) ?_
  refine x_newi (N := 64) E q57 hw (by decide) (by decide) (Nat.le_of_ble_eq_true rfl) (Nat.le_of_ble_eq_true rfl) (Nat.le_of_ble_eq_true rfl) dX3_init_29 (fun aq3 H hw => ?_)
  have hw : fy D (va_A ws0 sz) s.heap H locs ([(a0, .inr (3, [.ref aq1, .ref aq2, .null, .int 0, .int 0, .int 0, .int 0]))] ++ (wSl I aq1 (u1 1) (u1 2) (u1 3) (u1 4) (u1 5) (u1 6) z1) ++ (wRw I aq2 (u2 1) (u2 2) z2) ++ [(aq3, .inl (I, 64, .inl (fun _ => 0)))]) := hw
  refine x_putF E hw 0 rfl rfl in3 tyX3_ok nmX3 2 (by decide) q78 rfl rfl hnm rfl rfl (Nat.le_of_ble_eq_true rfl) dX3_init_31 (fun H locs hw => ?_)
  have hw : fy D (va_A ws0 sz) s.heap H locs ([(a0, .inr (3, [.ref aq1, .ref aq2, .ref aq3, .int 0, .int 0, .int 0, .int 0]))] ++ (wSl I aq1 (u1 1) (u1 2) (u1 3) (u1 4) (u1 5) (u1 6) z1) ++ (wRw I aq2 (u2 1) (u2 2) z2) ++ [(aq3, .inl (I, 64, .inl (fun _ => 0)))]) := hw
  have h0 := Option.some.inj hf
  subst h0
  have hw : fy D (va_A ws0 sz) s.heap H locs (wSt I (nz a0 (fun k => [a0, aq1, u1 1, u1 2, u1 3, u1 4, u1 5, u1 6, aq2, u2 1, u2 2, aq3].getD k 0)) (z1, z2, (fun _ => 0), 0, 0, 0, 0)) := hw
  exact x_vM E (fun k => [a0, aq1, u1 1, u1 2, u1 3, u1 4, u1 5, u1 6, aq2, u2 1, u2 2, aq3].getD k 0) hw dX3_init_34
theorem fy_row {D : va_G} {A : Nat → Prop} {H0 H : Heap} {locs : List Loc} {c0 : Nat × va_E} {ha : Nat} {O : ClassId} {f g : Nat → Option Nat} {X : va_W} (h : fy D A H0 H locs (c0 :: (ha, .inl (O, 6, .inr (.inr (.inr (.inr f))))) :: X)) (hfg : ∀ i, i < 6 → f i = g i) : fy D A H0 H locs (c0 :: (ha, .inl (O, 6, .inr (.inr (.inr (.inr g))))) :: X) := by
  have hc : vp_cell O (6, .inr (.inr (.inr (.inr f)))) = vp_cell O (6, .inr (.inr (.inr (.inr g)))) := by
    rw [vp_cell_q, vp_cell_q]
    unfold arrV
    congr 1
    apply Array.ext
    · simp
    · intro i h1 h2
      simp at h1
      simp [hfg i h1]
  refine ⟨fun k q hq => ?_, ⟨fun i j p q hp hq hpq => ?_, fun k q hq => ?_⟩, h.2.2⟩
  · match k, hq with
    | 0, hq => exact h.1 0 q hq
    | 1, hq =>
      cases hq
      have h1 := h.1 1 _ rfl
      show H[ha]? = some (vp_cell O (6, .inr (.inr (.inr (.inr g)))))
      rw [← hc]
      exact h1
    | k + 2, hq => exact h.1 (k + 2) q hq
  · have ad : ∀ (i : Nat) (p : Nat × va_E), (c0 :: (ha, (.inl (O, 6, .inr (.inr (.inr (.inr g)))) : va_E)) :: X)[i]? = some p → ∃ p', (c0 :: (ha, (.inl (O, 6, .inr (.inr (.inr (.inr f)))) : va_E)) :: X)[i]? = some p' ∧ p'.1 = p.1 := by
      intro i p hp
      match i, hp with
      | 0, hp => exact ⟨p, hp, rfl⟩
      | 1, hp => cases hp; exact ⟨_, rfl, rfl⟩
      | i + 2, hp => exact ⟨p, hp, rfl⟩
    obtain ⟨p', a1, a2⟩ := ad i p hp
    obtain ⟨q', b1, b2⟩ := ad j q hq
    exact h.2.1.1 i j p' q' a1 b1 (by rw [a2, b2, hpq])
  · match k, hq with
    | 0, hq => exact h.2.1.2 0 q hq
    | 1, hq => cases hq; exact h.2.1.2 1 (ha, .inl (O, 6, .inr (.inr (.inr (.inr f))))) rfl
    | k + 2, hq => exact h.2.1.2 (k + 2) q hq
theorem ok_X0_init : yI yX0_init cX0_init 2 0 := ⟨q106, q5, q105, rfl, by decide +kernel, by decide +kernel, by decide +kernel⟩
set_option maxRecDepth 100000 in
set_option maxHeartbeats 4000000 in
theorem mt_X0_init (l : Launch) (D : va_G) (I J O : ClassId) (a0 : Nat) (sz : Nat) (y0 : HiC) (hf : f_X0_init = some y0) : mM l yX0_init cX0_init 2 none 3 61 73 3228 D I J O sz [.ref a0] [(a0, .inr (0, [.null, .int 0]))] (qMv D sz [(a0, .inr (0, [.null, .int 0]))] (fun u9 : (Nat → Nat) × (Nat → Nat → Nat) => wHi I O a0 (u9.1 0) u9.2 y0)) := by
  refine mM_open (own := RX0) rfl (by decide +kernel) (Nat.le_of_ble_eq_true rfl) (fun p e s m below meth c ls E hnm hsz hw hl => ?_)
  obtain ⟨ws0, hws⟩ : ∃ ws0 : va_W, ws0 = [(a0, .inr (0, [.null, .int 0]))] := ⟨_, rfl⟩
  have hw : fy D (va_A ws0 sz) s.heap s.heap [] ([(a0, .inr (0, [.null, .int 0]))]) := by rw [hws]; exact hw
  rw [← hws]
  have hx := E.1
  have hb := E.2.1
  have hl : lv_has ls 2 [(0, .ref a0)] := hl
  obtain ⟨L0, hL0⟩ : ∃ z : List Loc, z = [] := ⟨_, rfl⟩
  rw [← hL0] at hw ⊢
  unfold f_X0_init at hf
  refine lv_aload_n hx hb dX0_init_0 rfl (lv_at hl 0 rfl) ?_
  refine x_objI E hl.1 q107 q21 q_oi (Nat.le_of_ble_eq_true rfl) (Nat.le_of_ble_eq_true rfl) dX0_init_1 ?_
  refine lv_aload_n hx hb dX0_init_4 rfl (lv_at hl 0 rfl) ?_
  refine lv_iconst (v := 0) hx hb dX0_init_5 (by decide) ?_
  refine x_put E hw 0 rfl rfl in0 tyX0_ok nmX0 1 (by decide) q112 rfl rfl rfl rfl (Nat.le_of_ble_eq_true rfl) dX0_init_6 (fun H locs hw => ?_)
  have hw : fy D (va_A ws0 sz) s.heap H locs ([(a0, .inr (0, [.null, .int 0]))]) := hw
  refine lv_aload_n hx hb dX0_init_9 rfl (lv_at hl 0 rfl) ?_
  refine lv_bipush (v := 6) hx hb dX0_init_10 (by decide) ?_
  refine x_newo (N := 6) E q108 hw (by decide) (by decide) (Nat.le_of_ble_eq_true rfl) (Nat.le_of_ble_eq_true rfl) (Nat.le_of_ble_eq_true rfl) dX0_init_12 (fun aq1 H hw => ?_)
  have hw : fy D (va_A ws0 sz) s.heap H locs ([(a0, .inr (0, [.null, .int 0]))] ++ [(aq1, .inl (O, 6, .inr (.inr (.inr (.inr (fun _ => none))))))]) := hw
  refine x_putF E hw 0 rfl rfl in0 tyX0_ok nmX0 0 (by decide) q111 rfl rfl hnm rfl rfl (Nat.le_of_ble_eq_true rfl) dX0_init_15 (fun H locs hw => ?_)
  have hw : fy D (va_A ws0 sz) s.heap H locs ([(a0, .inr (0, [.ref aq1, .int 0]))] ++ [(aq1, .inl (O, 6, .inr (.inr (.inr (.inr (fun _ => none))))))]) := hw
  refine lv_iconst (v := 0) hx hb dX0_init_18 (by decide) ?_
  refine lv_istore_n (lv' := [(1, .int 0), (0, .ref a0)]) hx hb dX0_init_19 rfl hl (by decide) rfl (fun ls hl => ?_)
  refine lv_iload_n hx hb dX0_init_20 rfl (lv_at hl 0 rfl) ?_
  refine lv_bipush (v := 6) hx hb dX0_init_21 (by decide) ?_
  refine lv_icmp_ge (tgt := 45) hx hb dX0_init_23 (by decide) (fun hc => absurd hc (by decide)) (fun _ => ?_)
  refine lv_aload_n hx hb dX0_init_26 rfl (lv_at hl 1 rfl) ?_
  refine x_get E hw.1 0 rfl rfl in0 0 (by decide) q111 rfl rfl dX0_init_27 ?_
  refine lv_iload_n hx hb dX0_init_30 rfl (lv_at hl 0 rfl) ?_
  refine x_new (ci := 3) (fs := [.null, .null, .null, .int 0, .int 0, .int 0, .int 0]) E hw rfl in3 tyX3_ok q108 q24 q2 (fun j hj => by rcases (show j = 0 ∨ j = 1 ∨ j = 2 ∨ j = 3 ∨ j = 4 ∨ j = 5 ∨ j = 6 by omega) with rfl | rfl | rfl | rfl | rfl | rfl | rfl <;> rfl) (Nat.le_of_ble_eq_true rfl) (Nat.le_of_ble_eq_true rfl) dX0_init_31 (fun aq2 H hw => ?_)
  have hw : fy D (va_A ws0 sz) s.heap H locs ([(a0, .inr (0, [.ref aq1, .int 0]))] ++ [(aq1, .inl (O, 6, .inr (.inr (.inr (.inr (fun _ => none))))))] ++ [(aq2, .inr (3, [.null, .null, .null, .int 0, .int 0, .int 0, .int 0]))]) := hw
  refine lv_dup hx hb dX0_init_34 rfl ?_
  obtain ⟨z1, hz1, hf⟩ := bd_s hf
  refine x_ctor (w1 := fun (u1 : Nat → Nat) => wSt I (nz aq2 u1) z1) E hw (fun hpc => x_rI E (As := []) (rest := [.ref aq2, .int 0, .ref aq1]) (mt_X3_init l D I J O aq2 H.size z1 hz1) blM hpc ok_X3_init q110 rfl hl.1 rfl (Nat.le_of_ble_eq_true rfl) ⟨Nat.le_of_ble_eq_true rfl, Nat.le_of_ble_eq_true rfl⟩ ⟨Nat.le_of_ble_eq_true rfl, Nat.le_of_ble_eq_true rfl⟩ dX0_init_35) (fun u1 H locs hw => ?_)
  have hw : fy D (va_A ws0 sz) s.heap H locs ([(a0, .inr (0, [.ref aq1, .int 0]))] ++ [(aq1, .inl (O, 6, .inr (.inr (.inr (.inr (fun _ => none))))))] ++ (wSt I (nz aq2 u1) z1)) := hw
  refine x_astq E hw 1 2 rfl rfl (show vp_in 0 6 by unfold vp_in; decide) dX0_init_38 (fun H locs hw => ?_)
  have hw : fy D (va_A ws0 sz) s.heap H locs ([(a0, .inr (0, [.ref aq1, .int 0]))] ++ [(aq1, .inl (O, 6, .inr (.inr (.inr (.inr (va_up (fun _ => none) 0 (some aq2)))))))] ++ (wSt I (nz aq2 u1) z1)) := hw
  refine lv_iinc (v := 1) (lv' := [(1, .int 1), (0, .ref a0)]) hx hb dX0_init_39 hl (k := 0) rfl (by decide) (by decide) rfl (fun ls hl => ?_)
  refine lv_goto (tgt := 20) hx hb dX0_init_42 (by decide) ?_
  refine lv_iload_n hx hb dX0_init_20 rfl (lv_at hl 0 rfl) ?_
  refine lv_bipush (v := 6) hx hb dX0_init_21 (by decide) ?_
  refine lv_icmp_ge (tgt := 45) hx hb dX0_init_23 (by decide) (fun hc => absurd hc (by decide)) (fun _ => ?_)
  refine lv_aload_n hx hb dX0_init_26 rfl (lv_at hl 1 rfl) ?_
  refine x_get E hw.1 0 rfl rfl in0 0 (by decide) q111 rfl rfl dX0_init_27 ?_
  refine lv_iload_n hx hb dX0_init_30 rfl (lv_at hl 0 rfl) ?_
  refine x_new (ci := 3) (fs := [.null, .null, .null, .int 0, .int 0, .int 0, .int 0]) E hw rfl in3 tyX3_ok q108 q24 q2 (fun j hj => by rcases (show j = 0 ∨ j = 1 ∨ j = 2 ∨ j = 3 ∨ j = 4 ∨ j = 5 ∨ j = 6 by omega) with rfl | rfl | rfl | rfl | rfl | rfl | rfl <;> rfl) (Nat.le_of_ble_eq_true rfl) (Nat.le_of_ble_eq_true rfl) dX0_init_31 (fun aq3 H hw => ?_)
  have hw : fy D (va_A ws0 sz) s.heap H locs ([(a0, .inr (0, [.ref aq1, .int 0]))] ++ [(aq1, .inl (O, 6, .inr (.inr (.inr (.inr (va_up (fun _ => none) 0 (some aq2)))))))] ++ (wSt I (nz aq2 u1) z1) ++ [(aq3, .inr (3, [.null, .null, .null, .int 0, .int 0, .int 0, .int 0]))]) := hw
  refine lv_dup hx hb dX0_init_34 rfl ?_
  refine x_ctor (w1 := fun (u2 : Nat → Nat) => wSt I (nz aq3 u2) z1) E hw (fun hpc => x_rI E (As := []) (rest := [.ref aq3, .int 1, .ref aq1]) (mt_X3_init l D I J O aq3 H.size z1 hz1) blM hpc ok_X3_init q110 rfl hl.1 rfl (Nat.le_of_ble_eq_true rfl) ⟨Nat.le_of_ble_eq_true rfl, Nat.le_of_ble_eq_true rfl⟩ ⟨Nat.le_of_ble_eq_true rfl, Nat.le_of_ble_eq_true rfl⟩ dX0_init_35) (fun u2 H locs hw => ?_)
  have hw : fy D (va_A ws0 sz) s.heap H locs ([(a0, .inr (0, [.ref aq1, .int 0]))] ++ [(aq1, .inl (O, 6, .inr (.inr (.inr (.inr (va_up (fun _ => none) 0 (some aq2)))))))] ++ (wSt I (nz aq2 u1) z1) ++ (wSt I (nz aq3 u2) z1)) := hw
  refine x_astq E hw 1 14 rfl rfl (show vp_in 1 6 by unfold vp_in; decide) dX0_init_38 (fun H locs hw => ?_)
  have hw : fy D (va_A ws0 sz) s.heap H locs ([(a0, .inr (0, [.ref aq1, .int 0]))] ++ [(aq1, .inl (O, 6, .inr (.inr (.inr (.inr (va_up (va_up (fun _ => none) 0 (some aq2)) 1 (some aq3)))))))] ++ (wSt I (nz aq2 u1) z1) ++ (wSt I (nz aq3 u2) z1)) := hw
  refine lv_iinc (v := 2) (lv' := [(1, .int 2), (0, .ref a0)]) hx hb dX0_init_39 hl (k := 0) rfl (by decide) (by decide) rfl (fun ls hl => ?_)
  refine lv_goto (tgt := 20) hx hb dX0_init_42 (by decide) ?_
  refine lv_iload_n hx hb dX0_init_20 rfl (lv_at hl 0 rfl) ?_
  refine lv_bipush (v := 6) hx hb dX0_init_21 (by decide) ?_
  refine lv_icmp_ge (tgt := 45) hx hb dX0_init_23 (by decide) (fun hc => absurd hc (by decide)) (fun _ => ?_)
  refine lv_aload_n hx hb dX0_init_26 rfl (lv_at hl 1 rfl) ?_
  refine x_get E hw.1 0 rfl rfl in0 0 (by decide) q111 rfl rfl dX0_init_27 ?_
  refine lv_iload_n hx hb dX0_init_30 rfl (lv_at hl 0 rfl) ?_
  refine x_new (ci := 3) (fs := [.null, .null, .null, .int 0, .int 0, .int 0, .int 0]) E hw rfl in3 tyX3_ok q108 q24 q2 (fun j hj => by rcases (show j = 0 ∨ j = 1 ∨ j = 2 ∨ j = 3 ∨ j = 4 ∨ j = 5 ∨ j = 6 by omega) with rfl | rfl | rfl | rfl | rfl | rfl | rfl <;> rfl) (Nat.le_of_ble_eq_true rfl) (Nat.le_of_ble_eq_true rfl) dX0_init_31 (fun aq4 H hw => ?_)
  have hw : fy D (va_A ws0 sz) s.heap H locs ([(a0, .inr (0, [.ref aq1, .int 0]))] ++ [(aq1, .inl (O, 6, .inr (.inr (.inr (.inr (va_up (va_up (fun _ => none) 0 (some aq2)) 1 (some aq3)))))))] ++ (wSt I (nz aq2 u1) z1) ++ (wSt I (nz aq3 u2) z1) ++ [(aq4, .inr (3, [.null, .null, .null, .int 0, .int 0, .int 0, .int 0]))]) := hw
  refine lv_dup hx hb dX0_init_34 rfl ?_
  refine x_ctor (w1 := fun (u3 : Nat → Nat) => wSt I (nz aq4 u3) z1) E hw (fun hpc => x_rI E (As := []) (rest := [.ref aq4, .int 2, .ref aq1]) (mt_X3_init l D I J O aq4 H.size z1 hz1) blM hpc ok_X3_init q110 rfl hl.1 rfl (Nat.le_of_ble_eq_true rfl) ⟨Nat.le_of_ble_eq_true rfl, Nat.le_of_ble_eq_true rfl⟩ ⟨Nat.le_of_ble_eq_true rfl, Nat.le_of_ble_eq_true rfl⟩ dX0_init_35) (fun u3 H locs hw => ?_)
  have hw : fy D (va_A ws0 sz) s.heap H locs ([(a0, .inr (0, [.ref aq1, .int 0]))] ++ [(aq1, .inl (O, 6, .inr (.inr (.inr (.inr (va_up (va_up (fun _ => none) 0 (some aq2)) 1 (some aq3)))))))] ++ (wSt I (nz aq2 u1) z1) ++ (wSt I (nz aq3 u2) z1) ++ (wSt I (nz aq4 u3) z1)) := hw
  refine x_astq E hw 1 26 rfl rfl (show vp_in 2 6 by unfold vp_in; decide) dX0_init_38 (fun H locs hw => ?_)
  have hw : fy D (va_A ws0 sz) s.heap H locs ([(a0, .inr (0, [.ref aq1, .int 0]))] ++ [(aq1, .inl (O, 6, .inr (.inr (.inr (.inr (va_up (va_up (va_up (fun _ => none) 0 (some aq2)) 1 (some aq3)) 2 (some aq4)))))))] ++ (wSt I (nz aq2 u1) z1) ++ (wSt I (nz aq3 u2) z1) ++ (wSt I (nz aq4 u3) z1)) := hw
  refine lv_iinc (v := 3) (lv' := [(1, .int 3), (0, .ref a0)]) hx hb dX0_init_39 hl (k := 0) rfl (by decide) (by decide) rfl (fun ls hl => ?_)
  refine lv_goto (tgt := 20) hx hb dX0_init_42 (by decide) ?_
  refine lv_iload_n hx hb dX0_init_20 rfl (lv_at hl 0 rfl) ?_
  refine lv_bipush (v := 6) hx hb dX0_init_21 (by decide) ?_
  refine lv_icmp_ge (tgt := 45) hx hb dX0_init_23 (by decide) (fun hc => absurd hc (by decide)) (fun _ => ?_)
  refine lv_aload_n hx hb dX0_init_26 rfl (lv_at hl 1 rfl) ?_
  refine x_get E hw.1 0 rfl rfl in0 0 (by decide) q111 rfl rfl dX0_init_27 ?_
  refine lv_iload_n hx hb dX0_init_30 rfl (lv_at hl 0 rfl) ?_
  refine x_new (ci := 3) (fs := [.null, .null, .null, .int 0, .int 0, .int 0, .int 0]) E hw rfl in3 tyX3_ok q108 q24 q2 (fun j hj => by rcases (show j = 0 ∨ j = 1 ∨ j = 2 ∨ j = 3 ∨ j = 4 ∨ j = 5 ∨ j = 6 by omega) with rfl | rfl | rfl | rfl | rfl | rfl | rfl <;> rfl) (Nat.le_of_ble_eq_true rfl) (Nat.le_of_ble_eq_true rfl) dX0_init_31 (fun aq5 H hw => ?_)
  have hw : fy D (va_A ws0 sz) s.heap H locs ([(a0, .inr (0, [.ref aq1, .int 0]))] ++ [(aq1, .inl (O, 6, .inr (.inr (.inr (.inr (va_up (va_up (va_up (fun _ => none) 0 (some aq2)) 1 (some aq3)) 2 (some aq4)))))))] ++ (wSt I (nz aq2 u1) z1) ++ (wSt I (nz aq3 u2) z1) ++ (wSt I (nz aq4 u3) z1) ++ [(aq5, .inr (3, [.null, .null, .null, .int 0, .int 0, .int 0, .int 0]))]) := hw
  refine lv_dup hx hb dX0_init_34 rfl ?_
  refine x_ctor (w1 := fun (u4 : Nat → Nat) => wSt I (nz aq5 u4) z1) E hw (fun hpc => x_rI E (As := []) (rest := [.ref aq5, .int 3, .ref aq1]) (mt_X3_init l D I J O aq5 H.size z1 hz1) blM hpc ok_X3_init q110 rfl hl.1 rfl (Nat.le_of_ble_eq_true rfl) ⟨Nat.le_of_ble_eq_true rfl, Nat.le_of_ble_eq_true rfl⟩ ⟨Nat.le_of_ble_eq_true rfl, Nat.le_of_ble_eq_true rfl⟩ dX0_init_35) (fun u4 H locs hw => ?_)
  have hw : fy D (va_A ws0 sz) s.heap H locs ([(a0, .inr (0, [.ref aq1, .int 0]))] ++ [(aq1, .inl (O, 6, .inr (.inr (.inr (.inr (va_up (va_up (va_up (fun _ => none) 0 (some aq2)) 1 (some aq3)) 2 (some aq4)))))))] ++ (wSt I (nz aq2 u1) z1) ++ (wSt I (nz aq3 u2) z1) ++ (wSt I (nz aq4 u3) z1) ++ (wSt I (nz aq5 u4) z1)) := hw
  refine x_astq E hw 1 38 rfl rfl (show vp_in 3 6 by unfold vp_in; decide) dX0_init_38 (fun H locs hw => ?_)
  have hw : fy D (va_A ws0 sz) s.heap H locs ([(a0, .inr (0, [.ref aq1, .int 0]))] ++ [(aq1, .inl (O, 6, .inr (.inr (.inr (.inr (va_up (va_up (va_up (va_up (fun _ => none) 0 (some aq2)) 1 (some aq3)) 2 (some aq4)) 3 (some aq5)))))))] ++ (wSt I (nz aq2 u1) z1) ++ (wSt I (nz aq3 u2) z1) ++ (wSt I (nz aq4 u3) z1) ++ (wSt I (nz aq5 u4) z1)) := hw
  refine lv_iinc (v := 4) (lv' := [(1, .int 4), (0, .ref a0)]) hx hb dX0_init_39 hl (k := 0) rfl (by decide) (by decide) rfl (fun ls hl => ?_)
  refine lv_goto (tgt := 20) hx hb dX0_init_42 (by decide) ?_
  refine lv_iload_n hx hb dX0_init_20 rfl (lv_at hl 0 rfl) ?_
  refine lv_bipush (v := 6) hx hb dX0_init_21 (by decide) ?_
  refine lv_icmp_ge (tgt := 45) hx hb dX0_init_23 (by decide) (fun hc => absurd hc (by decide)) (fun _ => ?_)
  refine lv_aload_n hx hb dX0_init_26 rfl (lv_at hl 1 rfl) ?_
  refine x_get E hw.1 0 rfl rfl in0 0 (by decide) q111 rfl rfl dX0_init_27 ?_
  refine lv_iload_n hx hb dX0_init_30 rfl (lv_at hl 0 rfl) ?_
  refine x_new (ci := 3) (fs := [.null, .null, .null, .int 0, .int 0, .int 0, .int 0]) E hw rfl in3 tyX3_ok q108 q24 q2 (fun j hj => by rcases (show j = 0 ∨ j = 1 ∨ j = 2 ∨ j = 3 ∨ j = 4 ∨ j = 5 ∨ j = 6 by omega) with rfl | rfl | rfl | rfl | rfl | rfl | rfl <;> rfl) (Nat.le_of_ble_eq_true rfl) (Nat.le_of_ble_eq_true rfl) dX0_init_31 (fun aq6 H hw => ?_)
  have hw : fy D (va_A ws0 sz) s.heap H locs ([(a0, .inr (0, [.ref aq1, .int 0]))] ++ [(aq1, .inl (O, 6, .inr (.inr (.inr (.inr (va_up (va_up (va_up (va_up (fun _ => none) 0 (some aq2)) 1 (some aq3)) 2 (some aq4)) 3 (some aq5)))))))] ++ (wSt I (nz aq2 u1) z1) ++ (wSt I (nz aq3 u2) z1) ++ (wSt I (nz aq4 u3) z1) ++ (wSt I (nz aq5 u4) z1) ++ [(aq6, .inr (3, [.null, .null, .null, .int 0, .int 0, .int 0, .int 0]))]) := hw
  refine lv_dup hx hb dX0_init_34 rfl ?_
  refine x_ctor (w1 := fun (u5 : Nat → Nat) => wSt I (nz aq6 u5) z1) E hw (fun hpc => x_rI E (As := []) (rest := [.ref aq6, .int 4, .ref aq1]) (mt_X3_init l D I J O aq6 H.size z1 hz1) blM hpc ok_X3_init q110 rfl hl.1 rfl (Nat.le_of_ble_eq_true rfl) ⟨Nat.le_of_ble_eq_true rfl, Nat.le_of_ble_eq_true rfl⟩ ⟨Nat.le_of_ble_eq_true rfl, Nat.le_of_ble_eq_true rfl⟩ dX0_init_35) (fun u5 H locs hw => ?_)
  have hw : fy D (va_A ws0 sz) s.heap H locs ([(a0, .inr (0, [.ref aq1, .int 0]))] ++ [(aq1, .inl (O, 6, .inr (.inr (.inr (.inr (va_up (va_up (va_up (va_up (fun _ => none) 0 (some aq2)) 1 (some aq3)) 2 (some aq4)) 3 (some aq5)))))))] ++ (wSt I (nz aq2 u1) z1) ++ (wSt I (nz aq3 u2) z1) ++ (wSt I (nz aq4 u3) z1) ++ (wSt I (nz aq5 u4) z1) ++ (wSt I (nz aq6 u5) z1)) := hw
  refine x_astq E hw 1 50 rfl rfl (show vp_in 4 6 by unfold vp_in; decide) dX0_init_38 (fun H locs hw => ?_)
  have hw : fy D (va_A ws0 sz) s.heap H locs ([(a0, .inr (0, [.ref aq1, .int 0]))] ++ [(aq1, .inl (O, 6, .inr (.inr (.inr (.inr (va_up (va_up (va_up (va_up (va_up (fun _ => none) 0 (some aq2)) 1 (some aq3)) 2 (some aq4)) 3 (some aq5)) 4 (some aq6)))))))] ++ (wSt I (nz aq2 u1) z1) ++ (wSt I (nz aq3 u2) z1) ++ (wSt I (nz aq4 u3) z1) ++ (wSt I (nz aq5 u4) z1) ++ (wSt I (nz aq6 u5) z1)) := hw
  refine lv_iinc (v := 5) (lv' := [(1, .int 5), (0, .ref a0)]) hx hb dX0_init_39 hl (k := 0) rfl (by decide) (by decide) rfl (fun ls hl => ?_)
  refine lv_goto (tgt := 20) hx hb dX0_init_42 (by decide) ?_
  refine lv_iload_n hx hb dX0_init_20 rfl (lv_at hl 0 rfl) ?_
  refine lv_bipush (v := 6) hx hb dX0_init_21 (by decide) ?_
  refine lv_icmp_ge (tgt := 45) hx hb dX0_init_23 (by decide) (fun hc => absurd hc (by decide)) (fun _ => ?_)
  refine lv_aload_n hx hb dX0_init_26 rfl (lv_at hl 1 rfl) ?_
  refine x_get E hw.1 0 rfl rfl in0 0 (by decide) q111 rfl rfl dX0_init_27 ?_
  refine lv_iload_n hx hb dX0_init_30 rfl (lv_at hl 0 rfl) ?_
  refine x_new (ci := 3) (fs := [.null, .null, .null, .int 0, .int 0, .int 0, .int 0]) E hw rfl in3 tyX3_ok q108 q24 q2 (fun j hj => by rcases (show j = 0 ∨ j = 1 ∨ j = 2 ∨ j = 3 ∨ j = 4 ∨ j = 5 ∨ j = 6 by omega) with rfl | rfl | rfl | rfl | rfl | rfl | rfl <;> rfl) (Nat.le_of_ble_eq_true rfl) (Nat.le_of_ble_eq_true rfl) dX0_init_31 (fun aq7 H hw => ?_)
  have hw : fy D (va_A ws0 sz) s.heap H locs ([(a0, .inr (0, [.ref aq1, .int 0]))] ++ [(aq1, .inl (O, 6, .inr (.inr (.inr (.inr (va_up (va_up (va_up (va_up (va_up (fun _ => none) 0 (some aq2)) 1 (some aq3)) 2 (some aq4)) 3 (some aq5)) 4 (some aq6)))))))] ++ (wSt I (nz aq2 u1) z1) ++ (wSt I (nz aq3 u2) z1) ++ (wSt I (nz aq4 u3) z1) ++ (wSt I (nz aq5 u4) z1) ++ (wSt I (nz aq6 u5) z1) ++ [(aq7, .inr (3, [.null, .null, .null, .int 0, .int 0, .int 0, .int 0]))]) := hw
  refine lv_dup hx hb dX0_init_34 rfl ?_
  refine x_ctor (w1 := fun (u6 : Nat → Nat) => wSt I (nz aq7 u6) z1) E hw (fun hpc => x_rI E (As := []) (rest := [.ref aq7, .int 5, .ref aq1]) (mt_X3_init l D I J O aq7 H.size z1 hz1) blM hpc ok_X3_init q110 rfl hl.1 rfl (Nat.le_of_ble_eq_true rfl) ⟨Nat.le_of_ble_eq_true rfl, Nat.le_of_ble_eq_true rfl⟩ ⟨Nat.le_of_ble_eq_true rfl, Nat.le_of_ble_eq_true rfl⟩ dX0_init_35) (fun u6 H locs hw => ?_)
  have hw : fy D (va_A ws0 sz) s.heap H locs ([(a0, .inr (0, [.ref aq1, .int 0]))] ++ [(aq1, .inl (O, 6, .inr (.inr (.inr (.inr (va_up (va_up (va_up (va_up (va_up (fun _ => none) 0 (some aq2)) 1 (some aq3)) 2 (some aq4)) 3 (some aq5)) 4 (some aq6)))))))] ++ (wSt I (nz aq2 u1) z1) ++ (wSt I (nz aq3 u2) z1) ++ (wSt I (nz aq4 u3) z1) ++ (wSt I (nz aq5 u4) z1) ++ (wSt I (nz aq6 u5) z1) ++ (wSt I (nz aq7 u6) z1)) := hw
  refine x_astq E hw 1 62 rfl rfl (show vp_in 5 6 by unfold vp_in; decide) dX0_init_38 (fun H locs hw => ?_)
  have hw : fy D (va_A ws0 sz) s.heap H locs ([(a0, .inr (0, [.ref aq1, .int 0]))] ++ [(aq1, .inl (O, 6, .inr (.inr (.inr (.inr (va_up (va_up (va_up (va_up (va_up (va_up (fun _ => none) 0 (some aq2)) 1 (some aq3)) 2 (some aq4)) 3 (some aq5)) 4 (some aq6)) 5 (some aq7)))))))] ++ (wSt I (nz aq2 u1) z1) ++ (wSt I (nz aq3 u2) z1) ++ (wSt I (nz aq4 u3) z1) ++ (wSt I (nz aq5 u4) z1) ++ (wSt I (nz aq6 u5) z1) ++ (wSt I (nz aq7 u6) z1)) := hw
  refine lv_iinc (v := 6) (lv' := [(1, .int 6), (0, .ref a0)]) hx hb dX0_init_39 hl (k := 0) rfl (by decide) (by decide) rfl (fun ls hl => ?_)
  refine lv_goto (tgt := 20) hx hb dX0_init_42 (by decide) ?_
  refine lv_iload_n hx hb dX0_init_20 rfl (lv_at hl 0 rfl) ?_
  refine lv_bipush (v := 6) hx hb dX0_init_21 (by decide) ?_
  refine lv_icmp_ge (tgt := 45) hx hb dX0_init_23 (by decide) (fun _ => ?_) (fun hc => absurd (by decide) hc)
  have h0 := Option.some.inj hf
  subst h0
  have hw := fy_row hw (g := fun i => some ((fun i => [nz aq2 u1, nz aq3 u2, nz aq4 u3, nz aq5 u4, nz aq6 u5, nz aq7 u6].getD i (fun _ => 0)) i 0)) (by intro i hi; rcases (show i = 0 ∨ i = 1 ∨ i = 2 ∨ i = 3 ∨ i = 4 ∨ i = 5 by omega) with rfl | rfl | rfl | rfl | rfl | rfl <;> rfl)
  have hw : fy D (va_A ws0 sz) s.heap H locs (wHi I O a0 aq1 (fun i => [nz aq2 u1, nz aq3 u2, nz aq4 u3, nz aq5 u4, nz aq6 u5, nz aq7 u6].getD i (fun _ => 0)) (fun _ => z1, 0)) := hw
  exact x_vM E ((fun _ => aq1), (fun i => [nz aq2 u1, nz aq3 u2, nz aq4 u3, nz aq5 u4, nz aq6 u5, nz aq7 u6].getD i (fun _ => 0))) hw dX0_init_45
theorem ok_X5_init : yI yX5_init cX5_init 1 0 := ⟨q19, q1, q18, rfl, by decide +kernel, by decide +kernel, by decide +kernel⟩
set_option maxRecDepth 100000 in
set_option maxHeartbeats 4000000 in
theorem mt_X5_init (l : Launch) (D : va_G) (I J O : ClassId) (a0 : Nat) (sz : Nat) (y0 : ClC) (hf : f_X5_init = some y0) : mM l yX5_init cX5_init 1 none 4 82 100 4366 D I J O sz [.ref a0] [(a0, .inr (5, [.null, .null, .null, .null]))] (qMv D sz [(a0, .inr (5, [.null, .null, .null, .null]))] (fun u9 : (Nat → Nat) × (Nat → Nat) × Nat × Nat × Nat × Nat × (Nat → Nat → Nat) => wCl I a0 u9.1 u9.2.1 u9.2.2.1 u9.2.2.2.1 u9.2.2.2.2.1 y0 ++ wHi I O u9.2.2.2.2.1 u9.2.2.2.2.2.1 u9.2.2.2.2.2.2 y0.2.2.1)) := by
  refine mM_open (own := RX5) rfl (by decide +kernel) (Nat.le_of_ble_eq_true rfl) (fun p e s m below meth c ls E hnm hsz hw hl => ?_)
  obtain ⟨ws0, hws⟩ : ∃ ws0 : va_W, ws0 = [(a0, .inr (5, [.null, .null, .null, .null]))] := ⟨_, rfl⟩
  have hw : fy D (va_A ws0 sz) s.heap s.heap [] ([(a0, .inr (5, [.null, .null, .null, .null]))]) := by rw [hws]; exact hw
  rw [← hws]
  have hx := E.1
  have hb := E.2.1
  have hl : lv_has ls 1 [(0, .ref a0)] := hl
  obtain ⟨L0, hL0⟩ : ∃ z : List Loc, z = [] := ⟨_, rfl⟩
  rw [← hL0] at hw ⊢
  unfold f_X5_init at hf
  refine lv_aload_n hx hb dX5_init_0 rfl (lv_at hl 0 rfl) ?_
  refine x_objI E hl.1 q20 q21 q_oi (Nat.le_of_ble_eq_true rfl) (Nat.le_of_ble_eq_true rfl) dX5_init_1 ?_
  refine lv_aload_n hx hb dX5_init_4 rfl (lv_at hl 0 rfl) ?_
  refine x_new (ci := 3) (fs := [.null, .null, .null, .int 0, .int 0, .int 0, .int 0]) E hw rfl in3 tyX3_ok q23 q24 q2 (fun j hj => by rcases (show j = 0 ∨ j = 1 ∨ j = 2 ∨ j = 3 ∨ j = 4 ∨ j = 5 ∨ j = 6 by omega) with rfl | rfl | rfl | rfl | rfl | rfl | rfl <;> rfl) (Nat.le_of_ble_eq_true rfl) (Nat.le_of_ble_eq_true rfl) dX5_init_5 (fun aq1 H hw => ?_)
  have hw : fy D (va_A ws0 sz) s.heap H L0 ([(a0, .inr (5, [.null, .null, .null, .null]))] ++ [(aq1, .inr (3, [.null, .null, .null, .int 0, .int 0, .int 0, .int 0]))]) := hw
  refine lv_dup hx hb dX5_init_8 rfl ?_
  obtain ⟨z1, hz1, hf⟩ := bd_s hf
  refine x_ctor (w1 := fun (u1 : Nat → Nat) => wSt I (nz aq1 u1) z1) E hw (fun hpc => x_rI E (As := []) (rest := [.ref aq1, .ref a0]) (mt_X3_init l D I J O aq1 H.size z1 hz1) blM hpc ok_X3_init q25 rfl hl.1 rfl (Nat.le_of_ble_eq_true rfl) ⟨Nat.le_of_ble_eq_true rfl, Nat.le_of_ble_eq_true rfl⟩ ⟨Nat.le_of_ble_eq_true rfl, Nat.le_of_ble_eq_true rfl⟩ dX5_init_9) (fun u1 H locs hw => ?_)
  have hw : fy D (va_A ws0 sz) s.heap H locs ([(a0, .inr (5, [.null, .null, .null, .null]))] ++ (wSt I (nz aq1 u1) z1)) := hw
  refine x_putF E hw 0 rfl rfl in5 tyX5_ok nmX5 0 (by decide) q131 rfl rfl hnm rfl rfl (Nat.le_of_ble_eq_true rfl) dX5_init_12 (fun H locs hw => ?_)
  have hw : fy D (va_A ws0 sz) s.heap H locs ([(a0, .inr (5, [.ref aq1, .null, .null, .null]))] ++ (wSt I (nz aq1 u1) z1)) := hw
  refine lv_aload_n hx hb dX5_init_15 rfl (lv_at hl 0 rfl) ?_
  refine x_new (ci := 3) (fs := [.null, .null, .null, .int 0, .int 0, .int 0, .int 0]) E hw rfl in3 tyX3_ok q23 q24 q2 (fun j hj => by rcases (show j = 0 ∨ j = 1 ∨ j = 2 ∨ j = 3 ∨ j = 4 ∨ j = 5 ∨ j = 6 by omega) with rfl | rfl | rfl | rfl | rfl | rfl | rfl <;> rfl) (Nat.le_of_ble_eq_true rfl) (Nat.le_of_ble_eq_true rfl) dX5_init_16 (fun aq2 H hw => ?_)
  have hw : fy D (va_A ws0 sz) s.heap H locs ([(a0, .inr (5, [.ref aq1, .null, .null, .null]))] ++ (wSt I (nz aq1 u1) z1) ++ [(aq2, .inr (3, [.null, .null, .null, .int 0, .int 0, .int 0, .int 0]))]) := hw
  refine lv_dup hx hb dX5_init_19 rfl ?_
  refine x_ctor (w1 := fun (u2 : Nat → Nat) => wSt I (nz aq2 u2) z1) E hw (fun hpc => x_rI E (As := []) (rest := [.ref aq2, .ref a0]) (mt_X3_init l D I J O aq2 H.size z1 hz1) blM hpc ok_X3_init q25 rfl hl.1 rfl (Nat.le_of_ble_eq_true rfl) ⟨Nat.le_of_ble_eq_true rfl, Nat.le_of_ble_eq_true rfl⟩ ⟨Nat.le_of_ble_eq_true rfl, Nat.le_of_ble_eq_true rfl⟩ dX5_init_20) (fun u2 H locs hw => ?_)
  have hw : fy D (va_A ws0 sz) s.heap H locs ([(a0, .inr (5, [.ref aq1, .null, .null, .null]))] ++ (wSt I (nz aq1 u1) z1) ++ (wSt I (nz aq2 u2) z1)) := hw
  refine x_putF E hw 0 rfl rfl in5 tyX5_ok nmX5 1 (by decide) q132 rfl rfl hnm rfl rfl (Nat.le_of_ble_eq_true rfl) dX5_init_23 (fun H locs hw => ?_)
  have hw : fy D (va_A ws0 sz) s.heap H locs ([(a0, .inr (5, [.ref aq1, .ref aq2, .null, .null]))] ++ (wSt I (nz aq1 u1) z1) ++ (wSt I (nz aq2 u2) z1)) := hw
  refine lv_aload_n hx hb dX5_init_26 rfl (lv_at hl 0 rfl) ?_
  refine x_new (ci := 0) (fs := [.null, .int 0]) E hw rfl in0 tyX0_ok q102 q103 q5 (fun j hj => by rcases (show j = 0 ∨ j = 1 by omega) with rfl | rfl <;> rfl) (Nat.le_of_ble_eq_true rfl) (Nat.le_of_ble_eq_true rfl) dX5_init_27 (fun aq3 H hw => ?_)
  have hw : fy D (va_A ws0 sz) s.heap H locs ([(a0, .inr (5, [.ref aq1, .ref aq2, .null, .null]))] ++ (wSt I (nz aq1 u1) z1) ++ (wSt I (nz aq2 u2) z1) ++ [(aq3, .inr (0, [.null, .int 0]))]) := hw
  refine lv_dup hx hb dX5_init_30 rfl ?_
  obtain ⟨z2, hz2, hf⟩ := bd_s hf
  refine x_ctor (w1 := fun (u3 : (Nat → Nat) × (Nat → Nat → Nat)) => wHi I O aq3 (u3.1 0) u3.2 z2) E hw (fun hpc => x_rI E (As := []) (rest := [.ref aq3, .ref a0]) (mt_X0_init l D I J O aq3 H.size z2 hz2) blM hpc ok_X0_init q104 rfl hl.1 rfl (Nat.le_of_ble_eq_true rfl) ⟨Nat.le_of_ble_eq_true rfl, Nat.le_of_ble_eq_true rfl⟩ ⟨Nat.le_of_ble_eq_true rfl, Nat.le_of_ble_eq_true rfl⟩ dX5_init_31) (fun u3 H locs hw => ?_)
  have hw : fy D (va_A ws0 sz) s.heap H locs ([(a0, .inr (5, [.ref aq1, .ref aq2, .null, .null]))] ++ (wSt I (nz aq1 u1) z1) ++ (wSt I (nz aq2 u2) z1) ++ (wHi I O aq3 (u3.1 0) u3.2 z2)) := hw
  refine x_putF E hw 0 rfl rfl in5 tyX5_ok nmX5 2 (by decide) q133 rfl rfl hnm rfl rfl (Nat.le_of_ble_eq_true rfl) dX5_init_34 (fun H locs hw => ?_)
  have hw : fy D (va_A ws0 sz) s.heap H locs ([(a0, .inr (5, [.ref aq1, .ref aq2, .ref aq3, .null]))] ++ (wSt I (nz aq1 u1) z1) ++ (wSt I (nz aq2 u2) z1) ++ (wHi I O aq3 (u3.1 0) u3.2 z2)) := hw
  refine lv_aload_n hx hb dX5_init_37 rfl (lv_at hl 0 rfl) ?_
  refine x_new (ci := 4) (fs := [.null, .int 0]) E hw rfl in4 tyX4_ok q118 q119 q6 (fun j hj => by rcases (show j = 0 ∨ j = 1 by omega) with rfl | rfl <;> rfl) (Nat.le_of_ble_eq_true rfl) (Nat.le_of_ble_eq_true rfl) dX5_init_38 (fun aq4 H hw => ?_)
  have hw : fy D (va_A ws0 sz) s.heap H locs ([(a0, .inr (5, [.ref aq1, .ref aq2, .ref aq3, .null]))] ++ (wSt I (nz aq1 u1) z1) ++ (wSt I (nz aq2 u2) z1) ++ (wHi I O aq3 (u3.1 0) u3.2 z2) ++ [(aq4, .inr (4, [.null, .int 0]))]) := hw
  refine lv_dup hx hb dX5_init_41 rfl ?_
  obtain ⟨z3, hz3, hf⟩ := bd_s hf
  refine x_ctor (w1 := fun (u4 : Nat → Nat) => wTx I aq4 (u4 1) z3) E hw (fun hpc => x_rI E (As := []) (rest := [.ref aq4, .ref a0]) (mt_X4_init l D I J O aq4 H.size z3 hz3) blM hpc ok_X4_init q120 rfl hl.1 rfl (Nat.le_of_ble_eq_true rfl) ⟨Nat.le_of_ble_eq_true rfl, Nat.le_of_ble_eq_true rfl⟩ ⟨Nat.le_of_ble_eq_true rfl, Nat.le_of_ble_eq_true rfl⟩ dX5_init_42) (fun u4 H locs hw => ?_)
  have hw : fy D (va_A ws0 sz) s.heap H locs ([(a0, .inr (5, [.ref aq1, .ref aq2, .ref aq3, .null]))] ++ (wSt I (nz aq1 u1) z1) ++ (wSt I (nz aq2 u2) z1) ++ (wHi I O aq3 (u3.1 0) u3.2 z2) ++ (wTx I aq4 (u4 1) z3)) := hw
  refine x_putF E hw 0 rfl rfl in5 tyX5_ok nmX5 3 (by decide) q134 rfl rfl hnm rfl rfl (Nat.le_of_ble_eq_true rfl) dX5_init_45 (fun H locs hw => ?_)
  have hw : fy D (va_A ws0 sz) s.heap H locs ([(a0, .inr (5, [.ref aq1, .ref aq2, .ref aq3, .ref aq4]))] ++ (wSt I (nz aq1 u1) z1) ++ (wSt I (nz aq2 u2) z1) ++ (wHi I O aq3 (u3.1 0) u3.2 z2) ++ (wTx I aq4 (u4 1) z3)) := hw
  have h0 := Option.some.inj hf
  subst h0
  have hw : fy D (va_A ws0 sz) s.heap H locs (wCl I a0 (nz aq1 u1) (nz aq2 u2) aq4 (u4 1) aq3 (z1, z1, z2, z3) ++ wHi I O aq3 (u3.1 0) u3.2 z2) := fy.sub hw [0, 1, 2, 3, 4, 5, 6, 7, 8, 9, 10, 11, 12, 13, 14, 15, 16, 17, 18, 19, 20, 21, 22, 23, 24, 99, 100, 25, 26, 27, 28, 29, 30, 31, 32, 33, 34, 35, 36, 37, 38, 39, 40, 41, 42, 43, 44, 45, 46, 47, 48, 49, 50, 51, 52, 53, 54, 55, 56, 57, 58, 59, 60, 61, 62, 63, 64, 65, 66, 67, 68, 69, 70, 71, 72, 73, 74, 75, 76, 77, 78, 79, 80, 81, 82, 83, 84, 85, 86, 87, 88, 89, 90, 91, 92, 93, 94, 95, 96, 97, 98] rfl rfl
  exact x_vM E (nz aq1 u1, nz aq2 u2, aq4, u4 1, aq3, u3.1 0, u3.2) hw dX5_init_48
