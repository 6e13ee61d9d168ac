set_option maxRecDepth 100000 in
set_option maxHeartbeats 4000000 in
theorem law_start {p : Program} {e : Env} {s : State} {m : MethodId} {below : List Frame} {meth : Method} {c : Code} (l : Launch) (hflags : l.flags = flags0) {b L : Nat} {xs : Nat → Int32} (hL : L ≤ 260) (hf : f_law L xs = some 1) (C0 : lw_At p s m meth c b L xs) : W p l e room_1 s m #[Value.ref b] below meth c s.heap [] 0 0 (lw_Z below #[Value.ref b] s) (entryFrame m ([Value.ref b] : List Value).toArray 12) := by
  obtain ⟨hx, hb, hr, hml, hown, hts, hXs, hbl, hlocks, hgv⟩ := id C0
  have hfl : l.stackTraces = false := by
    unfold Launch.stackTraces
    rw [hflags]
    decide +kernel
  have hnr := flat_of_before _ hgv
  have hB : ∀ w ∈ B0, w.before #[Value.ref b] s = true := fun w hw => hts w (List.mem_filter.mp hw).1
  obtain ⟨dc0, ds0, hk0⟩ := u_known (C := RX0) (T := TX0) (N := 2) (n := 2) hB in0 (hB _ q103)
  obtain ⟨dc1, ds1, hk1⟩ := u_known (C := RX1) (T := TX1) (N := 3) (n := 3) hB in1 (hB _ q59)
  obtain ⟨dc2, ds2, hk2⟩ := u_known (C := RX2) (T := TX2) (N := 7) (n := 7) hB in2 (hB _ q30)
  obtain ⟨dc3, ds3, hk3⟩ := u_known (C := RX3) (T := TX3) (N := 7) (n := 7) hB in3 (hB _ q24)
  obtain ⟨dc4, ds4, hk4⟩ := u_known (C := RX4) (T := TX4) (N := 2) (n := 2) hB in4 (hB _ q119)
  obtain ⟨dc5, ds5, hk5⟩ := u_known (C := RX5) (T := TX5) (N := 4) (n := 4) hB in5 (hB _ q16)
  obtain ⟨D, hD0⟩ : ∃ D : va_G, ∀ (k : Nat) (q : vw_C), vwCl[k]? = some q → u_Kn s q.1 q.2.1 q.2.2 (D.1 k) (D.2 k) := by
    refine ⟨(fun k => [dc0, dc1, dc2, dc3, dc4, dc5].getD k dc0, fun k => [ds0, ds1, ds2, ds3, ds4, ds5].getD k ds0), fun k q hq => ?_⟩
    match k, hq with
    | 0, hq => cases hq; exact hk0
    | 1, hq => cases hq; exact hk1
    | 2, hq => cases hq; exact hk2
    | 3, hq => cases hq; exact hk3
    | 4, hq => cases hq; exact hk4
    | 5, hq => cases hq; exact hk5
    | n + 6, hq => exact absurd (show (none : Option vw_C) = some q from hq) (fun h9 => by cases h9)
  obtain ⟨I, kI, cI, f1, f2, f3⟩ := Cond.arrayClass_spec (hB _ q57)
  obtain ⟨J, kJ, cJ, g1, g2, g3⟩ := Cond.arrayClass_spec (hB _ q791)
  have hAO : (Cond.arrayOver (.object RX3)).before #[Value.ref b] s = true := hts _ (by decide +kernel)
  obtain ⟨cO, O, kO, e1, e2, e3, e4, e5⟩ := Cond.arrayOver_spec hAO
  have hK : va_K D vwCl (TYS I J O) s := by
    refine ⟨hD0, fun k q hq => ?_⟩
    match k, hq with
    | 0, hq => cases hq; exact ⟨fun n z => ⟨fun k h9 => (by cases h9), kI, f2, cI, f3⟩, f1⟩
    | 1, hq => cases hq; exact ⟨fun n z => ⟨fun k h9 => (by cases h9), kJ, g2, cJ, g3⟩, g1⟩
    | 2, hq => cases hq; exact ⟨fun n z => ⟨fun k h9 => (by cases h9), kO, e3, cO, e4⟩, kO, cO, e3, e4, e1, e5⟩
    | n + 3, hq => exact absurd (show (none : Option (ClassId × FieldType)) = some q from hq) (fun h9 => by cases h9)
  have hXK : XK D I J O s := ⟨hK, va_AO.of hAO, va_Nw.of rfl (hts _ (by decide +kernel)), va_Nw.of rfl (hts _ (by decide +kernel)), va_Nw.of rfl (hts _ (by decide +kernel)), va_Nw.of rfl (hts _ (by decide +kernel)), va_Nw.of rfl (hts _ (by decide +kernel)), va_Nw.of rfl (hts _ (by decide +kernel)), va_Nw.of rfl (hts _ (by decide +kernel))⟩
  have hXZ : XZ (fun q : Nat => s.heap.size ≤ q) s := by
    have hst : ∀ q ∈ TX, Cond.stringRef RX5 q.1 q.2 ∈ lw_tbl := by decide +kernel
    refine ⟨vx_Zqof (hts _ (by decide +kernel)) (hts _ (by decide +kernel)) (hnr _ (by decide +kernel)) (fun _ h9 => Nat.not_le.mpr h9), vx_Zqof (hts _ (by decide +kernel)) (hts _ (by decide +kernel)) (hnr _ (by decide +kernel)) (fun _ h9 => Nat.not_le.mpr h9), ⟨va_Nw.of rfl (hts _ (by decide +kernel)), va_Nw.of rfl (hts _ (by decide +kernel)), va_Nw.of rfl (hts _ (by decide +kernel))⟩, ⟨va_Nc.of (hnr _ (by decide +kernel)), va_Nc.of (hnr _ (by decide +kernel)), va_Nc.of (hnr _ (by decide +kernel))⟩, fun q hq => ?_, va_Nw.of rfl (hts _ (by decide +kernel)), va_Nw.of rfl (hts _ (by decide +kernel)), va_Nw.of rfl (hts _ (by decide +kernel))⟩
    obtain ⟨-, -, -, sa, -, -, -, -, -, hev⟩ := Cond.stringRef_spec (args := #[Value.ref b]) (first := s) (o := none) (idx := []) hk5.2.1 (hts _ (hst q hq))
    exact ⟨sa, vk_R.of (hts _ (hst q hq)) hev⟩
  have E : fx p s m #[Value.ref b] meth c cL_law RL 12 ret D I J O := ⟨hx, hb, hml, hown, hB, hXK, hr, hlocks⟩
  have hl := lv_entry ([.ref b]) (n := 12) (Nat.le_of_ble_eq_true rfl)
  rw [lg_entry_eq]
  generalize (lg_sl ([.ref b]) ++ List.replicate (12 - (lg_sl ([.ref b])).length) Slot.unset).toArray = ls at hl ⊢
  have hl : lv_has ls 12 [(0, .ref b)] := hl
  have hw : fy D (fun q : Nat => s.heap.size ≤ q) s.heap s.heap [] ([] : va_W) := ⟨(fun k q h9 => nomatch h9), ⟨(fun i j p q h9 => nomatch h9), (fun k q h9 => nomatch h9)⟩, va_S.rf, fun _ h9 => h9⟩
  unfold f_law at hf
  obtain ⟨r9, h9, hf⟩ := bd_s hf
  refine x_mi0 (w1 := fun _ : Unit => ([] : va_W)) (X := []) (wc := []) hw [] rfl rfl (x_rS E (As := []) (rest := []) (mt_L_row l hfl D I J O s.heap.size r9 h9) blZ (x_pcZn E hXZ hw) ok_L_row q739 rfl hl.1 rfl (Nat.le_of_ble_eq_true rfl) ⟨Nat.le_of_ble_eq_true rfl, Nat.le_of_ble_eq_true rfl⟩ ⟨Nat.le_of_ble_eq_true rfl, Nat.le_of_ble_eq_true rfl⟩ dL_law_0) (fun _ => rfl) (fun _ H locs hw => ?_)
  have hw : fy D (fun q : Nat => s.heap.size ≤ q) s.heap H locs ([] : va_W) := hw
  refine lv_if_eq (tgt := 18) hx hb dL_law_3 (by decide) (fun hc => ?_) (fun hc => ?_)
  · rw [if_pos hc] at hf; exact absurd (Option.some.inj hf) (by decide)
  rw [if_neg hc] at hf
  obtain ⟨r9, h9, hf⟩ := bd_s hf
  refine x_mi0 (w1 := fun _ : Unit => ([] : va_W)) (X := []) (wc := []) hw [] rfl rfl (x_rS E (As := []) (rest := []) (mt_L_store l hfl D I J O H.size r9 h9) blZ (x_pcZn E hXZ hw) ok_L_store q748 rfl hl.1 rfl (Nat.le_of_ble_eq_true rfl) ⟨Nat.le_of_ble_eq_true rfl, Nat.le_of_ble_eq_true rfl⟩ ⟨Nat.le_of_ble_eq_true rfl, Nat.le_of_ble_eq_true rfl⟩ dL_law_6) (fun _ => rfl) (fun _ H locs hw => ?_)
  have hw : fy D (fun q : Nat => s.heap.size ≤ q) s.heap H locs ([] : va_W) := hw
  refine lv_if_eq (tgt := 18) hx hb dL_law_9 (by decide) (fun hc => ?_) (fun hc => ?_)
  · rw [if_pos hc] at hf; exact absurd (Option.some.inj hf) (by decide)
  rw [if_neg hc] at hf
  obtain ⟨r9, h9, hf⟩ := bd_s hf
  refine x_mi0 (w1 := fun _ : Unit => ([] : va_W)) (X := []) (wc := []) hw [] rfl rfl (x_rS E (As := []) (rest := []) (mt_L_texts l hfl D I J O H.size r9 h9) blZ (x_pcZn E hXZ hw) ok_L_texts q753 rfl hl.1 rfl (Nat.le_of_ble_eq_true rfl) ⟨Nat.le_of_ble_eq_true rfl, Nat.le_of_ble_eq_true rfl⟩ ⟨Nat.le_of_ble_eq_true rfl, Nat.le_of_ble_eq_true rfl⟩ dL_law_12) (fun _ => rfl) (fun _ H locs hw => ?_)
  have hw : fy D (fun q : Nat => s.heap.size ≤ q) s.heap H locs ([] : va_W) := hw
  refine lv_if_ne (tgt := 20) hx hb dL_law_15 (by decide) (fun hc => ?_) (fun hc => ?_)
  rotate_left
  · rw [if_pos hc] at hf; exact absurd (Option.some.inj hf) (by decide)
  rw [if_neg hc] at hf
  obtain ⟨z1, h1, hf⟩ := bd_s hf
  refine x_new (ci := 5) (fs := [.null, .null, .null, .null]) E hw rfl in5 tyX5_ok q15 q16 q1 (fun j hj => by rcases (show j = 0 ∨ j = 1 ∨ j = 2 ∨ j = 3 by omega) with rfl | rfl | rfl | rfl <;> rfl) (Nat.le_of_ble_eq_true rfl) (Nat.le_of_ble_eq_true rfl) dL_law_20 (fun h0 H hw => ?_)
  refine lv_dup hx hb dL_law_23 rfl ?_
  refine x_ctor (w1 := fun (u9 : (Nat → Nat) × (Nat → Nat) × Nat × Nat × Nat × Nat × (Nat → Nat → Nat)) => wCl I h0 u9.1 u9.2.1 u9.2.2.1 u9.2.2.2.1 u9.2.2.2.2.1 z1 ++ wHi I O u9.2.2.2.2.1 u9.2.2.2.2.2.1 u9.2.2.2.2.2.2 z1.2.2.1) E hw (fun hpc => x_rI E (As := []) (rest := [.ref h0]) (mt_X5_init l D I J O h0 H.size z1 h1) blM hpc ok_X5_init q17 rfl hl.1 rfl (Nat.le_of_ble_eq_true rfl) ⟨Nat.le_of_ble_eq_true rfl, Nat.le_of_ble_eq_true rfl⟩ ⟨Nat.le_of_ble_eq_true rfl, Nat.le_of_ble_eq_true rfl⟩ dL_law_24) (fun u1 H locs hw => ?_)
  refine lv_astore_n (lv' := [(1, .ref h0), (0, .ref b)]) hx hb dL_law_27 rfl hl (by decide) rfl (fun ls hl => ?_)
  refine lv_bipush (v := 64) hx hb dL_law_28 (by decide) ?_
  refine x_newl (N := 64) E q791 hw (by decide) (by decide) (Nat.le_of_ble_eq_true rfl) (Nat.le_of_ble_eq_true rfl) (Nat.le_of_ble_eq_true rfl) dL_law_30 (fun c0 H hw => ?_)
  refine lv_astore_n (lv' := [(2, .ref c0), (1, .ref h0), (0, .ref b)]) hx hb dL_law_32 rfl hl (by decide) rfl (fun ls hl => ?_)
  refine lv_iconst (v := 0) hx hb dL_law_33 (by decide) ?_
  refine lv_istore_n (lv' := [(3, .int 0), (2, .ref c0), (1, .ref h0), (0, .ref b)]) hx hb dL_law_34 rfl hl (by decide) rfl (fun ls hl => ?_)
  refine lv_iconst (v := 0) hx hb dL_law_35 (by decide) ?_
  refine lv_istore (lv' := [(4, .int 0), (3, .int 0), (2, .ref c0), (1, .ref h0), (0, .ref b)]) hx hb dL_law_36 hl (by decide) rfl (fun ls hl => ?_)
  have hw : fy D (fun q : Nat => s.heap.size ≤ q) s.heap H locs (wCl I h0 u1.1 u1.2.1 u1.2.2.1 u1.2.2.2.1 u1.2.2.2.2.1 z1 ++ wLo J c0 64 (fun _ => 0) ++ wHi I O u1.2.2.2.2.1 u1.2.2.2.2.2.1 u1.2.2.2.2.2.2 z1.2.2.1) := fy.sub hw [0, 1, 2, 3, 4, 5, 6, 7, 8, 9, 10, 11, 12, 13, 14, 15, 16, 17, 18, 19, 20, 21, 22, 23, 24, 25, 26, 101, 27, 28, 29, 30, 31, 32, 33, 34, 35, 36, 37, 38, 39, 40, 41, 42, 43, 44, 45, 46, 47, 48, 49, 50, 51, 52, 53, 54, 55, 56, 57, 58, 59, 60, 61, 62, 63, 64, 65, 66, 67, 68, 69, 70, 71, 72, 73, 74, 75, 76, 77, 78, 79, 80, 81, 82, 83, 84, 85, 86, 87, 88, 89, 90, 91, 92, 93, 94, 95, 96, 97, 98, 99, 100] rfl rfl
  exact k_L_law_38 b L xs h0 u1.1 u1.2.1 u1.2.2.1 u1.2.2.2.1 u1.2.2.2.2.1 u1.2.2.2.2.2.1 c0 E hfl hXZ hXs hbl 100 0 0 z1 (fun _ => 0) hf H locs u1.2.2.2.2.2.2 _ _ (Nat.le_of_ble_eq_true rfl) (Nat.le_of_ble_eq_true rfl) hw ls (lv_sub hl [4, 3, 2, 1, 0] rfl)
