/-! THE CLAIM OUT OF ONE WALK OF THE LAW'S BODY. Your part is whole_start (and what it stands on); all else here is the same for every law, but numbers. -/
def R_law : String := "StampedSlotsLaw"
def lw_P (b : Addr) (xs : List Int32) (args : Array Value) (s : State) : Prop := args = #[.ref b] ∧ s.IntsAt b xs ∧ xs.length ≤ 260 ∧ (Jvm.Cond.and given_1 narrow_1).before args s = true
/-- what a walk over the start with the record d0 says of its end, said of the start itself -/
theorem lw_closed {s t : State} {o : Outcome} {d0 : Drawn} {L : List Loc} {k n : Nat} (hd0 : s.drawn.sameBut d0 lw_cs) (hv : ∃ v, o = .returned v) (hW : (s.setDrawn d0).WarmedH t.vm) (hs : (s.setDrawn d0).sameButNew ({ t with vm := s.vm } : State) L k n) : State.butDraws s t lw_cs (fun t1 => Framed s o t1 L k n) := by
  have h2 : t.drawn = d0 := congrArg State.drawn hs.1
  refine ⟨⟨hv, hW, State.sameButNew.setDrawn hs s.drawn⟩, ?_, by decide⟩
  rw [h2]
  exact hd0
def lw_Q (_ : Array Value) (s : State) (o : Outcome) (t : State) : Prop := o = .returned (some (.int 1)) ∧ State.butDraws s t lw_cs (fun t1 => Framed s o t1 [] 600104 7301314)
def lw_Z (below : List Frame) (a : Array Value) (s : State) : State → Prop := fun t => ∃ o, t.status = .running ∧ Ended t below o ∧ lw_Q a s o t
/-- the law's own end, with 1 on the stack, nothing written that was there before, its room as the claim has it; d0: the record of draws at this point (at the entry s.drawn: begin with 'refine W.base ?_' and 'have hd0 := Drawn.sameBut.refl s.drawn lw_cs') -/
theorem lw_ret {p : Program} {l : Launch} {e : Env} {s : State} {m : MethodId} {below : List Frame} {meth : Method} {c : Code} {b : Nat} {d0 : Drawn} (hd0 : s.drawn.sameBut d0 lw_cs) (hx : p.tables.exec = Jvm.exec) (hb : c.code = code) (hr : meth.sig.returnType = ret) (hlocks : meth.locks = false) {pc : Nat} {H : Heap} {ls : Array Slot} (hdg : decode code pc = .ok (.ireturn, 1)) : W p l e room_1 (s.setDrawn d0) m #[Value.ref b] below meth c H [] 600104 7301314 (lw_Z below #[Value.ref b] s) (F0 m pc ls [.int 1]) := by
  intro T hT X
  obtain ⟨fs, hret, hrun, hended, hW, hframe⟩ := X.leave (v := some (.int 1)) (hlocks := hlocks) (fun h => by rw [hr] at h; cases h)
  have hmeth' : T.vm.method? m = some meth := X.method'
  refine ⟨T.setFrames fs, ?_, .returned (some (.int 1)), hrun, hended, rfl, lw_closed hd0 ⟨_, rfl⟩ hW hframe⟩
  jvm_step X.here [X.here.top, hx, hb, hdg, hmeth', hr, ret, narrow_b1]
  (try refine ⟨rfl, ?_⟩); (try refine ⟨rfl, ?_⟩)
  first | (intro acts; rw [hret _ acts rfl rfl rfl]) | rw [hret _ _ rfl rfl rfl]
  exact Steps.refl _
/-- what holds at the law's entry: the machine, the code, the tables' words (any of lw_tbl by 'hts w (by decide +kernel)'), the script of L ints xs at the cell b, what the Statement gives of the start (any of its parts by flat_of_before) -/
def lw_At (p : Program) (s : State) (m : MethodId) (meth : Method) (c : Code) (b L : Nat) (xs : Nat → Int32) : Prop :=
  p.tables.exec = Jvm.exec ∧ c.code = code ∧ meth.sig.returnType = ret ∧ c.maxLocals = 12 ∧ s.vm.findClass R_law = some m.cls ∧ (∀ w ∈ lw_tbl, w.before #[Value.ref b] s = true) ∧ va_X b L xs s s.heap ∧ b < s.heap.size ∧ meth.locks = false ∧ (Jvm.Cond.and given_1 narrow_1).before #[Value.ref b] s = true
set_option maxRecDepth 100000 in
set_option maxHeartbeats 4000000 in
theorem k_L_law_398 {p : Program} {l : Launch} {e : Env} {s : State} {m : MethodId} {below : List Frame} {meth : Method} {c : Code} {D : va_G} {I J O : ClassId} (b L : Nat) (xs : Fn) (h0 : Nat) (n t : Nat → Nat) (b0 b1 hh ha c0 : Nat) (E : fx p s m #[Value.ref b] meth c cL_law RL 12 ret D I J O) (hfl : l.stackTraces = false) (hXZ : XZ (fun q : Nat => s.heap.size ≤ q) s) (hXs : va_X b L xs s s.heap) (hbl : b < s.heap.size) {fu : Nat} (k38 : Int32 → Int32 → ClC → FnL → Option (Int32)) (hk38 : ∀ (v3 : Int32) (v4 : Int32) (x : ClC) (w : FnL), k38 v3 v4 x w = some 1 → ∀ (H : Heap) (locs : List Loc) (ad : Nat → Nat → Nat) (cells slots : Nat), cells + 10 * fu ≤ 300000 → slots + 60 * fu ≤ 3000000 → fy D (fun q : Nat => s.heap.size ≤ q) s.heap H locs (wCl I h0 n t b0 b1 hh x ++ wLo J c0 64 w ++ wHi I O hh ha ad x.2.2.1) → ∀ ls : Array Slot, lv_has ls 12 [(0, .ref b), (1, .ref h0), (2, .ref c0), (3, .int v3), (4, .int v4)] → W p l e room_1 s m #[Value.ref b] below meth c H locs cells slots (lw_Z below #[Value.ref b] s) (F0 m 38 ls [])) : ∀ (v4 : Int32) (t0 : Int32) (t1 : Int32) (x : ClC) (w : FnL), f_L_law_398 L xs k38 v4 t0 t1 x w = some 1 → ∀ (H : Heap) (locs : List Loc) (ad : Nat → Nat → Nat) (cells slots : Nat), cells + (10 * fu + 8) ≤ 300000 → slots + (60 * fu + 48) ≤ 3000000 → fy D (fun q : Nat => s.heap.size ≤ q) s.heap H locs (wCl I h0 n t b0 b1 hh x ++ wLo J c0 64 w ++ wHi I O hh ha ad x.2.2.1) → ∀ ls : Array Slot, lv_has ls 12 [(0, .ref b), (1, .ref h0), (2, .ref c0), (4, .int v4)] → W p l e room_1 s m #[Value.ref b] below meth c H locs cells slots (lw_Z below #[Value.ref b] s) (F0 m 398 ls [.int t1, .int t0]) := by
  have hx := E.1
  have hb := E.2.1
  have hbA : ¬ (fun q : Nat => s.heap.size ≤ q) b := Nat.not_le.mpr hbl
  intro v4 t0 t1 x w hf H locs ad cells slots hcs hss hw ls hl
  unfold f_L_law_398 at hf
  refine lv_iadd hx hb dL_law_398 ?_
  refine lv_istore_n (lv' := [(3, .int (t0 + t1)), (0, .ref b), (1, .ref h0), (2, .ref c0), (4, .int v4)]) hx hb dL_law_399 rfl hl (by decide) rfl (fun ls hl => ?_)
  refine lv_iinc (v := v4 + 1) (lv' := [(4, .int (v4 + 1)), (3, .int (t0 + t1)), (0, .ref b), (1, .ref h0), (2, .ref c0)]) hx hb dL_law_400 hl (k := 4) rfl rfl (by decide) rfl (fun ls hl => ?_)
  refine lv_goto (tgt := 38) hx hb dL_law_403 (by decide) ?_
  exact hk38 (t0 + t1) (v4 + 1) x w hf H locs ad _ _ (by omega) (by omega) hw _ (lv_sub hl [2, 3, 4, 1, 0] rfl)
set_option maxRecDepth 100000 in
set_option maxHeartbeats 4000000 in
theorem k_L_law_387 {p : Program} {l : Launch} {e : Env} {s : State} {m : MethodId} {below : List Frame} {meth : Method} {c : Code} {D : va_G} {I J O : ClassId} (b L : Nat) (xs : Fn) (h0 : Nat) (n t : Nat → Nat) (b0 b1 hh ha c0 : Nat) (E : fx p s m #[Value.ref b] meth c cL_law RL 12 ret D I J O) (hfl : l.stackTraces = false) (hXZ : XZ (fun q : Nat => s.heap.size ≤ q) s) (hXs : va_X b L xs s s.heap) (hbl : b < s.heap.size) {fu : Nat} (k38 : Int32 → Int32 → ClC → FnL → Option (Int32)) (hk38 : ∀ (v3 : Int32) (v4 : Int32) (x : ClC) (w : FnL), k38 v3 v4 x w = some 1 → ∀ (H : Heap) (locs : List Loc) (ad : Nat → Nat → Nat) (cells slots : Nat), cells + 10 * fu ≤ 300000 → slots + 60 * fu ≤ 3000000 → fy D (fun q : Nat => s.heap.size ≤ q) s.heap H locs (wCl I h0 n t b0 b1 hh x ++ wLo J c0 64 w ++ wHi I O hh ha ad x.2.2.1) → ∀ ls : Array Slot, lv_has ls 12 [(0, .ref b), (1, .ref h0), (2, .ref c0), (3, .int v3), (4, .int v4)] → W p l e room_1 s m #[Value.ref b] below meth c H locs cells slots (lw_Z below #[Value.ref b] s) (F0 m 38 ls [])) : ∀ (v3 : Int32) (v4 : Int32) (v11 : Int32) (x : ClC) (w : FnL), f_L_law_387 L xs k38 v3 v4 v11 x w = some 1 → ∀ (H : Heap) (locs : List Loc) (ad : Nat → Nat → Nat) (cells slots : Nat), cells + (10 * fu + 8) ≤ 300000 → slots + (60 * fu + 48) ≤ 3000000 → fy D (fun q : Nat => s.heap.size ≤ q) s.heap H locs (wCl I h0 n t b0 b1 hh x ++ wLo J c0 64 w ++ wHi I O hh ha ad x.2.2.1) → ∀ ls : Array Slot, lv_has ls 12 [(0, .ref b), (1, .ref h0), (2, .ref c0), (3, .int v3), (4, .int v4), (11, .int v11)] → W p l e room_1 s m #[Value.ref b] below meth c H locs cells slots (lw_Z below #[Value.ref b] s) (F0 m 387 ls []) := by
  have hx := E.1
  have hb := E.2.1
  have hbA : ¬ (fun q : Nat => s.heap.size ≤ q) b := Nat.not_le.mpr hbl
  intro v3 v4 v11 x w hf H locs ad cells slots hcs hss hw ls hl
  unfold f_L_law_387 at hf
  refine lv_iload_n hx hb dL_law_387 rfl (lv_at hl 3 rfl) ?_
  refine lv_iload hx hb dL_law_388 (lv_at hl 5 rfl) ?_
  refine lv_if_eq (tgt := 397) hx hb dL_law_390 (by decide) (fun hc => ?_) (fun hc => ?_)
  · rw [if_pos hc] at hf
    refine lv_iconst (v := 1) hx hb dL_law_397 (by decide) ?_
    exact k_L_law_398 b L xs h0 n t b0 b1 hh ha c0 E hfl hXZ hXs hbl _ hk38 v4 v3 1 x w hf H locs ad _ _ (by omega) (by omega) hw _ (lv_sub hl [0, 1, 2, 4] rfl)
  · rw [if_neg hc] at hf
    refine lv_iconst (v := 0) hx hb dL_law_393 (by decide) ?_
    refine lv_goto (tgt := 398) hx hb dL_law_394 (by decide) ?_
    exact k_L_law_398 b L xs h0 n t b0 b1 hh ha c0 E hfl hXZ hXs hbl _ hk38 v4 v3 0 x w hf H locs ad _ _ (by omega) (by omega) hw _ (lv_sub hl [0, 1, 2, 4] rfl)
set_option maxRecDepth 100000 in
set_option maxHeartbeats 4000000 in
theorem k_L_law_356 {p : Program} {l : Launch} {e : Env} {s : State} {m : MethodId} {below : List Frame} {meth : Method} {c : Code} {D : va_G} {I J O : ClassId} (b L : Nat) (xs : Fn) (h0 : Nat) (n t : Nat → Nat) (b0 b1 hh ha c0 : Nat) (E : fx p s m #[Value.ref b] meth c cL_law RL 12 ret D I J O) (hfl : l.stackTraces = false) (hXZ : XZ (fun q : Nat => s.heap.size ≤ q) s) (hXs : va_X b L xs s s.heap) (hbl : b < s.heap.size) {fu : Nat} (k38 : Int32 → Int32 → ClC → FnL → Option (Int32)) (hk38 : ∀ (v3 : Int32) (v4 : Int32) (x : ClC) (w : FnL), k38 v3 v4 x w = some 1 → ∀ (H : Heap) (locs : List Loc) (ad : Nat → Nat → Nat) (cells slots : Nat), cells + 10 * fu ≤ 300000 → slots + 60 * fu ≤ 3000000 → fy D (fun q : Nat => s.heap.size ≤ q) s.heap H locs (wCl I h0 n t b0 b1 hh x ++ wLo J c0 64 w ++ wHi I O hh ha ad x.2.2.1) → ∀ ls : Array Slot, lv_has ls 12 [(0, .ref b), (1, .ref h0), (2, .ref c0), (3, .int v3), (4, .int v4)] → W p l e room_1 s m #[Value.ref b] below meth c H locs cells slots (lw_Z below #[Value.ref b] s) (F0 m 38 ls [])) : ∀ (v3 : Int32) (v4 : Int32) (v7 : Int32) (t0 : Int32) (x : ClC) (w : FnL), f_L_law_356 L xs k38 v3 v4 v7 t0 x w = some 1 → ∀ (H : Heap) (locs : List Loc) (ad : Nat → Nat → Nat) (cells slots : Nat), cells + (10 * fu + 8) ≤ 300000 → slots + (60 * fu + 48) ≤ 3000000 → fy D (fun q : Nat => s.heap.size ≤ q) s.heap H locs (wCl I h0 n t b0 b1 hh x ++ wLo J c0 64 w ++ wHi I O hh ha ad x.2.2.1) → ∀ ls : Array Slot, lv_has ls 12 [(0, .ref b), (1, .ref h0), (2, .ref c0), (3, .int v3), (4, .int v4), (7, .int v7)] → W p l e room_1 s m #[Value.ref b] below meth c H locs cells slots (lw_Z below #[Value.ref b] s) (F0 m 356 ls [.int t0]) := by
  have hx := E.1
  have hb := E.2.1
  have hbA : ¬ (fun q : Nat => s.heap.size ≤ q) b := Nat.not_le.mpr hbl
  intro v3 v4 v7 t0 x w hf H locs ad cells slots hcs hss hw ls hl
  unfold f_L_law_356 at hf
  refine lv_istore (lv' := [(11, .int t0), (0, .ref b), (1, .ref h0), (2, .ref c0), (3, .int v3), (4, .int v4), (7, .int v7)]) hx hb dL_law_356 hl (by decide) rfl (fun ls hl => ?_)
  refine lv_iload hx hb dL_law_358 (lv_at hl 0 rfl) ?_
  refine lv_if_eq (tgt := 387) hx hb dL_law_360 (by decide) (fun hc => ?_) (fun hc => ?_)
  · rw [if_pos hc] at hf
    exact k_L_law_387 b L xs h0 n t b0 b1 hh ha c0 E hfl hXZ hXs hbl _ hk38 v3 v4 t0 x w hf H locs ad _ _ (by omega) (by omega) hw _ (lv_sub hl [1, 2, 3, 4, 5, 0] rfl)
  · rw [if_neg hc] at hf
    refine lv_aload_n hx hb dL_law_363 rfl (lv_at hl 2 rfl) ?_
    refine lv_bipush (v := 9) hx hb dL_law_364 (by decide) ?_
    obtain ⟨z37, h, hf⟩ := rt_s hf
    refine x_ci (x_rV E (As := [.int 9]) (rest := []) (mt_X5_count l D I J O h0 n t b0 b1 hh ha ad 9 x z37 h) blR (x_recv E hw.1 0 5 rfl rfl rfl) (x_pcR E (va_P.part hw.1 [0, 1, 2, 3, 4, 5, 6, 7, 8, 9, 10, 11, 12, 13, 14, 15, 16, 17, 18, 19, 20, 21, 22, 23, 24, 25, 26] rfl)) ok_X5_count q399 rfl hl.1 rfl (Nat.le_of_ble_eq_true rfl) ⟨Nat.le_of_ble_eq_true rfl, Nat.le_of_ble_eq_true rfl⟩ ⟨(show cells + 0 ≤ 600104 by omega), (show slots + 0 ≤ 7301314 by omega)⟩ dL_law_366) ?_
    refine lv_iload hx hb dL_law_369 (lv_at hl 6 rfl) ?_
    refine lv_icmp_ne (tgt := 385) hx hb dL_law_371 (by decide) (fun hc => ?_) (fun hc => ?_)
    · rw [if_neg hc] at hf
      refine lv_iconst (v := 0) hx hb dL_law_385 (by decide) ?_
      exact absurd (Option.some.inj hf) (by decide)
    · rw [if_pos hc] at hf
      refine lv_aload_n hx hb dL_law_374 rfl (lv_at hl 2 rfl) ?_
      obtain ⟨z38, h, hf⟩ := bd_s hf
      refine x_cl (x_rS E (As := [.ref h0]) (rest := []) (mt_L_seen l D I J O h0 n t b0 b1 hh ha ad x z38 h) blR (x_pcR E (va_P.part hw.1 [0, 1, 2, 3, 4, 5, 6, 7, 8, 9, 10, 11, 12, 13, 14, 15, 16, 17, 18, 19, 20, 21, 22, 23, 24, 25, 26] rfl)) ok_L_seen q786 rfl hl.1 rfl (Nat.le_of_ble_eq_true rfl) ⟨Nat.le_of_ble_eq_true rfl, Nat.le_of_ble_eq_true rfl⟩ ⟨(show cells + 0 ≤ 600104 by omega), (show slots + 0 ≤ 7301314 by omega)⟩ dL_law_375) ?_
      refine lv_aload_n hx hb dL_law_378 rfl (lv_at hl 3 rfl) ?_
      refine lv_iload_n hx hb dL_law_379 rfl (lv_at hl 4 rfl) ?_
      obtain ⟨g, hf⟩ := gi_s hf
      refine x_lald E hw.1 27 rfl g dL_law_380 ?_
      refine W.lcmp hx hb dL_law_381 ?_
      refine lv_if_eq (tgt := 387) hx hb dL_law_382 (by decide) (fun hc => ?_) (fun hc => ?_)
      · rw [if_pos hc] at hf
        exact k_L_law_387 b L xs h0 n t b0 b1 hh ha c0 E hfl hXZ hXs hbl _ hk38 v3 v4 t0 x w hf H locs ad _ _ (by omega) (by omega) hw _ (lv_sub hl [1, 2, 3, 4, 5, 0] rfl)
      · rw [if_neg hc] at hf
        refine lv_iconst (v := 0) hx hb dL_law_385 (by decide) ?_
        exact absurd (Option.some.inj hf) (by decide)
set_option maxRecDepth 100000 in
set_option maxHeartbeats 4000000 in
theorem k_L_law_343 {p : Program} {l : Launch} {e : Env} {s : State} {m : MethodId} {below : List Frame} {meth : Method} {c : Code} {D : va_G} {I J O : ClassId} (b L : Nat) (xs : Fn) (h0 : Nat) (n t : Nat → Nat) (b0 b1 hh ha c0 : Nat) (E : fx p s m #[Value.ref b] meth c cL_law RL 12 ret D I J O) (hfl : l.stackTraces = false) (hXZ : XZ (fun q : Nat => s.heap.size ≤ q) s) (hXs : va_X b L xs s s.heap) (hbl : b < s.heap.size) {fu : Nat} (k38 : Int32 → Int32 → ClC → FnL → Option (Int32)) (hk38 : ∀ (v3 : Int32) (v4 : Int32) (x : ClC) (w : FnL), k38 v3 v4 x w = some 1 → ∀ (H : Heap) (locs : List Loc) (ad : Nat → Nat → Nat) (cells slots : Nat), cells + 10 * fu ≤ 300000 → slots + 60 * fu ≤ 3000000 → fy D (fun q : Nat => s.heap.size ≤ q) s.heap H locs (wCl I h0 n t b0 b1 hh x ++ wLo J c0 64 w ++ wHi I O hh ha ad x.2.2.1) → ∀ ls : Array Slot, lv_has ls 12 [(0, .ref b), (1, .ref h0), (2, .ref c0), (3, .int v3), (4, .int v4)] → W p l e room_1 s m #[Value.ref b] below meth c H locs cells slots (lw_Z below #[Value.ref b] s) (F0 m 38 ls [])) : ∀ (v3 : Int32) (v4 : Int32) (v7 : Int32) (t0 : Int32) (x : ClC) (w : FnL), f_L_law_343 L xs k38 v3 v4 v7 t0 x w = some 1 → ∀ (H : Heap) (locs : List Loc) (ad : Nat → Nat → Nat) (cells slots : Nat), cells + (10 * fu + 8) ≤ 300000 → slots + (60 * fu + 48) ≤ 3000000 → fy D (fun q : Nat => s.heap.size ≤ q) s.heap H locs (wCl I h0 n t b0 b1 hh x ++ wLo J c0 64 w ++ wHi I O hh ha ad x.2.2.1) → ∀ ls : Array Slot, lv_has ls 12 [(0, .ref b), (1, .ref h0), (2, .ref c0), (3, .int v3), (4, .int v4), (7, .int v7)] → W p l e room_1 s m #[Value.ref b] below meth c H locs cells slots (lw_Z below #[Value.ref b] s) (F0 m 343 ls [.int t0]) := by
  have hx := E.1
  have hb := E.2.1
  have hbA : ¬ (fun q : Nat => s.heap.size ≤ q) b := Nat.not_le.mpr hbl
  intro v3 v4 v7 t0 x w hf H locs ad cells slots hcs hss hw ls hl
  unfold f_L_law_343 at hf
  refine lv_istore (lv' := [(10, .int t0), (0, .ref b), (1, .ref h0), (2, .ref c0), (3, .int v3), (4, .int v4), (7, .int v7)]) hx hb dL_law_343 hl (by decide) rfl (fun ls hl => ?_)
  refine lv_iload hx hb dL_law_345 (lv_at hl 0 rfl) ?_
  refine lv_iconst (v := (-1)) hx hb dL_law_347 (by decide) ?_
  refine lv_icmp_ge (tgt := 355) hx hb dL_law_348 (by decide) (fun hc => ?_) (fun hc => ?_)
  · rw [if_pos hc] at hf
    refine lv_iconst (v := 0) hx hb dL_law_355 (by decide) ?_
    exact k_L_law_356 b L xs h0 n t b0 b1 hh ha c0 E hfl hXZ hXs hbl _ hk38 v3 v4 v7 0 x w hf H locs ad _ _ (by omega) (by omega) hw _ (lv_sub hl [1, 2, 3, 4, 5, 6] rfl)
  · rw [if_neg hc] at hf
    refine lv_iconst (v := 1) hx hb dL_law_351 (by decide) ?_
    refine lv_goto (tgt := 356) hx hb dL_law_352 (by decide) ?_
    exact k_L_law_356 b L xs h0 n t b0 b1 hh ha c0 E hfl hXZ hXs hbl _ hk38 v3 v4 v7 1 x w hf H locs ad _ _ (by omega) (by omega) hw _ (lv_sub hl [1, 2, 3, 4, 5, 6] rfl)
set_option maxRecDepth 100000 in
set_option maxHeartbeats 4000000 in
theorem k_L_law_309 {p : Program} {l : Launch} {e : Env} {s : State} {m : MethodId} {below : List Frame} {meth : Method} {c : Code} {D : va_G} {I J O : ClassId} (b L : Nat) (xs : Fn) (h0 : Nat) (n t : Nat → Nat) (b0 b1 hh ha c0 : Nat) (E : fx p s m #[Value.ref b] meth c cL_law RL 12 ret D I J O) (hfl : l.stackTraces = false) (hXZ : XZ (fun q : Nat => s.heap.size ≤ q) s) (hXs : va_X b L xs s s.heap) (hbl : b < s.heap.size) {fu : Nat} (k38 : Int32 → Int32 → ClC → FnL → Option (Int32)) (hk38 : ∀ (v3 : Int32) (v4 : Int32) (x : ClC) (w : FnL), k38 v3 v4 x w = some 1 → ∀ (H : Heap) (locs : List Loc) (ad : Nat → Nat → Nat) (cells slots : Nat), cells + 10 * fu ≤ 300000 → slots + 60 * fu ≤ 3000000 → fy D (fun q : Nat => s.heap.size ≤ q) s.heap H locs (wCl I h0 n t b0 b1 hh x ++ wLo J c0 64 w ++ wHi I O hh ha ad x.2.2.1) → ∀ ls : Array Slot, lv_has ls 12 [(0, .ref b), (1, .ref h0), (2, .ref c0), (3, .int v3), (4, .int v4)] → W p l e room_1 s m #[Value.ref b] below meth c H locs cells slots (lw_Z below #[Value.ref b] s) (F0 m 38 ls [])) : ∀ (v3 : Int32) (v4 : Int32) (v5 : Int32) (v7 : Int32) (t1 : Int32) (x : ClC) (w : FnL), f_L_law_309 L xs k38 v3 v4 v5 v7 t1 x w = some 1 → ∀ (H : Heap) (locs : List Loc) (ad : Nat → Nat → Nat) (cells slots : Nat), cells + (10 * fu + 9) ≤ 300000 → slots + (60 * fu + 54) ≤ 3000000 → fy D (fun q : Nat => s.heap.size ≤ q) s.heap H locs (wCl I h0 n t b0 b1 hh x ++ wLo J c0 64 w ++ wHi I O hh ha ad x.2.2.1) → ∀ ls : Array Slot, lv_has ls 12 [(0, .ref b), (1, .ref h0), (2, .ref c0), (3, .int v3), (4, .int v4), (5, .int v5), (7, .int v7)] → W p l e room_1 s m #[Value.ref b] below meth c H locs cells slots (lw_Z below #[Value.ref b] s) (F0 m 309 ls [.int t1, .ref h0]) := by
  have hx := E.1
  have hb := E.2.1
  have hbA : ¬ (fun q : Nat => s.heap.size ≤ q) b := Nat.not_le.mpr hbl
  intro v3 v4 v5 v7 t1 x w hf H locs ad cells slots hcs hss hw ls hl
  unfold f_L_law_309 at hf
  refine lv_iload hx hb dL_law_309 (lv_at hl 5 rfl) ?_
  refine lv_iconst (v := 5) hx hb dL_law_311 (by decide) ?_
  refine lv_ishr hx hb dL_law_312 ?_
  refine lv_iconst (v := 5) hx hb dL_law_313 (by decide) ?_
  obtain ⟨z34, h, hf⟩ := bd_s hf
  refine x_ci (x_rS E (As := [.int (v5 >>> (5 &&& 31)), .int 5]) (rest := [.int t1, .ref h0]) (mt_L_part l D I J O (v5 >>> (5 &&& 31)) 5 z34 h) blR (x_pcR E x_none) ok_L_part q437 rfl hl.1 rfl (Nat.le_of_ble_eq_true rfl) ⟨Nat.le_of_ble_eq_true rfl, Nat.le_of_ble_eq_true rfl⟩ ⟨(show cells + 0 ≤ 600104 by omega), (show slots + 0 ≤ 7301314 by omega)⟩ dL_law_314) ?_
  refine lv_iconst (v := 0) hx hb dL_law_317 (by decide) ?_
  refine lv_iconst (v := 0) hx hb dL_law_318 (by decide) ?_
  obtain ⟨z35, h, hf⟩ := bd_s hf
  have hw : fy D (fun q : Nat => s.heap.size ≤ q) s.heap H locs ((wCl I h0 n t b0 b1 hh x) ++ (wLo J c0 64 w) ++ wHi I O hh ha ad x.2.2.1) := hw.part [0, 1, 2, 3, 4, 5, 6, 7, 8, 9, 10, 11, 12, 13, 14, 15, 16, 17, 18, 19, 20, 21, 22, 23, 24, 25, 26, 27] rfl rfl
  refine x_miFP hw (x_rW E (As := [.ref h0, .int t1, .int z34, .int 0, .int 0]) (rest := []) (mt_L_call l hfl D I J O h0 n t b0 b1 hh ha ad H.size t1 z34 0 0 x z35.1 z35.2 h) blW (x_pcVF E hXZ hw) ok_L_call q445 rfl hl.1 rfl (Nat.le_of_ble_eq_true rfl) ⟨Nat.le_of_ble_eq_true rfl, Nat.le_of_ble_eq_true rfl⟩ ⟨(show cells + 1 ≤ 600104 by omega), (show slots + 6 ≤ 7301314 by omega)⟩ dL_law_319) (fun _ => rfl) (fun ad36 H locs hw => ?_)
  have hw : fy D (fun q : Nat => s.heap.size ≤ q) s.heap H locs ((wCl I h0 n t b0 b1 hh z35.2) ++ (wLo J c0 64 w) ++ wHi I O hh ha ad36 z35.2.2.2.1) := hw
  have hw : fy D (fun q : Nat => s.heap.size ≤ q) s.heap H locs (wCl I h0 n t b0 b1 hh z35.2 ++ wLo J c0 64 w ++ wHi I O hh ha ad36 z35.2.2.2.1) := hw.part [0, 1, 2, 3, 4, 5, 6, 7, 8, 9, 10, 11, 12, 13, 14, 15, 16, 17, 18, 19, 20, 21, 22, 23, 24, 25, 26, 27] rfl rfl
  have hw : fy D (fun q : Nat => s.heap.size ≤ q) s.heap H locs (wCl I h0 n t b0 b1 hh z35.2 ++ wLo J c0 64 w ++ wHi I O hh ha ad36 z35.2.2.2.1) := hw
  refine lv_goto (tgt := 343) hx hb dL_law_322 (by decide) ?_
  exact k_L_law_343 b L xs h0 n t b0 b1 hh ha c0 E hfl hXZ hXs hbl _ hk38 v3 v4 v7 z35.1 z35.2 w hf H locs ad36 _ _ (by omega) (by omega) hw _ (lv_sub hl [0, 1, 2, 3, 4, 6] rfl)
set_option maxRecDepth 100000 in
set_option maxHeartbeats 4000000 in
theorem k_L_law_134 {p : Program} {l : Launch} {e : Env} {s : State} {m : MethodId} {below : List Frame} {meth : Method} {c : Code} {D : va_G} {I J O : ClassId} (b L : Nat) (xs : Fn) (h0 : Nat) (n t : Nat → Nat) (b0 b1 hh ha c0 : Nat) (E : fx p s m #[Value.ref b] meth c cL_law RL 12 ret D I J O) (hfl : l.stackTraces = false) (hXZ : XZ (fun q : Nat => s.heap.size ≤ q) s) (hXs : va_X b L xs s s.heap) (hbl : b < s.heap.size) {fu : Nat} (k38 : Int32 → Int32 → ClC → FnL → Option (Int32)) (hk38 : ∀ (v3 : Int32) (v4 : Int32) (x : ClC) (w : FnL), k38 v3 v4 x w = some 1 → ∀ (H : Heap) (locs : List Loc) (ad : Nat → Nat → Nat) (cells slots : Nat), cells + 10 * fu ≤ 300000 → slots + 60 * fu ≤ 3000000 → fy D (fun q : Nat => s.heap.size ≤ q) s.heap H locs (wCl I h0 n t b0 b1 hh x ++ wLo J c0 64 w ++ wHi I O hh ha ad x.2.2.1) → ∀ ls : Array Slot, lv_has ls 12 [(0, .ref b), (1, .ref h0), (2, .ref c0), (3, .int v3), (4, .int v4)] → W p l e room_1 s m #[Value.ref b] below meth c H locs cells slots (lw_Z below #[Value.ref b] s) (F0 m 38 ls [])) : ∀ (v3 : Int32) (v4 : Int32) (v5 : Int32) (v6 : Int32) (v7 : Int32) (t0 : Int32) (x : ClC) (w : FnL), f_L_law_134 L xs k38 v3 v4 v5 v6 v7 t0 x w = some 1 → ∀ (H : Heap) (locs : List Loc) (ad : Nat → Nat → Nat) (cells slots : Nat), cells + (10 * fu + 9) ≤ 300000 → slots + (60 * fu + 54) ≤ 3000000 → fy D (fun q : Nat => s.heap.size ≤ q) s.heap H locs (wCl I h0 n t b0 b1 hh x ++ wLo J c0 64 w ++ wHi I O hh ha ad x.2.2.1) → ∀ ls : Array Slot, lv_has ls 12 [(0, .ref b), (1, .ref h0), (2, .ref c0), (3, .int v3), (4, .int v4), (5, .int v5), (6, .int v6), (7, .int v7)] → W p l e room_1 s m #[Value.ref b] below meth c H locs cells slots (lw_Z below #[Value.ref b] s) (F0 m 134 ls [.int t0]) := by
  have hx := E.1
  have hb := E.2.1
  have hbA : ¬ (fun q : Nat => s.heap.size ≤ q) b := Nat.not_le.mpr hbl
  intro v3 v4 v5 v6 v7 t0 x w hf H locs ad cells slots hcs hss hw ls hl
  unfold f_L_law_134 at hf
  refine lv_istore (lv' := [(9, .int t0), (0, .ref b), (1, .ref h0), (2, .ref c0), (3, .int v3), (4, .int v4), (5, .int v5), (6, .int v6), (7, .int v7)]) hx hb dL_law_134 hl (by decide) rfl (fun ls hl => ?_)
  refine lv_iload hx hb dL_law_136 (lv_at hl 7 rfl) ?_
  refine lv_iconst (v := 3) hx hb dL_law_138 (by decide) ?_
  refine lv_icmp_ge (tgt := 179) hx hb dL_law_139 (by decide) (fun hc => ?_) (fun hc => ?_)
  · rw [if_pos hc] at hf
    refine lv_iload hx hb dL_law_179 (lv_at hl 7 rfl) ?_
    refine lv_iconst (v := 3) hx hb dL_law_181 (by decide) ?_
    refine lv_icmp_ne (tgt := 213) hx hb dL_law_182 (by decide) (fun hc => ?_) (fun hc => ?_)
    · rw [if_neg hc] at hf
      refine lv_iload hx hb dL_law_213 (lv_at hl 7 rfl) ?_
      refine lv_iconst (v := 4) hx hb dL_law_215 (by decide) ?_
      refine lv_icmp_ne (tgt := 231) hx hb dL_law_216 (by decide) (fun hc => ?_) (fun hc => ?_)
      · rw [if_neg hc] at hf
        refine lv_iload hx hb dL_law_231 (lv_at hl 7 rfl) ?_
        refine lv_iconst (v := 5) hx hb dL_law_233 (by decide) ?_
        refine lv_icmp_ne (tgt := 259) hx hb dL_law_234 (by decide) (fun hc => ?_) (fun hc => ?_)
        · rw [if_neg hc] at hf
          refine lv_iload hx hb dL_law_259 (lv_at hl 7 rfl) ?_
          refine lv_bipush (v := 8) hx hb dL_law_261 (by decide) ?_
          refine lv_icmp_ge (tgt := 284) hx hb dL_law_263 (by decide) (fun hc => ?_) (fun hc => ?_)
          · rw [if_pos hc] at hf
            refine lv_iload hx hb dL_law_284 (lv_at hl 7 rfl) ?_
            refine lv_bipush (v := 8) hx hb dL_law_286 (by decide) ?_
            refine lv_icmp_ne (tgt := 325) hx hb dL_law_288 (by decide) (fun hc => ?_) (fun hc => ?_)
            · rw [if_neg hc] at hf
              refine lv_iload hx hb dL_law_325 (lv_at hl 7 rfl) ?_
              refine lv_bipush (v := 9) hx hb dL_law_327 (by decide) ?_
              refine lv_icmp_ne (tgt := 339) hx hb dL_law_329 (by decide) (fun hc => ?_) (fun hc => ?_)
              · rw [if_neg hc] at hf
                refine lv_aload_n hx hb dL_law_339 rfl (lv_at hl 2 rfl) ?_
                obtain ⟨z12, h, hf⟩ := bd_s hf
                have hw : fy D (fun q : Nat => s.heap.size ≤ q) s.heap H locs ((wCl I h0 n t b0 b1 hh x) ++ (wLo J c0 64 w) ++ wHi I O hh ha ad x.2.2.1) := hw.part [0, 1, 2, 3, 4, 5, 6, 7, 8, 9, 10, 11, 12, 13, 14, 15, 16, 17, 18, 19, 20, 21, 22, 23, 24, 25, 26, 27] rfl rfl
                refine x_miFP hw (x_rV E (As := []) (rest := []) (mt_X5_together l D I J O h0 n t b0 b1 hh ha ad H.size x z12.1 z12.2 h) blM (x_recv E hw.1 0 5 rfl rfl rfl) (x_pcMPF E hw) ok_X5_together q264 rfl hl.1 rfl (Nat.le_of_ble_eq_true rfl) ⟨Nat.le_of_ble_eq_true rfl, Nat.le_of_ble_eq_true rfl⟩ ⟨(show cells + 0 ≤ 600104 by omega), (show slots + 0 ≤ 7301314 by omega)⟩ dL_law_340) (fun _ => rfl) (fun ad13 H locs hw => ?_)
                have hw : fy D (fun q : Nat => s.heap.size ≤ q) s.heap H locs ((wCl I h0 n t b0 b1 hh z12.2) ++ (wLo J c0 64 w) ++ wHi I O hh ha ad13 z12.2.2.2.1) := hw
                have hw : fy D (fun q : Nat => s.heap.size ≤ q) s.heap H locs (wCl I h0 n t b0 b1 hh z12.2 ++ wLo J c0 64 w ++ wHi I O hh ha ad13 z12.2.2.2.1) := hw.part [0, 1, 2, 3, 4, 5, 6, 7, 8, 9, 10, 11, 12, 13, 14, 15, 16, 17, 18, 19, 20, 21, 22, 23, 24, 25, 26, 27] rfl rfl
                have hw : fy D (fun q : Nat => s.heap.size ≤ q) s.heap H locs (wCl I h0 n t b0 b1 hh z12.2 ++ wLo J c0 64 w ++ wHi I O hh ha ad13 z12.2.2.2.1) := hw
                exact k_L_law_343 b L xs h0 n t b0 b1 hh ha c0 E hfl hXZ hXs hbl _ hk38 v3 v4 v7 z12.1 z12.2 w hf H locs ad13 _ _ (by omega) (by omega) hw _ (lv_sub hl [1, 2, 3, 4, 5, 8] rfl)
              · rw [if_pos hc] at hf
                refine lv_aload_n hx hb dL_law_332 rfl (lv_at hl 2 rfl) ?_
                obtain ⟨z14, h, hf⟩ := bd_s hf
                have hw : fy D (fun q : Nat => s.heap.size ≤ q) s.heap H locs ((wCl I h0 n t b0 b1 hh x) ++ (wLo J c0 64 w) ++ wHi I O hh ha ad x.2.2.1) := hw.part [0, 1, 2, 3, 4, 5, 6, 7, 8, 9, 10, 11, 12, 13, 14, 15, 16, 17, 18, 19, 20, 21, 22, 23, 24, 25, 26, 27] rfl rfl
                refine x_miFP hw (x_rV E (As := []) (rest := []) (mt_X5_fire l D I J O h0 n t b0 b1 hh ha ad H.size x z14.1 z14.2 h) blM (x_recv E hw.1 0 5 rfl rfl rfl) (x_pcMPF E hw) ok_X5_fire q144 rfl hl.1 rfl (Nat.le_of_ble_eq_true rfl) ⟨Nat.le_of_ble_eq_true rfl, Nat.le_of_ble_eq_true rfl⟩ ⟨(show cells + 0 ≤ 600104 by omega), (show slots + 0 ≤ 7301314 by omega)⟩ dL_law_333) (fun _ => rfl) (fun ad15 H locs hw => ?_)
                have hw : fy D (fun q : Nat => s.heap.size ≤ q) s.heap H locs ((wCl I h0 n t b0 b1 hh z14.2) ++ (wLo J c0 64 w) ++ wHi I O hh ha ad15 z14.2.2.2.1) := hw
                have hw : fy D (fun q : Nat => s.heap.size ≤ q) s.heap H locs (wCl I h0 n t b0 b1 hh z14.2 ++ wLo J c0 64 w ++ wHi I O hh ha ad15 z14.2.2.2.1) := hw.part [0, 1, 2, 3, 4, 5, 6, 7, 8, 9, 10, 11, 12, 13, 14, 15, 16, 17, 18, 19, 20, 21, 22, 23, 24, 25, 26, 27] rfl rfl
                have hw : fy D (fun q : Nat => s.heap.size ≤ q) s.heap H locs (wCl I h0 n t b0 b1 hh z14.2 ++ wLo J c0 64 w ++ wHi I O hh ha ad15 z14.2.2.2.1) := hw
                refine lv_goto (tgt := 343) hx hb dL_law_336 (by decide) ?_
                exact k_L_law_343 b L xs h0 n t b0 b1 hh ha c0 E hfl hXZ hXs hbl _ hk38 v3 v4 v7 z14.1 z14.2 w hf H locs ad15 _ _ (by omega) (by omega) hw _ (lv_sub hl [1, 2, 3, 4, 5, 8] rfl)
            · rw [if_pos hc] at hf
              refine lv_aload_n hx hb dL_law_291 rfl (lv_at hl 2 rfl) ?_
              refine lv_iload hx hb dL_law_292 (lv_at hl 6 rfl) ?_
              refine lv_iconst (v := 4) hx hb dL_law_294 (by decide) ?_
              refine lv_ishr hx hb dL_law_295 ?_
              refine lv_iconst (v := 2) hx hb dL_law_296 (by decide) ?_
              obtain ⟨z16, h, hf⟩ := bd_s hf
              refine x_ci (x_rS E (As := [.int (v5 >>> (4 &&& 31)), .int 2]) (rest := [.ref h0]) (mt_L_part l D I J O (v5 >>> (4 &&& 31)) 2 z16 h) blR (x_pcR E x_none) ok_L_part q437 rfl hl.1 rfl (Nat.le_of_ble_eq_true rfl) ⟨Nat.le_of_ble_eq_true rfl, Nat.le_of_ble_eq_true rfl⟩ ⟨(show cells + 0 ≤ 600104 by omega), (show slots + 0 ≤ 7301314 by omega)⟩ dL_law_297) ?_
              refine lv_if_ne (tgt := 307) hx hb dL_law_300 (by decide) (fun hc => ?_) (fun hc => ?_)
              · rw [if_neg hc] at hf
                refine lv_bipush (v := 6) hx hb dL_law_307 (by decide) ?_
                exact k_L_law_309 b L xs h0 n t b0 b1 hh ha c0 E hfl hXZ hXs hbl _ hk38 v3 v4 v5 v7 6 x w hf H locs ad _ _ (by omega) (by omega) hw _ (lv_sub hl [1, 2, 3, 4, 5, 6, 8] rfl)
              · rw [if_pos hc] at hf
                refine lv_iconst (v := 4) hx hb dL_law_303 (by decide) ?_
                refine lv_goto (tgt := 309) hx hb dL_law_304 (by decide) ?_
                exact k_L_law_309 b L xs h0 n t b0 b1 hh ha c0 E hfl hXZ hXs hbl _ hk38 v3 v4 v5 v7 4 x w hf H locs ad _ _ (by omega) (by omega) hw _ (lv_sub hl [1, 2, 3, 4, 5, 6, 8] rfl)
          · rw [if_neg hc] at hf
            refine lv_aload_n hx hb dL_law_266 rfl (lv_at hl 2 rfl) ?_
            refine lv_iconst (v := 5) hx hb dL_law_267 (by decide) ?_
            refine lv_iload hx hb dL_law_268 (lv_at hl 6 rfl) ?_
            refine lv_iconst (v := 4) hx hb dL_law_270 (by decide) ?_
            refine lv_ishr hx hb dL_law_271 ?_
            refine lv_iconst (v := 5) hx hb dL_law_272 (by decide) ?_
            obtain ⟨z17, h, hf⟩ := bd_s hf
            refine x_ci (x_rS E (As := [.int (v5 >>> (4 &&& 31)), .int 5]) (rest := [.int 5, .ref h0]) (mt_L_part l D I J O (v5 >>> (4 &&& 31)) 5 z17 h) blR (x_pcR E x_none) ok_L_part q437 rfl hl.1 rfl (Nat.le_of_ble_eq_true rfl) ⟨Nat.le_of_ble_eq_true rfl, Nat.le_of_ble_eq_true rfl⟩ ⟨(show cells + 0 ≤ 600104 by omega), (show slots + 0 ≤ 7301314 by omega)⟩ dL_law_273) ?_
            refine lv_iconst (v := 0) hx hb dL_law_276 (by decide) ?_
            refine lv_iconst (v := 0) hx hb dL_law_277 (by decide) ?_
            obtain ⟨z18, h, hf⟩ := bd_s hf
            have hw : fy D (fun q : Nat => s.heap.size ≤ q) s.heap H locs ((wCl I h0 n t b0 b1 hh x) ++ (wLo J c0 64 w) ++ wHi I O hh ha ad x.2.2.1) := hw.part [0, 1, 2, 3, 4, 5, 6, 7, 8, 9, 10, 11, 12, 13, 14, 15, 16, 17, 18, 19, 20, 21, 22, 23, 24, 25, 26, 27] rfl rfl
            refine x_miFP hw (x_rW E (As := [.ref h0, .int 5, .int z17, .int 0, .int 0]) (rest := []) (mt_L_call l hfl D I J O h0 n t b0 b1 hh ha ad H.size 5 z17 0 0 x z18.1 z18.2 h) blW (x_pcVF E hXZ hw) ok_L_call q445 rfl hl.1 rfl (Nat.le_of_ble_eq_true rfl) ⟨Nat.le_of_ble_eq_true rfl, Nat.le_of_ble_eq_true rfl⟩ ⟨(show cells + 1 ≤ 600104 by omega), (show slots + 6 ≤ 7301314 by omega)⟩ dL_law_278) (fun _ => rfl) (fun ad19 H locs hw => ?_)
            have hw : fy D (fun q : Nat => s.heap.size ≤ q) s.heap H locs ((wCl I h0 n t b0 b1 hh z18.2) ++ (wLo J c0 64 w) ++ wHi I O hh ha ad19 z18.2.2.2.1) := hw
            have hw : fy D (fun q : Nat => s.heap.size ≤ q) s.heap H locs (wCl I h0 n t b0 b1 hh z18.2 ++ wLo J c0 64 w ++ wHi I O hh ha ad19 z18.2.2.2.1) := hw.part [0, 1, 2, 3, 4, 5, 6, 7, 8, 9, 10, 11, 12, 13, 14, 15, 16, 17, 18, 19, 20, 21, 22, 23, 24, 25, 26, 27] rfl rfl
            have hw : fy D (fun q : Nat => s.heap.size ≤ q) s.heap H locs (wCl I h0 n t b0 b1 hh z18.2 ++ wLo J c0 64 w ++ wHi I O hh ha ad19 z18.2.2.2.1) := hw
            refine lv_goto (tgt := 343) hx hb dL_law_281 (by decide) ?_
            exact k_L_law_343 b L xs h0 n t b0 b1 hh ha c0 E hfl hXZ hXs hbl _ hk38 v3 v4 v7 z18.1 z18.2 w hf H locs ad19 _ _ (by omega) (by omega) hw _ (lv_sub hl [1, 2, 3, 4, 5, 8] rfl)
        · rw [if_pos hc] at hf
          refine lv_aload_n hx hb dL_law_237 rfl (lv_at hl 2 rfl) ?_
          refine lv_iconst (v := 3) hx hb dL_law_238 (by decide) ?_
          refine lv_iload hx hb dL_law_239 (lv_at hl 0 rfl) ?_
          refine lv_iload hx hb dL_law_241 (lv_at hl 6 rfl) ?_
          refine lv_bipush (v := 10) hx hb dL_law_243 (by decide) ?_
          refine lv_ishr hx hb dL_law_245 ?_
          refine lv_sipush (v := 1010) hx hb dL_law_246 (by decide) ?_
          obtain ⟨z20, h, hf⟩ := bd_s hf
          refine x_ci (x_rS E (As := [.int (v5 >>> (10 &&& 31)), .int 1010]) (rest := [.int t0, .int 3, .ref h0]) (mt_L_part l D I J O (v5 >>> (10 &&& 31)) 1010 z20 h) blR (x_pcR E x_none) ok_L_part q437 rfl hl.1 rfl (Nat.le_of_ble_eq_true rfl) ⟨Nat.le_of_ble_eq_true rfl, Nat.le_of_ble_eq_true rfl⟩ ⟨(show cells + 0 ≤ 600104 by omega), (show slots + 0 ≤ 7301314 by omega)⟩ dL_law_249) ?_
          refine lv_iconst (v := 0) hx hb dL_law_252 (by decide) ?_
          obtain ⟨z21, h, hf⟩ := bd_s hf
          have hw : fy D (fun q : Nat => s.heap.size ≤ q) s.heap H locs ((wCl I h0 n t b0 b1 hh x) ++ (wLo J c0 64 w) ++ wHi I O hh ha ad x.2.2.1) := hw.part [0, 1, 2, 3, 4, 5, 6, 7, 8, 9, 10, 11, 12, 13, 14, 15, 16, 17, 18, 19, 20, 21, 22, 23, 24, 25, 26, 27] rfl rfl
          refine x_miFP hw (x_rW E (As := [.ref h0, .int 3, .int t0, .int z20, .int 0]) (rest := []) (mt_L_call l hfl D I J O h0 n t b0 b1 hh ha ad H.size 3 t0 z20 0 x z21.1 z21.2 h) blW (x_pcVF E hXZ hw) ok_L_call q445 rfl hl.1 rfl (Nat.le_of_ble_eq_true rfl) ⟨Nat.le_of_ble_eq_true rfl, Nat.le_of_ble_eq_true rfl⟩ ⟨(show cells + 1 ≤ 600104 by omega), (show slots + 6 ≤ 7301314 by omega)⟩ dL_law_253) (fun _ => rfl) (fun ad22 H locs hw => ?_)
          have hw : fy D (fun q : Nat => s.heap.size ≤ q) s.heap H locs ((wCl I h0 n t b0 b1 hh z21.2) ++ (wLo J c0 64 w) ++ wHi I O hh ha ad22 z21.2.2.2.1) := hw
          have hw : fy D (fun q : Nat => s.heap.size ≤ q) s.heap H locs (wCl I h0 n t b0 b1 hh z21.2 ++ wLo J c0 64 w ++ wHi I O hh ha ad22 z21.2.2.2.1) := hw.part [0, 1, 2, 3, 4, 5, 6, 7, 8, 9, 10, 11, 12, 13, 14, 15, 16, 17, 18, 19, 20, 21, 22, 23, 24, 25, 26, 27] rfl rfl
          have hw : fy D (fun q : Nat => s.heap.size ≤ q) s.heap H locs (wCl I h0 n t b0 b1 hh z21.2 ++ wLo J c0 64 w ++ wHi I O hh ha ad22 z21.2.2.2.1) := hw
          refine lv_goto (tgt := 343) hx hb dL_law_256 (by decide) ?_
          exact k_L_law_343 b L xs h0 n t b0 b1 hh ha c0 E hfl hXZ hXs hbl _ hk38 v3 v4 v7 z21.1 z21.2 w hf H locs ad22 _ _ (by omega) (by omega) hw _ (lv_sub hl [1, 2, 3, 4, 5, 8] rfl)
      · rw [if_pos hc] at hf
        refine lv_aload_n hx hb dL_law_219 rfl (lv_at hl 2 rfl) ?_
        refine lv_iconst (v := 2) hx hb dL_law_220 (by decide) ?_
        refine lv_iload hx hb dL_law_221 (lv_at hl 0 rfl) ?_
        refine lv_iconst (v := 0) hx hb dL_law_223 (by decide) ?_
        refine lv_iconst (v := 0) hx hb dL_law_224 (by decide) ?_
        obtain ⟨z23, h, hf⟩ := bd_s hf
        have hw : fy D (fun q : Nat => s.heap.size ≤ q) s.heap H locs ((wCl I h0 n t b0 b1 hh x) ++ (wLo J c0 64 w) ++ wHi I O hh ha ad x.2.2.1) := hw.part [0, 1, 2, 3, 4, 5, 6, 7, 8, 9, 10, 11, 12, 13, 14, 15, 16, 17, 18, 19, 20, 21, 22, 23, 24, 25, 26, 27] rfl rfl
        refine x_miFP hw (x_rW E (As := [.ref h0, .int 2, .int t0, .int 0, .int 0]) (rest := []) (mt_L_call l hfl D I J O h0 n t b0 b1 hh ha ad H.size 2 t0 0 0 x z23.1 z23.2 h) blW (x_pcVF E hXZ hw) ok_L_call q445 rfl hl.1 rfl (Nat.le_of_ble_eq_true rfl) ⟨Nat.le_of_ble_eq_true rfl, Nat.le_of_ble_eq_true rfl⟩ ⟨(show cells + 1 ≤ 600104 by omega), (show slots + 6 ≤ 7301314 by omega)⟩ dL_law_225) (fun _ => rfl) (fun ad24 H locs hw => ?_)
        have hw : fy D (fun q : Nat => s.heap.size ≤ q) s.heap H locs ((wCl I h0 n t b0 b1 hh z23.2) ++ (wLo J c0 64 w) ++ wHi I O hh ha ad24 z23.2.2.2.1) := hw
        have hw : fy D (fun q : Nat => s.heap.size ≤ q) s.heap H locs (wCl I h0 n t b0 b1 hh z23.2 ++ wLo J c0 64 w ++ wHi I O hh ha ad24 z23.2.2.2.1) := hw.part [0, 1, 2, 3, 4, 5, 6, 7, 8, 9, 10, 11, 12, 13, 14, 15, 16, 17, 18, 19, 20, 21, 22, 23, 24, 25, 26, 27] rfl rfl
        have hw : fy D (fun q : Nat => s.heap.size ≤ q) s.heap H locs (wCl I h0 n t b0 b1 hh z23.2 ++ wLo J c0 64 w ++ wHi I O hh ha ad24 z23.2.2.2.1) := hw
        refine lv_goto (tgt := 343) hx hb dL_law_228 (by decide) ?_
        exact k_L_law_343 b L xs h0 n t b0 b1 hh ha c0 E hfl hXZ hXs hbl _ hk38 v3 v4 v7 z23.1 z23.2 w hf H locs ad24 _ _ (by omega) (by omega) hw _ (lv_sub hl [1, 2, 3, 4, 5, 8] rfl)
    · rw [if_pos hc] at hf
      refine lv_aload_n hx hb dL_law_185 rfl (lv_at hl 2 rfl) ?_
      refine lv_iconst (v := 1) hx hb dL_law_186 (by decide) ?_
      refine lv_iload hx hb dL_law_187 (lv_at hl 0 rfl) ?_
      refine lv_iload hx hb dL_law_189 (lv_at hl 6 rfl) ?_
      refine lv_bipush (v := 10) hx hb dL_law_191 (by decide) ?_
      refine lv_ishr hx hb dL_law_193 ?_
      refine lv_iconst (v := 5) hx hb dL_law_194 (by decide) ?_
      obtain ⟨z25, h, hf⟩ := bd_s hf
      refine x_ci (x_rS E (As := [.int (v5 >>> (10 &&& 31)), .int 5]) (rest := [.int t0, .int 1, .ref h0]) (mt_L_part l D I J O (v5 >>> (10 &&& 31)) 5 z25 h) blR (x_pcR E x_none) ok_L_part q437 rfl hl.1 rfl (Nat.le_of_ble_eq_true rfl) ⟨Nat.le_of_ble_eq_true rfl, Nat.le_of_ble_eq_true rfl⟩ ⟨(show cells + 0 ≤ 600104 by omega), (show slots + 0 ≤ 7301314 by omega)⟩ dL_law_195) ?_
      refine lv_iload hx hb dL_law_198 (lv_at hl 6 rfl) ?_
      refine lv_bipush (v := 13) hx hb dL_law_200 (by decide) ?_
      refine lv_ishr hx hb dL_law_202 ?_
      refine lv_iconst (v := 3) hx hb dL_law_203 (by decide) ?_
      obtain ⟨z26, h, hf⟩ := bd_s hf
      refine x_ci (x_rS E (As := [.int (v5 >>> (13 &&& 31)), .int 3]) (rest := [.int z25, .int t0, .int 1, .ref h0]) (mt_L_part l D I J O (v5 >>> (13 &&& 31)) 3 z26 h) blR (x_pcR E x_none) ok_L_part q437 rfl hl.1 rfl (Nat.le_of_ble_eq_true rfl) ⟨Nat.le_of_ble_eq_true rfl, Nat.le_of_ble_eq_true rfl⟩ ⟨(show cells + 0 ≤ 600104 by omega), (show slots + 0 ≤ 7301314 by omega)⟩ dL_law_204) ?_
      obtain ⟨z27, h, hf⟩ := bd_s hf
      have hw : fy D (fun q : Nat => s.heap.size ≤ q) s.heap H locs ((wCl I h0 n t b0 b1 hh x) ++ (wLo J c0 64 w) ++ wHi I O hh ha ad x.2.2.1) := hw.part [0, 1, 2, 3, 4, 5, 6, 7, 8, 9, 10, 11, 12, 13, 14, 15, 16, 17, 18, 19, 20, 21, 22, 23, 24, 25, 26, 27] rfl rfl
      refine x_miFP hw (x_rW E (As := [.ref h0, .int 1, .int t0, .int z25, .int z26]) (rest := []) (mt_L_call l hfl D I J O h0 n t b0 b1 hh ha ad H.size 1 t0 z25 z26 x z27.1 z27.2 h) blW (x_pcVF E hXZ hw) ok_L_call q445 rfl hl.1 rfl (Nat.le_of_ble_eq_true rfl) ⟨Nat.le_of_ble_eq_true rfl, Nat.le_of_ble_eq_true rfl⟩ ⟨(show cells + 1 ≤ 600104 by omega), (show slots + 6 ≤ 7301314 by omega)⟩ dL_law_207) (fun _ => rfl) (fun ad28 H locs hw => ?_)
      have hw : fy D (fun q : Nat => s.heap.size ≤ q) s.heap H locs ((wCl I h0 n t b0 b1 hh z27.2) ++ (wLo J c0 64 w) ++ wHi I O hh ha ad28 z27.2.2.2.1) := hw
      have hw : fy D (fun q : Nat => s.heap.size ≤ q) s.heap H locs (wCl I h0 n t b0 b1 hh z27.2 ++ wLo J c0 64 w ++ wHi I O hh ha ad28 z27.2.2.2.1) := hw.part [0, 1, 2, 3, 4, 5, 6, 7, 8, 9, 10, 11, 12, 13, 14, 15, 16, 17, 18, 19, 20, 21, 22, 23, 24, 25, 26, 27] rfl rfl
      have hw : fy D (fun q : Nat => s.heap.size ≤ q) s.heap H locs (wCl I h0 n t b0 b1 hh z27.2 ++ wLo J c0 64 w ++ wHi I O hh ha ad28 z27.2.2.2.1) := hw
      refine lv_goto (tgt := 343) hx hb dL_law_210 (by decide) ?_
      exact k_L_law_343 b L xs h0 n t b0 b1 hh ha c0 E hfl hXZ hXs hbl _ hk38 v3 v4 v7 z27.1 z27.2 w hf H locs ad28 _ _ (by omega) (by omega) hw _ (lv_sub hl [1, 2, 3, 4, 5, 8] rfl)
  · rw [if_neg hc] at hf
    refine lv_aload_n hx hb dL_law_142 rfl (lv_at hl 2 rfl) ?_
    refine lv_iconst (v := 0) hx hb dL_law_143 (by decide) ?_
    refine lv_iload hx hb dL_law_144 (lv_at hl 6 rfl) ?_
    refine lv_iconst (v := 4) hx hb dL_law_146 (by decide) ?_
    refine lv_ishr hx hb dL_law_147 ?_
    refine lv_sipush (v := 1010) hx hb dL_law_148 (by decide) ?_
    obtain ⟨z29, h, hf⟩ := bd_s hf
    refine x_ci (x_rS E (As := [.int (v5 >>> (4 &&& 31)), .int 1010]) (rest := [.int 0, .ref h0]) (mt_L_part l D I J O (v5 >>> (4 &&& 31)) 1010 z29 h) blR (x_pcR E x_none) ok_L_part q437 rfl hl.1 rfl (Nat.le_of_ble_eq_true rfl) ⟨Nat.le_of_ble_eq_true rfl, Nat.le_of_ble_eq_true rfl⟩ ⟨(show cells + 0 ≤ 600104 by omega), (show slots + 0 ≤ 7301314 by omega)⟩ dL_law_151) ?_
    refine lv_iload hx hb dL_law_154 (lv_at hl 6 rfl) ?_
    refine lv_bipush (v := 14) hx hb dL_law_156 (by decide) ?_
    refine lv_ishr hx hb dL_law_158 ?_
    refine lv_bipush (v := 6) hx hb dL_law_159 (by decide) ?_
    obtain ⟨z30, h, hf⟩ := bd_s hf
    refine x_ci (x_rS E (As := [.int (v5 >>> (14 &&& 31)), .int 6]) (rest := [.int z29, .int 0, .ref h0]) (mt_L_part l D I J O (v5 >>> (14 &&& 31)) 6 z30 h) blR (x_pcR E x_none) ok_L_part q437 rfl hl.1 rfl (Nat.le_of_ble_eq_true rfl) ⟨Nat.le_of_ble_eq_true rfl, Nat.le_of_ble_eq_true rfl⟩ ⟨(show cells + 0 ≤ 600104 by omega), (show slots + 0 ≤ 7301314 by omega)⟩ dL_law_161) ?_
    refine lv_iload hx hb dL_law_164 (lv_at hl 6 rfl) ?_
    refine lv_bipush (v := 17) hx hb dL_law_166 (by decide) ?_
    refine lv_ishr hx hb dL_law_168 ?_
    refine lv_iconst (v := 4) hx hb dL_law_169 (by decide) ?_
    obtain ⟨z31, h, hf⟩ := bd_s hf
    refine x_ci (x_rS E (As := [.int (v5 >>> (17 &&& 31)), .int 4]) (rest := [.int z30, .int z29, .int 0, .ref h0]) (mt_L_part l D I J O (v5 >>> (17 &&& 31)) 4 z31 h) blR (x_pcR E x_none) ok_L_part q437 rfl hl.1 rfl (Nat.le_of_ble_eq_true rfl) ⟨Nat.le_of_ble_eq_true rfl, Nat.le_of_ble_eq_true rfl⟩ ⟨(show cells + 0 ≤ 600104 by omega), (show slots + 0 ≤ 7301314 by omega)⟩ dL_law_170) ?_
    obtain ⟨z32, h, hf⟩ := bd_s hf
    have hw : fy D (fun q : Nat => s.heap.size ≤ q) s.heap H locs ((wCl I h0 n t b0 b1 hh x) ++ (wLo J c0 64 w) ++ wHi I O hh ha ad x.2.2.1) := hw.part [0, 1, 2, 3, 4, 5, 6, 7, 8, 9, 10, 11, 12, 13, 14, 15, 16, 17, 18, 19, 20, 21, 22, 23, 24, 25, 26, 27] rfl rfl
    refine x_miFP hw (x_rW E (As := [.ref h0, .int 0, .int z29, .int z30, .int z31]) (rest := []) (mt_L_call l hfl D I J O h0 n t b0 b1 hh ha ad H.size 0 z29 z30 z31 x z32.1 z32.2 h) blW (x_pcVF E hXZ hw) ok_L_call q445 rfl hl.1 rfl (Nat.le_of_ble_eq_true rfl) ⟨Nat.le_of_ble_eq_true rfl, Nat.le_of_ble_eq_true rfl⟩ ⟨(show cells + 1 ≤ 600104 by omega), (show slots + 6 ≤ 7301314 by omega)⟩ dL_law_173) (fun _ => rfl) (fun ad33 H locs hw => ?_)
    have hw : fy D (fun q : Nat => s.heap.size ≤ q) s.heap H locs ((wCl I h0 n t b0 b1 hh z32.2) ++ (wLo J c0 64 w) ++ wHi I O hh ha ad33 z32.2.2.2.1) := hw
    have hw : fy D (fun q : Nat => s.heap.size ≤ q) s.heap H locs (wCl I h0 n t b0 b1 hh z32.2 ++ wLo J c0 64 w ++ wHi I O hh ha ad33 z32.2.2.2.1) := hw.part [0, 1, 2, 3, 4, 5, 6, 7, 8, 9, 10, 11, 12, 13, 14, 15, 16, 17, 18, 19, 20, 21, 22, 23, 24, 25, 26, 27] rfl rfl
    have hw : fy D (fun q : Nat => s.heap.size ≤ q) s.heap H locs (wCl I h0 n t b0 b1 hh z32.2 ++ wLo J c0 64 w ++ wHi I O hh ha ad33 z32.2.2.2.1) := hw
    refine lv_goto (tgt := 343) hx hb dL_law_176 (by decide) ?_
    exact k_L_law_343 b L xs h0 n t b0 b1 hh ha c0 E hfl hXZ hXs hbl _ hk38 v3 v4 v7 z32.1 z32.2 w hf H locs ad33 _ _ (by omega) (by omega) hw _ (lv_sub hl [1, 2, 3, 4, 5, 8] rfl)
set_option maxRecDepth 100000 in
set_option maxHeartbeats 4000000 in
theorem k_L_law_133 {p : Program} {l : Launch} {e : Env} {s : State} {m : MethodId} {below : List Frame} {meth : Method} {c : Code} {D : va_G} {I J O : ClassId} (b L : Nat) (xs : Fn) (h0 : Nat) (n t : Nat → Nat) (b0 b1 hh ha c0 : Nat) (E : fx p s m #[Value.ref b] meth c cL_law RL 12 ret D I J O) (hfl : l.stackTraces = false) (hXZ : XZ (fun q : Nat => s.heap.size ≤ q) s) (hXs : va_X b L xs s s.heap) (hbl : b < s.heap.size) {fu : Nat} (k38 : Int32 → Int32 → ClC → FnL → Option (Int32)) (hk38 : ∀ (v3 : Int32) (v4 : Int32) (x : ClC) (w : FnL), k38 v3 v4 x w = some 1 → ∀ (H : Heap) (locs : List Loc) (ad : Nat → Nat → Nat) (cells slots : Nat), cells + 10 * fu ≤ 300000 → slots + 60 * fu ≤ 3000000 → fy D (fun q : Nat => s.heap.size ≤ q) s.heap H locs (wCl I h0 n t b0 b1 hh x ++ wLo J c0 64 w ++ wHi I O hh ha ad x.2.2.1) → ∀ ls : Array Slot, lv_has ls 12 [(0, .ref b), (1, .ref h0), (2, .ref c0), (3, .int v3), (4, .int v4)] → W p l e room_1 s m #[Value.ref b] below meth c H locs cells slots (lw_Z below #[Value.ref b] s) (F0 m 38 ls [])) : ∀ (v3 : Int32) (v4 : Int32) (v5 : Int32) (v6 : Int32) (v7 : Int32) (t0 : Int32) (t1 : Int32) (x : ClC) (w : FnL), f_L_law_133 L xs k38 v3 v4 v5 v6 v7 t0 t1 x w = some 1 → ∀ (H : Heap) (locs : List Loc) (ad : Nat → Nat → Nat) (cells slots : Nat), cells + (10 * fu + 9) ≤ 300000 → slots + (60 * fu + 54) ≤ 3000000 → fy D (fun q : Nat => s.heap.size ≤ q) s.heap H locs (wCl I h0 n t b0 b1 hh x ++ wLo J c0 64 w ++ wHi I O hh ha ad x.2.2.1) → ∀ ls : Array Slot, lv_has ls 12 [(0, .ref b), (1, .ref h0), (2, .ref c0), (3, .int v3), (4, .int v4), (5, .int v5), (6, .int v6), (7, .int v7)] → W p l e room_1 s m #[Value.ref b] below meth c H locs cells slots (lw_Z below #[Value.ref b] s) (F0 m 133 ls [.int t1, .int t0]) := by
  have hx := E.1
  have hb := E.2.1
  have hbA : ¬ (fun q : Nat => s.heap.size ≤ q) b := Nat.not_le.mpr hbl
  intro v3 v4 v5 v6 v7 t0 t1 x w hf H locs ad cells slots hcs hss hw ls hl
  unfold f_L_law_133 at hf
  refine lv_iadd hx hb dL_law_133 ?_
  exact k_L_law_134 b L xs h0 n t b0 b1 hh ha c0 E hfl hXZ hXs hbl _ hk38 v3 v4 v5 v6 v7 (t0 + t1) x w hf H locs ad _ _ (by omega) (by omega) hw _ (lv_sub hl [0, 1, 2, 3, 4, 5, 6, 7] rfl)
set_option maxRecDepth 100000 in
set_option maxHeartbeats 4000000 in
theorem k_L_law_70 {p : Program} {l : Launch} {e : Env} {s : State} {m : MethodId} {below : List Frame} {meth : Method} {c : Code} {D : va_G} {I J O : ClassId} (b L : Nat) (xs : Fn) (h0 : Nat) (n t : Nat → Nat) (b0 b1 hh ha c0 : Nat) (E : fx p s m #[Value.ref b] meth c cL_law RL 12 ret D I J O) (hfl : l.stackTraces = false) (hXZ : XZ (fun q : Nat => s.heap.size ≤ q) s) (hXs : va_X b L xs s s.heap) (hbl : b < s.heap.size) {fu : Nat} (k38 : Int32 → Int32 → ClC → FnL → Option (Int32)) (hk38 : ∀ (v3 : Int32) (v4 : Int32) (x : ClC) (w : FnL), k38 v3 v4 x w = some 1 → ∀ (H : Heap) (locs : List Loc) (ad : Nat → Nat → Nat) (cells slots : Nat), cells + 10 * fu ≤ 300000 → slots + 60 * fu ≤ 3000000 → fy D (fun q : Nat => s.heap.size ≤ q) s.heap H locs (wCl I h0 n t b0 b1 hh x ++ wLo J c0 64 w ++ wHi I O hh ha ad x.2.2.1) → ∀ ls : Array Slot, lv_has ls 12 [(0, .ref b), (1, .ref h0), (2, .ref c0), (3, .int v3), (4, .int v4)] → W p l e room_1 s m #[Value.ref b] below meth c H locs cells slots (lw_Z below #[Value.ref b] s) (F0 m 38 ls [])) : ∀ (v3 : Int32) (v4 : Int32) (v5 : Int32) (t0 : Int32) (x : ClC) (w : FnL), f_L_law_70 L xs k38 v3 v4 v5 t0 x w = some 1 → ∀ (H : Heap) (locs : List Loc) (ad : Nat → Nat → Nat) (cells slots : Nat), cells + (10 * fu + 9) ≤ 300000 → slots + (60 * fu + 54) ≤ 3000000 → fy D (fun q : Nat => s.heap.size ≤ q) s.heap H locs (wCl I h0 n t b0 b1 hh x ++ wLo J c0 64 w ++ wHi I O hh ha ad x.2.2.1) → ∀ ls : Array Slot, lv_has ls 12 [(0, .ref b), (1, .ref h0), (2, .ref c0), (3, .int v3), (4, .int v4), (5, .int v5)] → W p l e room_1 s m #[Value.ref b] below meth c H locs cells slots (lw_Z below #[Value.ref b] s) (F0 m 70 ls [.int t0]) := by
  have hx := E.1
  have hb := E.2.1
  have hbA : ¬ (fun q : Nat => s.heap.size ≤ q) b := Nat.not_le.mpr hbl
  intro v3 v4 v5 t0 x w hf H locs ad cells slots hcs hss hw ls hl
  unfold f_L_law_70 at hf
  refine lv_istore (lv' := [(6, .int t0), (0, .ref b), (1, .ref h0), (2, .ref c0), (3, .int v3), (4, .int v4), (5, .int v5)]) hx hb dL_law_70 hl (by decide) rfl (fun ls hl => ?_)
  refine lv_aload_n hx hb dL_law_72 rfl (lv_at hl 3 rfl) ?_
  refine lv_iload_n hx hb dL_law_73 rfl (lv_at hl 4 rfl) ?_
  refine lv_aload_n hx hb dL_law_74 rfl (lv_at hl 2 rfl) ?_
  obtain ⟨z6, h, hf⟩ := bd_s hf
  refine x_cl (x_rS E (As := [.ref h0]) (rest := [.int v3, .ref c0]) (mt_L_seen l D I J O h0 n t b0 b1 hh ha ad x z6 h) blR (x_pcR E (va_P.part hw.1 [0, 1, 2, 3, 4, 5, 6, 7, 8, 9, 10, 11, 12, 13, 14, 15, 16, 17, 18, 19, 20, 21, 22, 23, 24, 25, 26] rfl)) ok_L_seen q786 rfl hl.1 rfl (Nat.le_of_ble_eq_true rfl) ⟨Nat.le_of_ble_eq_true rfl, Nat.le_of_ble_eq_true rfl⟩ ⟨(show cells + 0 ≤ 600104 by omega), (show slots + 0 ≤ 7301314 by omega)⟩ dL_law_75) ?_
  obtain ⟨g, hf⟩ := gi_s hf
  refine x_last E hw 27 rfl g dL_law_78 (fun H locs hw => ?_)
  have hw : fy D (fun q : Nat => s.heap.size ≤ q) s.heap H locs (wCl I h0 n t b0 b1 hh x ++ wLo J c0 64 (vp_updL w v3.toNatClampNeg z6) ++ wHi I O hh ha ad x.2.2.1) := hw
  refine lv_aload_n hx hb dL_law_79 rfl (lv_at hl 2 rfl) ?_
  refine lv_bipush (v := 9) hx hb dL_law_80 (by decide) ?_
  obtain ⟨z7, h, hf⟩ := rt_s hf
  refine x_ci (x_rV E (As := [.int 9]) (rest := []) (mt_X5_count l D I J O h0 n t b0 b1 hh ha ad 9 x z7 h) blR (x_recv E hw.1 0 5 rfl rfl rfl) (x_pcR E (va_P.part hw.1 [0, 1, 2, 3, 4, 5, 6, 7, 8, 9, 10, 11, 12, 13, 14, 15, 16, 17, 18, 19, 20, 21, 22, 23, 24, 25, 26] rfl)) ok_X5_count q399 rfl hl.1 rfl (Nat.le_of_ble_eq_true rfl) ⟨Nat.le_of_ble_eq_true rfl, Nat.le_of_ble_eq_true rfl⟩ ⟨(show cells + 0 ≤ 600104 by omega), (show slots + 0 ≤ 7301314 by omega)⟩ dL_law_82) ?_
  refine lv_istore (lv' := [(7, .int z7), (6, .int t0), (0, .ref b), (1, .ref h0), (2, .ref c0), (3, .int v3), (4, .int v4), (5, .int v5)]) hx hb dL_law_85 hl (by decide) rfl (fun ls hl => ?_)
  refine lv_aload_n hx hb dL_law_87 rfl (lv_at hl 3 rfl) ?_
  refine lv_iconst (v := 0) hx hb dL_law_88 (by decide) ?_
  obtain ⟨z8, h, hf⟩ := rt_s hf
  refine x_ci (x_rV E (As := [.int 0]) (rest := []) (mt_X5_count l D I J O h0 n t b0 b1 hh ha ad 0 x z8 h) blR (x_recv E hw.1 0 5 rfl rfl rfl) (x_pcR E (va_P.part hw.1 [0, 1, 2, 3, 4, 5, 6, 7, 8, 9, 10, 11, 12, 13, 14, 15, 16, 17, 18, 19, 20, 21, 22, 23, 24, 25, 26] rfl)) ok_X5_count q399 rfl hl.1 rfl (Nat.le_of_ble_eq_true rfl) ⟨Nat.le_of_ble_eq_true rfl, Nat.le_of_ble_eq_true rfl⟩ ⟨(show cells + 0 ≤ 600104 by omega), (show slots + 0 ≤ 7301314 by omega)⟩ dL_law_89) ?_
  refine lv_istore (lv' := [(8, .int z8), (7, .int z7), (6, .int t0), (0, .ref b), (1, .ref h0), (2, .ref c0), (3, .int v3), (4, .int v4), (5, .int v5)]) hx hb dL_law_92 hl (by decide) rfl (fun ls hl => ?_)
  refine lv_iload hx hb dL_law_94 (lv_at hl 0 rfl) ?_
  refine lv_if_ne (tgt := 103) hx hb dL_law_96 (by decide) (fun hc => ?_) (fun hc => ?_)
  · rw [if_neg hc] at hf
    refine lv_aload_n hx hb dL_law_103 rfl (lv_at hl 4 rfl) ?_
    refine lv_iload hx hb dL_law_104 (lv_at hl 8 rfl) ?_
    refine lv_iconst (v := 4) hx hb dL_law_106 (by decide) ?_
    refine lv_ishr hx hb dL_law_107 ?_
    refine lv_iload hx hb dL_law_108 (lv_at hl 0 rfl) ?_
    obtain ⟨z9, h, hf⟩ := bd_s hf
    refine x_ci (x_rS E (As := [.int (v5 >>> (4 &&& 31)), .int z8]) (rest := [.ref h0]) (mt_L_part l D I J O (v5 >>> (4 &&& 31)) z8 z9 h) blR (x_pcR E x_none) ok_L_part q437 rfl hl.1 rfl (Nat.le_of_ble_eq_true rfl) ⟨Nat.le_of_ble_eq_true rfl, Nat.le_of_ble_eq_true rfl⟩ ⟨(show cells + 0 ≤ 600104 by omega), (show slots + 0 ≤ 7301314 by omega)⟩ dL_law_110) ?_
    obtain ⟨z10, h, hf⟩ := rt_s hf
    refine x_ci (x_rV E (As := [.int z9]) (rest := []) (mt_X5_at l D I J O h0 n t b0 b1 hh ha ad z9 x z10 h) blR (x_recv E hw.1 0 5 rfl rfl rfl) (x_pcR E (va_P.part hw.1 [0, 1, 2, 3, 4, 5, 6, 7, 8, 9, 10, 11, 12, 13, 14, 15, 16, 17, 18, 19, 20, 21, 22, 23, 24, 25, 26] rfl)) ok_X5_at q371 rfl hl.1 rfl (Nat.le_of_ble_eq_true rfl) ⟨Nat.le_of_ble_eq_true rfl, Nat.le_of_ble_eq_true rfl⟩ ⟨(show cells + 0 ≤ 600104 by omega), (show slots + 0 ≤ 7301314 by omega)⟩ dL_law_113) ?_
    refine lv_iload hx hb dL_law_116 (lv_at hl 8 rfl) ?_
    refine lv_bipush (v := 18) hx hb dL_law_118 (by decide) ?_
    refine lv_ishr hx hb dL_law_120 ?_
    refine lv_iconst (v := 5) hx hb dL_law_121 (by decide) ?_
    obtain ⟨z11, h, hf⟩ := bd_s hf
    refine x_ci (x_rS E (As := [.int (v5 >>> (18 &&& 31)), .int 5]) (rest := [.int z10]) (mt_L_part l D I J O (v5 >>> (18 &&& 31)) 5 z11 h) blR (x_pcR E x_none) ok_L_part q437 rfl hl.1 rfl (Nat.le_of_ble_eq_true rfl) ⟨Nat.le_of_ble_eq_true rfl, Nat.le_of_ble_eq_true rfl⟩ ⟨(show cells + 0 ≤ 600104 by omega), (show slots + 0 ≤ 7301314 by omega)⟩ dL_law_122) ?_
    refine lv_if_ne (tgt := 132) hx hb dL_law_125 (by decide) (fun hc => ?_) (fun hc => ?_)
    · rw [if_neg hc] at hf
      refine lv_iconst (v := 0) hx hb dL_law_132 (by decide) ?_
      exact k_L_law_133 b L xs h0 n t b0 b1 hh ha c0 E hfl hXZ hXs hbl _ hk38 v3 v4 v5 t0 z7 z10 0 x (vp_updL w v3.toNatClampNeg z6) hf H locs ad _ _ (by omega) (by omega) hw _ (lv_sub hl [3, 4, 5, 6, 7, 8, 2, 1] rfl)
    · rw [if_pos hc] at hf
      refine lv_iconst (v := 1) hx hb dL_law_128 (by decide) ?_
      refine lv_goto (tgt := 133) hx hb dL_law_129 (by decide) ?_
      exact k_L_law_133 b L xs h0 n t b0 b1 hh ha c0 E hfl hXZ hXs hbl _ hk38 v3 v4 v5 t0 z7 z10 1 x (vp_updL w v3.toNatClampNeg z6) hf H locs ad _ _ (by omega) (by omega) hw _ (lv_sub hl [3, 4, 5, 6, 7, 8, 2, 1] rfl)
  · rw [if_pos hc] at hf
    refine lv_iconst (v := 0) hx hb dL_law_99 (by decide) ?_
    refine lv_goto (tgt := 134) hx hb dL_law_100 (by decide) ?_
    exact k_L_law_134 b L xs h0 n t b0 b1 hh ha c0 E hfl hXZ hXs hbl _ hk38 v3 v4 v5 t0 z7 0 x (vp_updL w v3.toNatClampNeg z6) hf H locs ad _ _ (by omega) (by omega) hw _ (lv_sub hl [3, 4, 5, 6, 7, 8, 2, 1] rfl)
set_option maxRecDepth 100000 in
set_option maxHeartbeats 4000000 in
theorem k_L_law_487 {p : Program} {l : Launch} {e : Env} {s : State} {m : MethodId} {below : List Frame} {meth : Method} {c : Code} {D : va_G} {I J O : ClassId} (b L : Nat) (xs : Fn) (h0 : Nat) (n t : Nat → Nat) (b0 b1 hh ha c0 : Nat) (E : fx p s m #[Value.ref b] meth c cL_law RL 12 ret D I J O) (hfl : l.stackTraces = false) (hXZ : XZ (fun q : Nat => s.heap.size ≤ q) s) (hXs : va_X b L xs s s.heap) (hbl : b < s.heap.size) : ∀  (x : ClC) (w : FnL), f_L_law_487 L xs  x w = some 1 → ∀ (H : Heap) (locs : List Loc) (ad : Nat → Nat → Nat) (cells slots : Nat), cells ≤ 310000 → slots ≤ 4000000 → fy D (fun q : Nat => s.heap.size ≤ q) s.heap H locs (wCl I h0 n t b0 b1 hh x ++ wLo J c0 64 w ++ wHi I O hh ha ad x.2.2.1) → ∀ ls : Array Slot, lv_has ls 12 [(1, .ref h0)] → W p l e room_1 s m #[Value.ref b] below meth c H locs cells slots (lw_Z below #[Value.ref b] s) (F0 m 487 ls []) := by
  have hx := E.1
  have hb := E.2.1
  have hbA : ¬ (fun q : Nat => s.heap.size ≤ q) b := Nat.not_le.mpr hbl
  intro  x w hf H locs ad cells slots hcs hss hw ls hl
  unfold f_L_law_487 at hf
  refine lv_aload_n hx hb dL_law_487 rfl (lv_at hl 0 rfl) ?_
  refine lv_bipush (v := 9) hx hb dL_law_488 (by decide) ?_
  obtain ⟨z44, h, hf⟩ := rt_s hf
  refine x_ci (x_rV E (As := [.int 9]) (rest := []) (mt_X5_count l D I J O h0 n t b0 b1 hh ha ad 9 x z44 h) blR (x_recv E hw.1 0 5 rfl rfl rfl) (x_pcR E (va_P.part hw.1 [0, 1, 2, 3, 4, 5, 6, 7, 8, 9, 10, 11, 12, 13, 14, 15, 16, 17, 18, 19, 20, 21, 22, 23, 24, 25, 26] rfl)) ok_X5_count q399 rfl hl.1 rfl (Nat.le_of_ble_eq_true rfl) ⟨Nat.le_of_ble_eq_true rfl, Nat.le_of_ble_eq_true rfl⟩ ⟨(show cells + 0 ≤ 600104 by omega), (show slots + 0 ≤ 7301314 by omega)⟩ dL_law_490) ?_
  refine lv_if_ne (tgt := 514) hx hb dL_law_493 (by decide) (fun hc => ?_) (fun hc => ?_)
  · rw [if_neg hc] at hf
    refine lv_iconst (v := 0) hx hb dL_law_514 (by decide) ?_
    exact absurd (Option.some.inj hf) (by decide)
  · rw [if_pos hc] at hf
    refine lv_aload_n hx hb dL_law_496 rfl (lv_at hl 0 rfl) ?_
    refine lv_bipush (v := 9) hx hb dL_law_497 (by decide) ?_
    refine lv_iconst (v := 0) hx hb dL_law_499 (by decide) ?_
    refine lv_iconst (v := 0) hx hb dL_law_500 (by decide) ?_
    refine lv_iconst (v := 0) hx hb dL_law_501 (by decide) ?_
    obtain ⟨z45, h, hf⟩ := bd_s hf
    have hw : fy D (fun q : Nat => s.heap.size ≤ q) s.heap H locs ((wCl I h0 n t b0 b1 hh x) ++ (wLo J c0 64 w) ++ wHi I O hh ha ad x.2.2.1) := hw.part [0, 1, 2, 3, 4, 5, 6, 7, 8, 9, 10, 11, 12, 13, 14, 15, 16, 17, 18, 19, 20, 21, 22, 23, 24, 25, 26, 27] rfl rfl
    refine x_miFP hw (x_rW E (As := [.ref h0, .int 9, .int 0, .int 0, .int 0]) (rest := []) (mt_L_call l hfl D I J O h0 n t b0 b1 hh ha ad H.size 9 0 0 0 x z45.1 z45.2 h) blW (x_pcVF E hXZ hw) ok_L_call q445 rfl hl.1 rfl (Nat.le_of_ble_eq_true rfl) ⟨Nat.le_of_ble_eq_true rfl, Nat.le_of_ble_eq_true rfl⟩ ⟨(show cells + 1 ≤ 600104 by omega), (show slots + 6 ≤ 7301314 by omega)⟩ dL_law_502) (fun _ => rfl) (fun ad46 H locs hw => ?_)
    have hw : fy D (fun q : Nat => s.heap.size ≤ q) s.heap H locs ((wCl I h0 n t b0 b1 hh z45.2) ++ (wLo J c0 64 w) ++ wHi I O hh ha ad46 z45.2.2.2.1) := hw
    have hw : fy D (fun q : Nat => s.heap.size ≤ q) s.heap H locs (wCl I h0 n t b0 b1 hh z45.2 ++ wLo J c0 64 w ++ wHi I O hh ha ad46 z45.2.2.2.1) := hw.part [0, 1, 2, 3, 4, 5, 6, 7, 8, 9, 10, 11, 12, 13, 14, 15, 16, 17, 18, 19, 20, 21, 22, 23, 24, 25, 26, 27] rfl rfl
    have hw : fy D (fun q : Nat => s.heap.size ≤ q) s.heap H locs (wCl I h0 n t b0 b1 hh z45.2 ++ wLo J c0 64 w ++ wHi I O hh ha ad46 z45.2.2.2.1) := hw
    refine lv_bipush (v := (-13)) hx hb dL_law_505 (by decide) ?_
    refine lv_icmp_ne (tgt := 514) hx hb dL_law_507 (by decide) (fun hc => ?_) (fun hc => ?_)
    · rw [if_neg hc] at hf
      refine lv_iconst (v := 0) hx hb dL_law_514 (by decide) ?_
      exact absurd (Option.some.inj hf) (by decide)
    · rw [if_pos hc] at hf
      refine lv_iconst (v := 1) hx hb dL_law_510 (by decide) ?_
      refine lv_goto (tgt := 515) hx hb dL_law_511 (by decide) ?_
      refine va_forget hw.2.2.1.2.2 ?_
      refine W.widen (k := 600104) (n := 7301314) (by omega) (by omega) ?_
      exact lw_ret (d0 := s.drawn) (Drawn.sameBut.refl s.drawn lw_cs) hx hb E.2.2.2.2.2.2.1 E.2.2.2.2.2.2.2 dL_law_515
set_option maxRecDepth 100000 in
set_option maxHeartbeats 4000000 in
theorem k_L_law_425 {p : Program} {l : Launch} {e : Env} {s : State} {m : MethodId} {below : List Frame} {meth : Method} {c : Code} {D : va_G} {I J O : ClassId} (b L : Nat) (xs : Fn) (h0 : Nat) (n t : Nat → Nat) (b0 b1 hh ha c0 : Nat) (E : fx p s m #[Value.ref b] meth c cL_law RL 12 ret D I J O) (hfl : l.stackTraces = false) (hXZ : XZ (fun q : Nat => s.heap.size ≤ q) s) (hXs : va_X b L xs s s.heap) (hbl : b < s.heap.size) : ∀ fu : Nat, ∀ (v3 : Int32) (v4 : Int32) (x : ClC) (w : FnL), f_L_law_425 L xs fu v3 v4 x w = some 1 → ∀ (H : Heap) (locs : List Loc) (ad : Nat → Nat → Nat) (cells slots : Nat), cells ≤ 310000 → slots ≤ 4000000 → fy D (fun q : Nat => s.heap.size ≤ q) s.heap H locs (wCl I h0 n t b0 b1 hh x ++ wLo J c0 64 w ++ wHi I O hh ha ad x.2.2.1) → ∀ ls : Array Slot, lv_has ls 12 [(1, .ref h0), (2, .ref c0), (3, .int v3), (4, .int v4)] → W p l e room_1 s m #[Value.ref b] below meth c H locs cells slots (lw_Z below #[Value.ref b] s) (F0 m 425 ls []) := by
  have hx := E.1
  have hb := E.2.1
  have hbA : ¬ (fun q : Nat => s.heap.size ≤ q) b := Nat.not_le.mpr hbl
  intro fu
  induction fu with
  | zero =>
    intro v3 v4 x w hf H locs ad cells slots hcs hss hw ls hl
    rw [f_L_law_425.eq_1] at hf
    cases hf
  | succ fu ih =>
    intro v3 v4 x w hf H locs ad cells slots hcs hss hw ls hl
    rw [f_L_law_425.eq_2] at hf
    refine lv_aload_n hx hb dL_law_425 rfl (lv_at hl 0 rfl) ?_
    refine lv_bipush (v := 9) hx hb dL_law_426 (by decide) ?_
    obtain ⟨z39, h, hf⟩ := rt_s hf
    refine x_ci (x_rV E (As := [.int 9]) (rest := []) (mt_X5_count l D I J O h0 n t b0 b1 hh ha ad 9 x z39 h) blR (x_recv E hw.1 0 5 rfl rfl rfl) (x_pcR E (va_P.part hw.1 [0, 1, 2, 3, 4, 5, 6, 7, 8, 9, 10, 11, 12, 13, 14, 15, 16, 17, 18, 19, 20, 21, 22, 23, 24, 25, 26] rfl)) ok_X5_count q399 rfl hl.1 rfl (Nat.le_of_ble_eq_true rfl) ⟨Nat.le_of_ble_eq_true rfl, Nat.le_of_ble_eq_true rfl⟩ ⟨(show cells + 0 ≤ 600104 by omega), (show slots + 0 ≤ 7301314 by omega)⟩ dL_law_428) ?_
    refine lv_if_le (tgt := 487) hx hb dL_law_431 (by decide) (fun hc => ?_) (fun hc => ?_)
    · rw [if_pos hc] at hf
      exact k_L_law_487 b L xs h0 n t b0 b1 hh ha c0 E hfl hXZ hXs hbl  x w hf H locs ad _ _ (by omega) (by omega) hw _ (lv_sub hl [0] rfl)
    · rw [if_neg hc] at hf
      refine lv_iload hx hb dL_law_434 (lv_at hl 3 rfl) ?_
      refine lv_iload_n hx hb dL_law_436 rfl (lv_at hl 2 rfl) ?_
      refine lv_icmp_ge (tgt := 487) hx hb dL_law_437 (by decide) (fun hc => ?_) (fun hc => ?_)
      · rw [if_pos hc] at hf
        exact k_L_law_487 b L xs h0 n t b0 b1 hh ha c0 E hfl hXZ hXs hbl  x w hf H locs ad _ _ (by omega) (by omega) hw _ (lv_sub hl [0] rfl)
      · rw [if_neg hc] at hf
        refine lv_aload_n hx hb dL_law_440 rfl (lv_at hl 0 rfl) ?_
        refine lv_bipush (v := 9) hx hb dL_law_441 (by decide) ?_
        obtain ⟨z40, h, hf⟩ := rt_s hf
        refine x_ci (x_rV E (As := [.int 9]) (rest := []) (mt_X5_count l D I J O h0 n t b0 b1 hh ha ad 9 x z40 h) blR (x_recv E hw.1 0 5 rfl rfl rfl) (x_pcR E (va_P.part hw.1 [0, 1, 2, 3, 4, 5, 6, 7, 8, 9, 10, 11, 12, 13, 14, 15, 16, 17, 18, 19, 20, 21, 22, 23, 24, 25, 26] rfl)) ok_X5_count q399 rfl hl.1 rfl (Nat.le_of_ble_eq_true rfl) ⟨Nat.le_of_ble_eq_true rfl, Nat.le_of_ble_eq_true rfl⟩ ⟨(show cells + 0 ≤ 600104 by omega), (show slots + 0 ≤ 7301314 by omega)⟩ dL_law_443) ?_
        refine lv_istore (lv' := [(5, .int z40), (1, .ref h0), (2, .ref c0), (3, .int v3), (4, .int v4)]) hx hb dL_law_446 hl (by decide) rfl (fun ls hl => ?_)
        refine lv_iload hx hb dL_law_448 (lv_at hl 4 rfl) ?_
        refine lv_iconst (v := 5) hx hb dL_law_450 (by decide) ?_
        refine lv_icmp_gt (tgt := 479) hx hb dL_law_451 (by decide) (fun hc => ?_) (fun hc => ?_)
        · rw [if_pos hc] at hf
          refine lv_iconst (v := 0) hx hb dL_law_479 (by decide) ?_
          exact absurd (Option.some.inj hf) (by decide)
        · rw [if_neg hc] at hf
          refine lv_aload_n hx hb dL_law_454 rfl (lv_at hl 1 rfl) ?_
          obtain ⟨z41, h, hf⟩ := bd_s hf
          refine x_cl (x_rS E (As := [.ref h0]) (rest := []) (mt_L_seen l D I J O h0 n t b0 b1 hh ha ad x z41 h) blR (x_pcR E (va_P.part hw.1 [0, 1, 2, 3, 4, 5, 6, 7, 8, 9, 10, 11, 12, 13, 14, 15, 16, 17, 18, 19, 20, 21, 22, 23, 24, 25, 26] rfl)) ok_L_seen q786 rfl hl.1 rfl (Nat.le_of_ble_eq_true rfl) ⟨Nat.le_of_ble_eq_true rfl, Nat.le_of_ble_eq_true rfl⟩ ⟨(show cells + 0 ≤ 600104 by omega), (show slots + 0 ≤ 7301314 by omega)⟩ dL_law_455) ?_
          refine lv_aload_n hx hb dL_law_458 rfl (lv_at hl 2 rfl) ?_
          refine lv_iload_n hx hb dL_law_459 rfl (lv_at hl 3 rfl) ?_
          refine lv_iload hx hb dL_law_460 (lv_at hl 4 rfl) ?_
          refine lv_isub hx hb dL_law_462 ?_
          obtain ⟨g, hf⟩ := gi_s hf
          refine x_lald E hw.1 27 rfl g dL_law_463 ?_
          refine W.lcmp hx hb dL_law_464 ?_
          refine lv_if_ne (tgt := 479) hx hb dL_law_465 (by decide) (fun hc => ?_) (fun hc => ?_)
          · rw [if_neg hc] at hf
            refine lv_iconst (v := 0) hx hb dL_law_479 (by decide) ?_
            exact absurd (Option.some.inj hf) (by decide)
          · rw [if_pos hc] at hf
            refine lv_aload_n hx hb dL_law_468 rfl (lv_at hl 1 rfl) ?_
            obtain ⟨z42, h, hf⟩ := rt_s hf
            have hw : fy D (fun q : Nat => s.heap.size ≤ q) s.heap H locs ((wCl I h0 n t b0 b1 hh x) ++ (wLo J c0 64 w) ++ wHi I O hh ha ad x.2.2.1) := hw.part [0, 1, 2, 3, 4, 5, 6, 7, 8, 9, 10, 11, 12, 13, 14, 15, 16, 17, 18, 19, 20, 21, 22, 23, 24, 25, 26, 27] rfl rfl
            refine x_miFP hw (x_rV E (As := []) (rest := []) (mt_X5_undo l D I J O h0 n t b0 b1 hh ha ad H.size x z42.1 z42.2 h) blM (x_recv E hw.1 0 5 rfl rfl rfl) (x_pcMPF E hw) ok_X5_undo q291 rfl hl.1 rfl (Nat.le_of_ble_eq_true rfl) ⟨Nat.le_of_ble_eq_true rfl, Nat.le_of_ble_eq_true rfl⟩ ⟨(show cells + 0 ≤ 600104 by omega), (show slots + 0 ≤ 7301314 by omega)⟩ dL_law_469) (fun _ => rfl) (fun ad43 H locs hw => ?_)
            have hw : fy D (fun q : Nat => s.heap.size ≤ q) s.heap H locs ((wCl I h0 n t b0 b1 hh z42.2) ++ (wLo J c0 64 w) ++ wHi I O hh ha ad43 z42.2.2.2.1) := hw
            have hw : fy D (fun q : Nat => s.heap.size ≤ q) s.heap H locs (wCl I h0 n t b0 b1 hh z42.2 ++ wLo J c0 64 w ++ wHi I O hh ha ad43 z42.2.2.2.1) := hw.part [0, 1, 2, 3, 4, 5, 6, 7, 8, 9, 10, 11, 12, 13, 14, 15, 16, 17, 18, 19, 20, 21, 22, 23, 24, 25, 26, 27] rfl rfl
            have hw : fy D (fun q : Nat => s.heap.size ≤ q) s.heap H locs (wCl I h0 n t b0 b1 hh z42.2 ++ wLo J c0 64 w ++ wHi I O hh ha ad43 z42.2.2.2.1) := hw
            refine lv_iload hx hb dL_law_472 (lv_at hl 0 rfl) ?_
            refine lv_iconst (v := 1) hx hb dL_law_474 (by decide) ?_
            refine lv_isub hx hb dL_law_475 ?_
            refine lv_icmp_eq (tgt := 481) hx hb dL_law_476 (by decide) (fun hc => ?_) (fun hc => ?_)
            · rw [if_pos hc] at hf
              refine lv_iinc (v := v4 + 1) (lv' := [(4, .int (v4 + 1)), (5, .int z40), (1, .ref h0), (2, .ref c0), (3, .int v3)]) hx hb dL_law_481 hl (k := 4) rfl rfl (by decide) rfl (fun ls hl => ?_)
              refine lv_goto (tgt := 425) hx hb dL_law_484 (by decide) ?_
              exact ih v3 (v4 + 1) z42.2 w hf H locs ad43 _ _ (by omega) (by omega) hw _ (lv_sub hl [2, 3, 4, 0] rfl)
            · rw [if_neg hc] at hf
              refine lv_iconst (v := 0) hx hb dL_law_479 (by decide) ?_
              exact absurd (Option.some.inj hf) (by decide)
set_option maxRecDepth 100000 in
set_option maxHeartbeats 4000000 in
theorem k_L_law_38 {p : Program} {l : Launch} {e : Env} {s : State} {m : MethodId} {below : List Frame} {meth : Method} {c : Code} {D : va_G} {I J O : ClassId} (b L : Nat) (xs : Fn) (h0 : Nat) (n t : Nat → Nat) (b0 b1 hh ha c0 : Nat) (E : fx p s m #[Value.ref b] meth c cL_law RL 12 ret D I J O) (hfl : l.stackTraces = false) (hXZ : XZ (fun q : Nat => s.heap.size ≤ q) s) (hXs : va_X b L xs s s.heap) (hbl : b < s.heap.size) : ∀ fu : Nat, ∀ (v3 : Int32) (v4 : Int32) (x : ClC) (w : FnL), f_L_law_38 L xs fu v3 v4 x w = some 1 → ∀ (H : Heap) (locs : List Loc) (ad : Nat → Nat → Nat) (cells slots : Nat), cells + 10 * fu ≤ 300000 → slots + 60 * fu ≤ 3000000 → fy D (fun q : Nat => s.heap.size ≤ q) s.heap H locs (wCl I h0 n t b0 b1 hh x ++ wLo J c0 64 w ++ wHi I O hh ha ad x.2.2.1) → ∀ ls : Array Slot, lv_has ls 12 [(0, .ref b), (1, .ref h0), (2, .ref c0), (3, .int v3), (4, .int v4)] → W p l e room_1 s m #[Value.ref b] below meth c H locs cells slots (lw_Z below #[Value.ref b] s) (F0 m 38 ls []) := by
  have hx := E.1
  have hb := E.2.1
  have hbA : ¬ (fun q : Nat => s.heap.size ≤ q) b := Nat.not_le.mpr hbl
  intro fu
  induction fu with
  | zero =>
    intro v3 v4 x w hf H locs ad cells slots hcs hss hw ls hl
    rw [f_L_law_38.eq_1] at hf
    cases hf
  | succ fu ih =>
    intro v3 v4 x w hf H locs ad cells slots hcs hss hw ls hl
    rw [f_L_law_38.eq_2] at hf
    refine lv_iload hx hb dL_law_38 (lv_at hl 4 rfl) ?_
    refine lv_bipush (v := 24) hx hb dL_law_40 (by decide) ?_
    refine lv_icmp_ge (tgt := 406) hx hb dL_law_42 (by decide) (fun hc => ?_) (fun hc => ?_)
    · rw [if_pos hc] at hf
      refine lv_aload_n hx hb dL_law_406 rfl (lv_at hl 2 rfl) ?_
      refine lv_iload_n hx hb dL_law_407 rfl (lv_at hl 3 rfl) ?_
      refine lv_aload_n hx hb dL_law_408 rfl (lv_at hl 1 rfl) ?_
      obtain ⟨z1, h, hf⟩ := bd_s hf
      refine x_cl (x_rS E (As := [.ref h0]) (rest := [.int v3, .ref c0]) (mt_L_seen l D I J O h0 n t b0 b1 hh ha ad x z1 h) blR (x_pcR E (va_P.part hw.1 [0, 1, 2, 3, 4, 5, 6, 7, 8, 9, 10, 11, 12, 13, 14, 15, 16, 17, 18, 19, 20, 21, 22, 23, 24, 25, 26] rfl)) ok_L_seen q786 rfl hl.1 rfl (Nat.le_of_ble_eq_true rfl) ⟨Nat.le_of_ble_eq_true rfl, Nat.le_of_ble_eq_true rfl⟩ ⟨(show cells + 0 ≤ 600104 by omega), (show slots + 0 ≤ 7301314 by omega)⟩ dL_law_409) ?_
      obtain ⟨g, hf⟩ := gi_s hf
      refine x_last E hw 27 rfl g dL_law_412 (fun H locs hw => ?_)
      have hw : fy D (fun q : Nat => s.heap.size ≤ q) s.heap H locs (wCl I h0 n t b0 b1 hh x ++ wLo J c0 64 (vp_updL w v3.toNatClampNeg z1) ++ wHi I O hh ha ad x.2.2.1) := hw
      refine lv_aload_n hx hb dL_law_413 rfl (lv_at hl 1 rfl) ?_
      obtain ⟨z2, h, hf⟩ := bd_s hf
      have hw : fy D (fun q : Nat => s.heap.size ≤ q) s.heap H locs ((wCl I h0 n t b0 b1 hh x) ++ (wLo J c0 64 (vp_updL w v3.toNatClampNeg z1)) ++ wHi I O hh ha ad x.2.2.1) := hw.part [0, 1, 2, 3, 4, 5, 6, 7, 8, 9, 10, 11, 12, 13, 14, 15, 16, 17, 18, 19, 20, 21, 22, 23, 24, 25, 26, 27] rfl rfl
      refine x_miFP hw (x_rS E (As := [.ref h0]) (rest := []) (mt_L_refused l hfl D I J O h0 n t b0 b1 hh ha ad H.size x z2.1 z2.2 h) blZ (x_pcZF E hXZ hw) ok_L_refused q686 rfl hl.1 rfl (Nat.le_of_ble_eq_true rfl) ⟨Nat.le_of_ble_eq_true rfl, Nat.le_of_ble_eq_true rfl⟩ ⟨(show cells + 58 ≤ 600104 by omega), (show slots + 348 ≤ 7301314 by omega)⟩ dL_law_414) (fun _ => rfl) (fun ad3 H locs hw => ?_)
      have hw : fy D (fun q : Nat => s.heap.size ≤ q) s.heap H locs ((wCl I h0 n t b0 b1 hh z2.2) ++ (wLo J c0 64 (vp_updL w v3.toNatClampNeg z1)) ++ wHi I O hh ha ad3 z2.2.2.2.1) := hw
      have hw : fy D (fun q : Nat => s.heap.size ≤ q) s.heap H locs (wCl I h0 n t b0 b1 hh z2.2 ++ wLo J c0 64 (vp_updL w v3.toNatClampNeg z1) ++ wHi I O hh ha ad3 z2.2.2.2.1) := hw.part [0, 1, 2, 3, 4, 5, 6, 7, 8, 9, 10, 11, 12, 13, 14, 15, 16, 17, 18, 19, 20, 21, 22, 23, 24, 25, 26, 27] rfl rfl
      have hw : fy D (fun q : Nat => s.heap.size ≤ q) s.heap H locs (wCl I h0 n t b0 b1 hh z2.2 ++ wLo J c0 64 (vp_updL w v3.toNatClampNeg z1) ++ wHi I O hh ha ad3 z2.2.2.2.1) := hw
      refine lv_if_ne (tgt := 422) hx hb dL_law_417 (by decide) (fun hc => ?_) (fun hc => ?_)
      · rw [if_neg hc] at hf
        refine lv_iconst (v := 0) hx hb dL_law_422 (by decide) ?_
        refine lv_istore (lv' := [(4, .int 0), (0, .ref b), (1, .ref h0), (2, .ref c0), (3, .int v3)]) hx hb dL_law_423 hl (by decide) rfl (fun ls hl => ?_)
        exact k_L_law_425 b L xs h0 n t b0 b1 hh ha c0 E hfl hXZ hXs hbl 100 v3 0 z2.2 (vp_updL w v3.toNatClampNeg z1) hf H locs ad3 _ _ (by omega) (by omega) hw _ (lv_sub hl [2, 3, 4, 0] rfl)
      · rw [if_pos hc] at hf
        refine lv_iconst (v := 0) hx hb dL_law_420 (by decide) ?_
        exact absurd (Option.some.inj hf) (by decide)
    · rw [if_neg hc] at hf
      refine lv_aload_n hx hb dL_law_45 rfl (lv_at hl 0 rfl) ?_
      refine lv_iload hx hb dL_law_46 (lv_at hl 4 rfl) ?_
      obtain ⟨z4, h, hf⟩ := bd_s hf
      refine x_ci (x_rS E (As := [.ref b, .int v4]) (rest := []) (mt_L_drawn l D I J O b L xs v4 z4 h) blS (x_pcS E hXs hbl hbA hw.2.2.1) ok_L_drawn q441 rfl hl.1 rfl (Nat.le_of_ble_eq_true rfl) ⟨Nat.le_of_ble_eq_true rfl, Nat.le_of_ble_eq_true rfl⟩ ⟨(show cells + 0 ≤ 600104 by omega), (show slots + 0 ≤ 7301314 by omega)⟩ dL_law_48) ?_
      refine lv_istore (lv' := [(5, .int z4), (0, .ref b), (1, .ref h0), (2, .ref c0), (3, .int v3), (4, .int v4)]) hx hb dL_law_51 hl (by decide) rfl (fun ls hl => ?_)
      refine lv_iload hx hb dL_law_53 (lv_at hl 5 rfl) ?_
      refine lv_iconst (v := 3) hx hb dL_law_55 (by decide) ?_
      refine lv_icmp_ge (tgt := 63) hx hb dL_law_56 (by decide) (fun hc => ?_) (fun hc => ?_)
      · rw [if_pos hc] at hf
        refine lv_iload hx hb dL_law_63 (lv_at hl 0 rfl) ?_
        refine lv_bipush (v := 11) hx hb dL_law_65 (by decide) ?_
        obtain ⟨z5, h, hf⟩ := bd_s hf
        refine x_ci (x_rS E (As := [.int z4, .int 11]) (rest := []) (mt_L_part l D I J O z4 11 z5 h) blR (x_pcR E x_none) ok_L_part q437 rfl hl.1 rfl (Nat.le_of_ble_eq_true rfl) ⟨Nat.le_of_ble_eq_true rfl, Nat.le_of_ble_eq_true rfl⟩ ⟨(show cells + 0 ≤ 600104 by omega), (show slots + 0 ≤ 7301314 by omega)⟩ dL_law_67) ?_
        exact k_L_law_70 b L xs h0 n t b0 b1 hh ha c0 E hfl hXZ hXs hbl _ ih v3 v4 z4 z5 x w hf H locs ad _ _ (by omega) (by omega) hw _ (lv_sub hl [1, 2, 3, 4, 5, 0] rfl)
      · rw [if_neg hc] at hf
        refine lv_iconst (v := 0) hx hb dL_law_59 (by decide) ?_
        refine lv_goto (tgt := 70) hx hb dL_law_60 (by decide) ?_
        exact k_L_law_70 b L xs h0 n t b0 b1 hh ha c0 E hfl hXZ hXs hbl _ ih v3 v4 z4 0 x w hf H locs ad _ _ (by omega) (by omega) hw _ (lv_sub hl [1, 2, 3, 4, 5, 0] rfl)
