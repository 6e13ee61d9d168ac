/-! THE CLAIM OUT OF ONE WALK OF THE LAW'S BODY. Your part is whole_start (and what it stands on); all else here is the same for every law, but numbers. -/
def R_law : String := "StampedSlotsLaw"
def lw_P (b : Addr) (xs : List Int32) (args : Array Value) (s : State) : Prop := args = #[.ref b] ∧ s.IntsAt b xs ∧ xs.length ≤ 2560 ∧ (Jvm.Cond.and given_1 narrow_1).before args s = true
/-- what a walk over the start with the record d0 says of its end, said of the start itself -/
theorem lw_closed {s t : State} {o : Outcome} {d0 : Drawn} {L : List Loc} {k n : Nat} (hd0 : s.drawn.sameBut d0 lw_cs) (hv : ∃ v, o = .returned v) (hW : (s.setDrawn d0).WarmedH t.vm) (hs : (s.setDrawn d0).sameButNew ({ t with vm := s.vm } : State) L k n) : State.butDraws s t lw_cs (fun t1 => Framed s o t1 L k n) := by
  have h2 : t.drawn = d0 := congrArg State.drawn hs.1
  refine ⟨⟨hv, hW, State.sameButNew.setDrawn hs s.drawn⟩, ?_, by decide⟩
  rw [h2]
  exact hd0
def lw_Q (_ : Array Value) (s : State) (o : Outcome) (t : State) : Prop := o = .returned (some (.int 1)) ∧ State.butDraws s t lw_cs (fun t1 => Framed s o t1 [] 601024 7293034)
def lw_Z (below : List Frame) (a : Array Value) (s : State) : State → Prop := fun t => ∃ o, t.status = .running ∧ Ended t below o ∧ lw_Q a s o t
/-- the law's own end, with 1 on the stack, nothing written that was there before, its room as the claim has it; d0: the record of draws at this point (at the entry s.drawn: begin with 'refine W.base ?_' and 'have hd0 := Drawn.sameBut.refl s.drawn lw_cs') -/
theorem lw_ret {p : Program} {l : Launch} {e : Env} {s : State} {m : MethodId} {below : List Frame} {meth : Method} {c : Code} {b : Nat} {d0 : Drawn} (hd0 : s.drawn.sameBut d0 lw_cs) (hx : p.tables.exec = Jvm.exec) (hb : c.code = code) (hr : meth.sig.returnType = ret) (hlocks : meth.locks = false) {pc : Nat} {H : Heap} {ls : Array Slot} (hdg : decode code pc = .ok (.ireturn, 1)) : W p l e room_1 (s.setDrawn d0) m #[Value.ref b] below meth c H [] 601024 7293034 (lw_Z below #[Value.ref b] s) (F0 m pc ls [.int 1]) := by
  intro T hT X
  obtain ⟨fs, hret, hrun, hended, hW, hframe⟩ := X.leave (v := some (.int 1)) (hlocks := hlocks) (fun h => by rw [hr] at h; cases h)
  have hmeth' : T.vm.method? m = some meth := X.method'
  refine ⟨T.setFrames fs, ?_, .returned (some (.int 1)), hrun, hended, rfl, lw_closed hd0 ⟨_, rfl⟩ hW hframe⟩
  jvm_step X.here [X.here.top, hx, hb, hdg, hmeth', hr, ret, narrow_b1]
  (try refine ⟨rfl, ?_⟩); (try refine ⟨rfl, ?_⟩)
  first | (intro acts; rw [hret _ acts rfl rfl rfl]) | rw [hret _ _ rfl rfl rfl]
  exact Steps.refl _
/-- what holds at the law's entry: the machine, the code, the tables' words (any of lw_tbl by 'hts w (by decide +kernel)'), the script of L ints xs at the cell b, what the Statement gives of the start (any of its parts by flat_of_before) -/
def lw_At (p : Program) (s : State) (m : MethodId) (meth : Method) (c : Code) (b L : Nat) (xs : Nat → Int32) : Prop :=
  p.tables.exec = Jvm.exec ∧ c.code = code ∧ meth.sig.returnType = ret ∧ c.maxLocals = 9 ∧ s.vm.findClass R_law = some m.cls ∧ (∀ w ∈ lw_tbl, w.before #[Value.ref b] s = true) ∧ va_X b L xs s s.heap ∧ b < s.heap.size ∧ meth.locks = false ∧ (Jvm.Cond.and given_1 narrow_1).before #[Value.ref b] s = true
theorem x_pcWP {p : Program} {s : State} {m : MethodId} {args : Array Value} {meth : Method} {c : Code} {cc : ByteArray} {own : String} {nL : Nat} {rt : Option FieldType} {D : va_G} {I J O : ClassId} {H : Heap} {locs : List Loc} (E : fx p s m args meth c cc own nL rt D I J O) (hXE : XE s) {X pl wc : va_W} (hw : fy D (fun q : Nat => s.heap.size ≤ q) s.heap H locs (X ++ pl)) (is : List Nat) (hn : va_nd is = true) (hC : is.map (fun i => X[i]?) = wc.map some) {Bs : List Value} : ∀ U : State, U.heap = H → s.WarmedH U.vm → pcW D I J O H.size Bs (wc ++ pl) Bs.toArray U := by
  intro U hU hW
  have h1 := x_pcMP E hw is hn hC (Bs := Bs) U hU hW
  refine ⟨h1.1, h1.2.1, h1.2.2.1, h1.2.2.2.1, h1.2.2.2.2, ?_⟩
  obtain ⟨g1, g2, ⟨g3, g4, g5⟩, ⟨g6, g7, g8⟩, g9, g11, g12, g13⟩ := hXE
  have hS := hw.2.2.1
  refine ⟨?_, ?_, ⟨va_Nw.warmC hW g3, va_Nw.warmC hW g4, va_Nw.warmC hW g5⟩, ⟨g6.moved hW.alike, g7.moved hW.alike, g8.moved hW.alike⟩, fun q hq => ?_, va_Nw.warmD hW g11, va_Nw.warmD hW g12, va_Nw.warmD hW g13⟩
  · rw [hU]
    exact vx_Zq.moved hW.alike (g1.kept (fun a ha _ => hS.2.1 a ha (Nat.not_le.mpr ha)))
  · rw [hU]
    exact vx_Zq.moved hW.alike (g2.kept (fun a ha _ => hS.2.1 a ha (Nat.not_le.mpr ha)))
  · obtain ⟨sa, g10⟩ := g9 q hq
    exact ⟨sa, vk_R.warm hW g10⟩
theorem x_pcWPF {p : Program} {s : State} {m : MethodId} {args : Array Value} {meth : Method} {c : Code} {cc : ByteArray} {own : String} {nL : Nat} {rt : Option FieldType} {D : va_G} {I J O : ClassId} {H : Heap} {locs : List Loc} (E : fx p s m args meth c cc own nL rt D I J O) (hXE : XE s) {pl rest9 wc : va_W} (hw : fy D (fun q : Nat => s.heap.size ≤ q) s.heap H locs ((wc ++ rest9) ++ pl)) {Bs : List Value} : ∀ U : State, U.heap = H → s.WarmedH U.vm → pcW D I J O H.size Bs (wc ++ pl) Bs.toArray U := by
  intro U hU hW
  have h1 := x_pcMPF E hw (Bs := Bs) U hU hW
  refine ⟨h1.1, h1.2.1, h1.2.2.1, h1.2.2.2.1, h1.2.2.2.2, ?_⟩
  obtain ⟨g1, g2, ⟨g3, g4, g5⟩, ⟨g6, g7, g8⟩, g9, g11, g12, g13⟩ := hXE
  have hS := hw.2.2.1
  refine ⟨?_, ?_, ⟨va_Nw.warmC hW g3, va_Nw.warmC hW g4, va_Nw.warmC hW g5⟩, ⟨g6.moved hW.alike, g7.moved hW.alike, g8.moved hW.alike⟩, fun q hq => ?_, va_Nw.warmD hW g11, va_Nw.warmD hW g12, va_Nw.warmD hW g13⟩
  · rw [hU]
    exact vx_Zq.moved hW.alike (g1.kept (fun a ha _ => hS.2.1 a ha (Nat.not_le.mpr ha)))
  · rw [hU]
    exact vx_Zq.moved hW.alike (g2.kept (fun a ha _ => hS.2.1 a ha (Nat.not_le.mpr ha)))
  · obtain ⟨sa, g10⟩ := g9 q hq
    exact ⟨sa, vk_R.warm hW g10⟩
set_option maxRecDepth 100000 in
set_option maxHeartbeats 4000000 in
theorem k_L_law_156 {p : Program} {l : Launch} {e : Env} {s : State} {m : MethodId} {below : List Frame} {meth : Method} {c : Code} {D : va_G} {I J O : ClassId} {b L : Nat} {xs : Fn} {h0 b0 b1 hh : Nat} {a0 a1 a2 a3 a4 a5 c0 : Nat} (E : fx p s m #[Value.ref b] meth c cL_law RL 9 ret D I J O) (hfl : l.stackTraces = false) (hXE : XE s) (hXs : va_X b L xs s s.heap) (hbl : b < s.heap.size) (n t : Nat → Nat) (ha : Nat) {fu : Nat} (k23 : Int32 → ClC → MdC → FnL → Option Int32) (hk23 : ∀ (v4 : Int32) (x : ClC) (o : MdC) (w : FnL), k23 v4 x o w = some 1 → ∀ (H : Heap) (locs : List Loc) (ad : Nat → Nat → Nat) (cells slots : Nat), cells + (fu) ≤ 601024 → slots + 6 * (fu) ≤ 7293034 → fy D (fun q : Nat => s.heap.size ≤ q) s.heap H locs (wCl I h0 n t b0 b1 hh x ++ wMd I a0 a1 a2 a3 a4 a5 o ++ wLo J c0 1 w ++ wHi I O hh ha ad x.2.2.1) → ∀ ls : Array Slot, lv_has ls 9 [(0, .ref b), (1, .ref h0), (2, .ref a0), (3, .ref c0), (4, .int v4)] → W p l e room_1 s m #[Value.ref b] below meth c H locs cells slots (lw_Z below #[Value.ref b] s) (F0 m 23 ls [])) : ∀ (v4 : Int32) (x : ClC) (o : MdC) (w : FnL), f_L_law_156 L xs k23 v4 x o w = some 1 → ∀ (H : Heap) (locs : List Loc) (ad : Nat → Nat → Nat) (cells slots : Nat), cells + (fu + 1) ≤ 601024 → slots + 6 * (fu + 1) ≤ 7293034 → fy D (fun q : Nat => s.heap.size ≤ q) s.heap H locs (wCl I h0 n t b0 b1 hh x ++ wMd I a0 a1 a2 a3 a4 a5 o ++ wLo J c0 1 w ++ wHi I O hh ha ad x.2.2.1) → ∀ ls : Array Slot, lv_has ls 9 [(0, .ref b), (1, .ref h0), (2, .ref a0), (3, .ref c0), (4, .int v4)] → W p l e room_1 s m #[Value.ref b] below meth c H locs cells slots (lw_Z below #[Value.ref b] s) (F0 m 156 ls []) := by
  have hx := E.1
  have hb := E.2.1
  have hbA : ¬ (fun q : Nat => s.heap.size ≤ q) b := Nat.not_le.mpr hbl
  intro v4 x o w hf H locs ad cells slots hcs hss hw ls hl
  unfold f_L_law_156 at hf
  refine lv_aload_n hx hb dL_law_156 rfl (lv_at hl 1 rfl) ?_
  refine lv_aload_n hx hb dL_law_157 rfl (lv_at hl 0 rfl) ?_
  refine lv_iload hx hb dL_law_158 (lv_at hl 4 rfl) ?_
  refine lv_iconst (v := 1) hx hb dL_law_160 (by decide) ?_
  refine lv_iadd hx hb dL_law_161 ?_
  obtain ⟨g, hf⟩ := gi_s hf
  refine va_sld hx hb hXs hbl hbA hw.2.2.1 g dL_law_162 ?_
  refine lv_aload_n hx hb dL_law_163 rfl (lv_at hl 0 rfl) ?_
  refine lv_iload hx hb dL_law_164 (lv_at hl 4 rfl) ?_
  refine lv_iconst (v := 2) hx hb dL_law_166 (by decide) ?_
  refine lv_iadd hx hb dL_law_167 ?_
  obtain ⟨g, hf⟩ := gi_s hf
  refine va_sld hx hb hXs hbl hbA hw.2.2.1 g dL_law_168 ?_
  refine lv_aload_n hx hb dL_law_169 rfl (lv_at hl 0 rfl) ?_
  refine lv_iload hx hb dL_law_170 (lv_at hl 4 rfl) ?_
  refine lv_iconst (v := 3) hx hb dL_law_172 (by decide) ?_
  refine lv_iadd hx hb dL_law_173 ?_
  obtain ⟨g, hf⟩ := gi_s hf
  refine va_sld hx hb hXs hbl hbA hw.2.2.1 g dL_law_174 ?_
  refine lv_aload_n hx hb dL_law_175 rfl (lv_at hl 3 rfl) ?_
  obtain ⟨z91, h, hf⟩ := bd_s hf
  have hw : fy D (fun q : Nat => s.heap.size ≤ q) s.heap H locs ((wCl I h0 n t b0 b1 hh x ++ wLo J c0 1 w) ++ (wMd I a0 a1 a2 a3 a4 a5 o) ++ wHi I O hh ha ad x.2.2.1) := hw.part [0, 1, 2, 3, 4, 5, 6, 7, 8, 9, 10, 11, 12, 13, 14, 15, 16, 17, 18, 19, 20, 21, 22, 23, 24, 25, 26, 33, 27, 28, 29, 30, 31, 32] rfl rfl
  refine x_miFP hw (x_rW E (As := [.ref h0, .int (xs (v4 + 1).toNatClampNeg), .int (xs (v4 + 2).toNatClampNeg), .int (xs (v4 + 3).toNatClampNeg), .ref c0]) (rest := []) (mt_L_put l hfl D I J O h0 n t b0 b1 hh ha ad c0 H.size (xs (v4 + 1).toNatClampNeg) (xs (v4 + 2).toNatClampNeg) (xs (v4 + 3).toNatClampNeg) x w z91.1 z91.2.1 z91.2.2 h) blW (x_pcWPF E hXE hw) ok_L_put q599 rfl hl.1 rfl (Nat.le_of_ble_eq_true rfl) ⟨Nat.le_of_ble_eq_true rfl, Nat.le_of_ble_eq_true rfl⟩ ⟨(show cells + 1 ≤ 601024 by omega), (show slots + 6 ≤ 7293034 by omega)⟩ dL_law_176) (fun _ => rfl) (fun ad92 H locs hw => ?_)
  have hw : fy D (fun q : Nat => s.heap.size ≤ q) s.heap H locs ((wCl I h0 n t b0 b1 hh z91.2.1 ++ wLo J c0 1 z91.2.2) ++ (wMd I a0 a1 a2 a3 a4 a5 o) ++ wHi I O hh ha ad92 z91.2.1.2.2.1) := hw
  have hw : fy D (fun q : Nat => s.heap.size ≤ q) s.heap H locs (wCl I h0 n t b0 b1 hh z91.2.1 ++ wMd I a0 a1 a2 a3 a4 a5 o ++ wLo J c0 1 z91.2.2 ++ wHi I O hh ha ad92 z91.2.1.2.2.1) := hw.part [0, 1, 2, 3, 4, 5, 6, 7, 8, 9, 10, 11, 12, 13, 14, 15, 16, 17, 18, 19, 20, 21, 22, 23, 24, 25, 26, 28, 29, 30, 31, 32, 33, 27] rfl rfl
  have hw : fy D (fun q : Nat => s.heap.size ≤ q) s.heap H locs (wCl I h0 n t b0 b1 hh z91.2.1 ++ wMd I a0 a1 a2 a3 a4 a5 o ++ wLo J c0 1 z91.2.2 ++ wHi I O hh ha ad92 z91.2.1.2.2.1) := hw
  refine lv_istore (lv' := [(5, .int z91.1), (0, .ref b), (1, .ref h0), (2, .ref a0), (3, .ref c0), (4, .int v4)]) hx hb dL_law_179 hl (by decide) rfl (fun ls hl => ?_)
  refine lv_aload_n hx hb dL_law_181 rfl (lv_at hl 3 rfl) ?_
  refine lv_aload_n hx hb dL_law_182 rfl (lv_at hl 1 rfl) ?_
  refine lv_iload hx hb dL_law_183 (lv_at hl 5 rfl) ?_
  refine lv_iconst (v := 1) hx hb dL_law_185 (by decide) ?_
  refine lv_iadd hx hb dL_law_186 ?_
  obtain ⟨g, hf⟩ := gi_s hf
  refine va_sld hx hb hXs hbl hbA hw.2.2.1 g dL_law_187 ?_
  refine lv_aload_n hx hb dL_law_188 rfl (lv_at hl 1 rfl) ?_
  refine lv_iload hx hb dL_law_189 (lv_at hl 5 rfl) ?_
  refine lv_iconst (v := 2) hx hb dL_law_191 (by decide) ?_
  refine lv_iadd hx hb dL_law_192 ?_
  obtain ⟨g, hf⟩ := gi_s hf
  refine va_sld hx hb hXs hbl hbA hw.2.2.1 g dL_law_193 ?_
  refine lv_aload_n hx hb dL_law_194 rfl (lv_at hl 1 rfl) ?_
  refine lv_iload hx hb dL_law_195 (lv_at hl 5 rfl) ?_
  refine lv_iconst (v := 3) hx hb dL_law_197 (by decide) ?_
  refine lv_iadd hx hb dL_law_198 ?_
  obtain ⟨g, hf⟩ := gi_s hf
  refine va_sld hx hb hXs hbl hbA hw.2.2.1 g dL_law_199 ?_
  obtain ⟨z93, h, hf⟩ := bd_s hf
  refine x_mi hw [27, 28, 29, 30, 31, 32] rfl rfl (x_rV E (As := [.int (xs (v4 + 1).toNatClampNeg), .int (xs (v4 + 2).toNatClampNeg), .int (xs (v4 + 3).toNatClampNeg)]) (rest := []) (mt_X6_put l D I J O a0 a1 a2 a3 a4 a5 H.size (xs (v4 + 1).toNatClampNeg) (xs (v4 + 2).toNatClampNeg) (xs (v4 + 3).toNatClampNeg) o z93.1 z93.2 h) blM (x_recv E hw.1 27 6 rfl rfl rfl) (x_pcMQ E hw [27, 28, 29, 30, 31, 32] rfl rfl) ok_X6_put q839 rfl hl.1 rfl (Nat.le_of_ble_eq_true rfl) ⟨Nat.le_of_ble_eq_true rfl, Nat.le_of_ble_eq_true rfl⟩ ⟨(show cells + 1 + 0 ≤ 601024 by omega), (show slots + 6 + 0 ≤ 7293034 by omega)⟩ dL_law_200) (fun _ => rfl) (fun _ H locs hw => ?_)
  have hw : fy D (fun q : Nat => s.heap.size ≤ q) s.heap H locs (wCl I h0 n t b0 b1 hh z91.2.1 ++ wMd I a0 a1 a2 a3 a4 a5 z93.2 ++ wLo J c0 1 z91.2.2 ++ wHi I O hh ha ad92 z91.2.1.2.2.1) := hw
  refine lv_istore (lv' := [(6, .int z93.1), (5, .int z91.1), (0, .ref b), (1, .ref h0), (2, .ref a0), (3, .ref c0), (4, .int v4)]) hx hb dL_law_203 hl (by decide) rfl (fun ls hl => ?_)
  refine lv_aload_n hx hb dL_law_205 rfl (lv_at hl 4 rfl) ?_
  obtain ⟨z94, h, hf⟩ := bd_s hf
  refine x_ci (x_rV E (As := []) (rest := []) (mt_X6_thrown l D I J O a0 a1 a2 a3 a4 a5 z93.2 z94 h) blR (x_recv E hw.1 27 6 rfl rfl rfl) (x_pcR E (x_pick hw.1 [27, 28, 29, 30, 31, 32] rfl)) ok_X6_thrown q835 rfl hl.1 rfl (Nat.le_of_ble_eq_true rfl) ⟨Nat.le_of_ble_eq_true rfl, Nat.le_of_ble_eq_true rfl⟩ ⟨(show cells + 1 + 0 + 0 ≤ 601024 by omega), (show slots + 6 + 0 + 0 ≤ 7293034 by omega)⟩ dL_law_206) ?_
  refine lv_iload hx hb dL_law_209 (lv_at hl 1 rfl) ?_
  refine lv_icmp_eq (tgt := 216) hx hb dL_law_211 (by decide) (fun hc => ?_) (fun hc => ?_)
  · rw [if_pos hc] at hf
    refine lv_iload hx hb dL_law_216 (lv_at hl 1 rfl) ?_
    refine lv_if_ne (tgt := 233) hx hb dL_law_218 (by decide) (fun hc => ?_) (fun hc => ?_)
    · rw [if_neg hc] at hf
      refine lv_goto (tgt := 1476) hx hb dL_law_233 (by decide) ?_
      refine lv_iinc (v := v4 + 5) (lv' := [(4, .int (v4 + 5)), (6, .int z93.1), (5, .int z91.1), (0, .ref b), (1, .ref h0), (2, .ref a0), (3, .ref c0)]) hx hb dL_law_1476 hl (k := 6) rfl rfl (by decide) rfl (fun ls hl => ?_)
      refine lv_goto (tgt := 23) hx hb dL_law_1479 (by decide) ?_
      exact hk23 (v4 + 5) z91.2.1 z93.2 z91.2.2 hf H locs ad92 _ _ (by omega) (by omega) hw _ (lv_sub hl [3, 4, 5, 6, 0] rfl)
    · rw [if_pos hc] at hf
      refine lv_aload_n hx hb dL_law_221 rfl (lv_at hl 5 rfl) ?_
      refine lv_iconst (v := 0) hx hb dL_law_222 (by decide) ?_
      obtain ⟨g, hf⟩ := gi_s hf
      refine x_lald E hw.1 33 rfl g dL_law_223 ?_
      refine lv_iload hx hb dL_law_224 (lv_at hl 0 rfl) ?_
      refine lv_i2l (v := z93.1.toInt64) hx hb dL_law_226 rfl ?_
      refine W.lcmp hx hb dL_law_227 ?_
      refine lv_if_eq (tgt := 233) hx hb dL_law_228 (by decide) (fun hc => ?_) (fun hc => ?_)
      · rw [if_pos hc] at hf
        refine lv_goto (tgt := 1476) hx hb dL_law_233 (by decide) ?_
        refine lv_iinc (v := v4 + 5) (lv' := [(4, .int (v4 + 5)), (6, .int z93.1), (5, .int z91.1), (0, .ref b), (1, .ref h0), (2, .ref a0), (3, .ref c0)]) hx hb dL_law_1476 hl (k := 6) rfl rfl (by decide) rfl (fun ls hl => ?_)
        refine lv_goto (tgt := 23) hx hb dL_law_1479 (by decide) ?_
        exact hk23 (v4 + 5) z91.2.1 z93.2 z91.2.2 hf H locs ad92 _ _ (by omega) (by omega) hw _ (lv_sub hl [3, 4, 5, 6, 0] rfl)
      · rw [if_neg hc] at hf
        refine lv_iconst (v := 0) hx hb dL_law_231 (by decide) ?_
        exact absurd (Option.some.inj hf) (by decide)
  · rw [if_neg hc] at hf
    refine lv_iconst (v := 0) hx hb dL_law_214 (by decide) ?_
    exact absurd (Option.some.inj hf) (by decide)
set_option maxRecDepth 100000 in
set_option maxHeartbeats 4000000 in
theorem k_L_law_236 {p : Program} {l : Launch} {e : Env} {s : State} {m : MethodId} {below : List Frame} {meth : Method} {c : Code} {D : va_G} {I J O : ClassId} {b L : Nat} {xs : Fn} {h0 b0 b1 hh : Nat} {a0 a1 a2 a3 a4 a5 c0 : Nat} (E : fx p s m #[Value.ref b] meth c cL_law RL 9 ret D I J O) (hfl : l.stackTraces = false) (hXE : XE s) (hXs : va_X b L xs s s.heap) (hbl : b < s.heap.size) (n t : Nat → Nat) (ha : Nat) {fu : Nat} (k23 : Int32 → ClC → MdC → FnL → Option Int32) (hk23 : ∀ (v4 : Int32) (x : ClC) (o : MdC) (w : FnL), k23 v4 x o w = some 1 → ∀ (H : Heap) (locs : List Loc) (ad : Nat → Nat → Nat) (cells slots : Nat), cells + (fu) ≤ 601024 → slots + 6 * (fu) ≤ 7293034 → fy D (fun q : Nat => s.heap.size ≤ q) s.heap H locs (wCl I h0 n t b0 b1 hh x ++ wMd I a0 a1 a2 a3 a4 a5 o ++ wLo J c0 1 w ++ wHi I O hh ha ad x.2.2.1) → ∀ ls : Array Slot, lv_has ls 9 [(0, .ref b), (1, .ref h0), (2, .ref a0), (3, .ref c0), (4, .int v4)] → W p l e room_1 s m #[Value.ref b] below meth c H locs cells slots (lw_Z below #[Value.ref b] s) (F0 m 23 ls [])) : ∀ (v4 : Int32) (x : ClC) (o : MdC) (w : FnL), f_L_law_236 L xs k23 v4 x o w = some 1 → ∀ (H : Heap) (locs : List Loc) (ad : Nat → Nat → Nat) (cells slots : Nat), cells + (fu + 1) ≤ 601024 → slots + 6 * (fu + 1) ≤ 7293034 → fy D (fun q : Nat => s.heap.size ≤ q) s.heap H locs (wCl I h0 n t b0 b1 hh x ++ wMd I a0 a1 a2 a3 a4 a5 o ++ wLo J c0 1 w ++ wHi I O hh ha ad x.2.2.1) → ∀ ls : Array Slot, lv_has ls 9 [(0, .ref b), (1, .ref h0), (2, .ref a0), (3, .ref c0), (4, .int v4)] → W p l e room_1 s m #[Value.ref b] below meth c H locs cells slots (lw_Z below #[Value.ref b] s) (F0 m 236 ls []) := by
  have hx := E.1
  have hb := E.2.1
  have hbA : ¬ (fun q : Nat => s.heap.size ≤ q) b := Nat.not_le.mpr hbl
  intro v4 x o w hf H locs ad cells slots hcs hss hw ls hl
  unfold f_L_law_236 at hf
  refine lv_aload_n hx hb dL_law_236 rfl (lv_at hl 1 rfl) ?_
  refine lv_aload_n hx hb dL_law_237 rfl (lv_at hl 0 rfl) ?_
  refine lv_iload hx hb dL_law_238 (lv_at hl 4 rfl) ?_
  refine lv_iconst (v := 1) hx hb dL_law_240 (by decide) ?_
  refine lv_iadd hx hb dL_law_241 ?_
  obtain ⟨g, hf⟩ := gi_s hf
  refine va_sld hx hb hXs hbl hbA hw.2.2.1 g dL_law_242 ?_
  refine lv_aload_n hx hb dL_law_243 rfl (lv_at hl 0 rfl) ?_
  refine lv_iload hx hb dL_law_244 (lv_at hl 4 rfl) ?_
  refine lv_iconst (v := 2) hx hb dL_law_246 (by decide) ?_
  refine lv_iadd hx hb dL_law_247 ?_
  obtain ⟨g, hf⟩ := gi_s hf
  refine va_sld hx hb hXs hbl hbA hw.2.2.1 g dL_law_248 ?_
  refine lv_aload_n hx hb dL_law_249 rfl (lv_at hl 0 rfl) ?_
  refine lv_iload hx hb dL_law_250 (lv_at hl 4 rfl) ?_
  refine lv_iconst (v := 3) hx hb dL_law_252 (by decide) ?_
  refine lv_iadd hx hb dL_law_253 ?_
  obtain ⟨g, hf⟩ := gi_s hf
  refine va_sld hx hb hXs hbl hbA hw.2.2.1 g dL_law_254 ?_
  refine lv_aload_n hx hb dL_law_255 rfl (lv_at hl 0 rfl) ?_
  refine lv_iload hx hb dL_law_256 (lv_at hl 4 rfl) ?_
  refine lv_iconst (v := 4) hx hb dL_law_258 (by decide) ?_
  refine lv_iadd hx hb dL_law_259 ?_
  obtain ⟨g, hf⟩ := gi_s hf
  refine va_sld hx hb hXs hbl hbA hw.2.2.1 g dL_law_260 ?_
  refine lv_aload_n hx hb dL_law_261 rfl (lv_at hl 3 rfl) ?_
  obtain ⟨z87, h, hf⟩ := bd_s hf
  have hw : fy D (fun q : Nat => s.heap.size ≤ q) s.heap H locs ((wCl I h0 n t b0 b1 hh x ++ wLo J c0 1 w) ++ (wMd I a0 a1 a2 a3 a4 a5 o) ++ wHi I O hh ha ad x.2.2.1) := hw.part [0, 1, 2, 3, 4, 5, 6, 7, 8, 9, 10, 11, 12, 13, 14, 15, 16, 17, 18, 19, 20, 21, 22, 23, 24, 25, 26, 33, 27, 28, 29, 30, 31, 32] rfl rfl
  refine x_miFP hw (x_rW E (As := [.ref h0, .int (xs (v4 + 1).toNatClampNeg), .int (xs (v4 + 2).toNatClampNeg), .int (xs (v4 + 3).toNatClampNeg), .int (xs (v4 + 4).toNatClampNeg), .ref c0]) (rest := []) (mt_L_putBehind l hfl D I J O h0 n t b0 b1 hh ha ad c0 H.size (xs (v4 + 1).toNatClampNeg) (xs (v4 + 2).toNatClampNeg) (xs (v4 + 3).toNatClampNeg) (xs (v4 + 4).toNatClampNeg) x w z87.1 z87.2.1 z87.2.2 h) blW (x_pcWPF E hXE hw) ok_L_putBehind q633 rfl hl.1 rfl (Nat.le_of_ble_eq_true rfl) ⟨Nat.le_of_ble_eq_true rfl, Nat.le_of_ble_eq_true rfl⟩ ⟨(show cells + 1 ≤ 601024 by omega), (show slots + 6 ≤ 7293034 by omega)⟩ dL_law_262) (fun _ => rfl) (fun ad88 H locs hw => ?_)
  have hw : fy D (fun q : Nat => s.heap.size ≤ q) s.heap H locs ((wCl I h0 n t b0 b1 hh z87.2.1 ++ wLo J c0 1 z87.2.2) ++ (wMd I a0 a1 a2 a3 a4 a5 o) ++ wHi I O hh ha ad88 z87.2.1.2.2.1) := hw
  have hw : fy D (fun q : Nat => s.heap.size ≤ q) s.heap H locs (wCl I h0 n t b0 b1 hh z87.2.1 ++ wMd I a0 a1 a2 a3 a4 a5 o ++ wLo J c0 1 z87.2.2 ++ wHi I O hh ha ad88 z87.2.1.2.2.1) := hw.part [0, 1, 2, 3, 4, 5, 6, 7, 8, 9, 10, 11, 12, 13, 14, 15, 16, 17, 18, 19, 20, 21, 22, 23, 24, 25, 26, 28, 29, 30, 31, 32, 33, 27] rfl rfl
  have hw : fy D (fun q : Nat => s.heap.size ≤ q) s.heap H locs (wCl I h0 n t b0 b1 hh z87.2.1 ++ wMd I a0 a1 a2 a3 a4 a5 o ++ wLo J c0 1 z87.2.2 ++ wHi I O hh ha ad88 z87.2.1.2.2.1) := hw
  refine lv_istore (lv' := [(5, .int z87.1), (0, .ref b), (1, .ref h0), (2, .ref a0), (3, .ref c0), (4, .int v4)]) hx hb dL_law_265 hl (by decide) rfl (fun ls hl => ?_)
  refine lv_aload_n hx hb dL_law_267 rfl (lv_at hl 3 rfl) ?_
  refine lv_aload_n hx hb dL_law_268 rfl (lv_at hl 1 rfl) ?_
  refine lv_iload hx hb dL_law_269 (lv_at hl 5 rfl) ?_
  refine lv_iconst (v := 1) hx hb dL_law_271 (by decide) ?_
  refine lv_iadd hx hb dL_law_272 ?_
  obtain ⟨g, hf⟩ := gi_s hf
  refine va_sld hx hb hXs hbl hbA hw.2.2.1 g dL_law_273 ?_
  refine lv_aload_n hx hb dL_law_274 rfl (lv_at hl 1 rfl) ?_
  refine lv_iload hx hb dL_law_275 (lv_at hl 5 rfl) ?_
  refine lv_iconst (v := 2) hx hb dL_law_277 (by decide) ?_
  refine lv_iadd hx hb dL_law_278 ?_
  obtain ⟨g, hf⟩ := gi_s hf
  refine va_sld hx hb hXs hbl hbA hw.2.2.1 g dL_law_279 ?_
  refine lv_aload_n hx hb dL_law_280 rfl (lv_at hl 1 rfl) ?_
  refine lv_iload hx hb dL_law_281 (lv_at hl 5 rfl) ?_
  refine lv_iconst (v := 3) hx hb dL_law_283 (by decide) ?_
  refine lv_iadd hx hb dL_law_284 ?_
  obtain ⟨g, hf⟩ := gi_s hf
  refine va_sld hx hb hXs hbl hbA hw.2.2.1 g dL_law_285 ?_
  refine lv_aload_n hx hb dL_law_286 rfl (lv_at hl 1 rfl) ?_
  refine lv_iload hx hb dL_law_287 (lv_at hl 5 rfl) ?_
  refine lv_iconst (v := 4) hx hb dL_law_289 (by decide) ?_
  refine lv_iadd hx hb dL_law_290 ?_
  obtain ⟨g, hf⟩ := gi_s hf
  refine va_sld hx hb hXs hbl hbA hw.2.2.1 g dL_law_291 ?_
  obtain ⟨z89, h, hf⟩ := bd_s hf
  refine x_mi hw [27, 28, 29, 30, 31, 32] rfl rfl (x_rV E (As := [.int (xs (v4 + 1).toNatClampNeg), .int (xs (v4 + 2).toNatClampNeg), .int (xs (v4 + 3).toNatClampNeg), .int (xs (v4 + 4).toNatClampNeg)]) (rest := []) (mt_X6_putBehind l D I J O a0 a1 a2 a3 a4 a5 H.size (xs (v4 + 1).toNatClampNeg) (xs (v4 + 2).toNatClampNeg) (xs (v4 + 3).toNatClampNeg) (xs (v4 + 4).toNatClampNeg) o z89.1 z89.2 h) blM (x_recv E hw.1 27 6 rfl rfl rfl) (x_pcMQ E hw [27, 28, 29, 30, 31, 32] rfl rfl) ok_X6_putBehind q881 rfl hl.1 rfl (Nat.le_of_ble_eq_true rfl) ⟨Nat.le_of_ble_eq_true rfl, Nat.le_of_ble_eq_true rfl⟩ ⟨(show cells + 1 + 0 ≤ 601024 by omega), (show slots + 6 + 0 ≤ 7293034 by omega)⟩ dL_law_292) (fun _ => rfl) (fun _ H locs hw => ?_)
  have hw : fy D (fun q : Nat => s.heap.size ≤ q) s.heap H locs (wCl I h0 n t b0 b1 hh z87.2.1 ++ wMd I a0 a1 a2 a3 a4 a5 z89.2 ++ wLo J c0 1 z87.2.2 ++ wHi I O hh ha ad88 z87.2.1.2.2.1) := hw
  refine lv_istore (lv' := [(6, .int z89.1), (5, .int z87.1), (0, .ref b), (1, .ref h0), (2, .ref a0), (3, .ref c0), (4, .int v4)]) hx hb dL_law_295 hl (by decide) rfl (fun ls hl => ?_)
  refine lv_aload_n hx hb dL_law_297 rfl (lv_at hl 4 rfl) ?_
  obtain ⟨z90, h, hf⟩ := bd_s hf
  refine x_ci (x_rV E (As := []) (rest := []) (mt_X6_thrown l D I J O a0 a1 a2 a3 a4 a5 z89.2 z90 h) blR (x_recv E hw.1 27 6 rfl rfl rfl) (x_pcR E (x_pick hw.1 [27, 28, 29, 30, 31, 32] rfl)) ok_X6_thrown q835 rfl hl.1 rfl (Nat.le_of_ble_eq_true rfl) ⟨Nat.le_of_ble_eq_true rfl, Nat.le_of_ble_eq_true rfl⟩ ⟨(show cells + 1 + 0 + 0 ≤ 601024 by omega), (show slots + 6 + 0 + 0 ≤ 7293034 by omega)⟩ dL_law_298) ?_
  refine lv_iload hx hb dL_law_301 (lv_at hl 1 rfl) ?_
  refine lv_icmp_eq (tgt := 308) hx hb dL_law_303 (by decide) (fun hc => ?_) (fun hc => ?_)
  · rw [if_pos hc] at hf
    refine lv_iload hx hb dL_law_308 (lv_at hl 1 rfl) ?_
    refine lv_if_ne (tgt := 325) hx hb dL_law_310 (by decide) (fun hc => ?_) (fun hc => ?_)
    · rw [if_neg hc] at hf
      refine lv_goto (tgt := 1476) hx hb dL_law_325 (by decide) ?_
      refine lv_iinc (v := v4 + 5) (lv' := [(4, .int (v4 + 5)), (6, .int z89.1), (5, .int z87.1), (0, .ref b), (1, .ref h0), (2, .ref a0), (3, .ref c0)]) hx hb dL_law_1476 hl (k := 6) rfl rfl (by decide) rfl (fun ls hl => ?_)
      refine lv_goto (tgt := 23) hx hb dL_law_1479 (by decide) ?_
      exact hk23 (v4 + 5) z87.2.1 z89.2 z87.2.2 hf H locs ad88 _ _ (by omega) (by omega) hw _ (lv_sub hl [3, 4, 5, 6, 0] rfl)
    · rw [if_pos hc] at hf
      refine lv_aload_n hx hb dL_law_313 rfl (lv_at hl 5 rfl) ?_
      refine lv_iconst (v := 0) hx hb dL_law_314 (by decide) ?_
      obtain ⟨g, hf⟩ := gi_s hf
      refine x_lald E hw.1 33 rfl g dL_law_315 ?_
      refine lv_iload hx hb dL_law_316 (lv_at hl 0 rfl) ?_
      refine lv_i2l (v := z89.1.toInt64) hx hb dL_law_318 rfl ?_
      refine W.lcmp hx hb dL_law_319 ?_
      refine lv_if_eq (tgt := 325) hx hb dL_law_320 (by decide) (fun hc => ?_) (fun hc => ?_)
      · rw [if_pos hc] at hf
        refine lv_goto (tgt := 1476) hx hb dL_law_325 (by decide) ?_
        refine lv_iinc (v := v4 + 5) (lv' := [(4, .int (v4 + 5)), (6, .int z89.1), (5, .int z87.1), (0, .ref b), (1, .ref h0), (2, .ref a0), (3, .ref c0)]) hx hb dL_law_1476 hl (k := 6) rfl rfl (by decide) rfl (fun ls hl => ?_)
        refine lv_goto (tgt := 23) hx hb dL_law_1479 (by decide) ?_
        exact hk23 (v4 + 5) z87.2.1 z89.2 z87.2.2 hf H locs ad88 _ _ (by omega) (by omega) hw _ (lv_sub hl [3, 4, 5, 6, 0] rfl)
      · rw [if_neg hc] at hf
        refine lv_iconst (v := 0) hx hb dL_law_323 (by decide) ?_
        exact absurd (Option.some.inj hf) (by decide)
  · rw [if_neg hc] at hf
    refine lv_iconst (v := 0) hx hb dL_law_306 (by decide) ?_
    exact absurd (Option.some.inj hf) (by decide)
set_option maxRecDepth 100000 in
set_option maxHeartbeats 4000000 in
theorem k_L_law_328 {p : Program} {l : Launch} {e : Env} {s : State} {m : MethodId} {below : List Frame} {meth : Method} {c : Code} {D : va_G} {I J O : ClassId} {b L : Nat} {xs : Fn} {h0 b0 b1 hh : Nat} {a0 a1 a2 a3 a4 a5 c0 : Nat} (E : fx p s m #[Value.ref b] meth c cL_law RL 9 ret D I J O) (hfl : l.stackTraces = false) (hXE : XE s) (hXs : va_X b L xs s s.heap) (hbl : b < s.heap.size) (n t : Nat → Nat) (ha : Nat) {fu : Nat} (k23 : Int32 → ClC → MdC → FnL → Option Int32) (hk23 : ∀ (v4 : Int32) (x : ClC) (o : MdC) (w : FnL), k23 v4 x o w = some 1 → ∀ (H : Heap) (locs : List Loc) (ad : Nat → Nat → Nat) (cells slots : Nat), cells + (fu) ≤ 601024 → slots + 6 * (fu) ≤ 7293034 → fy D (fun q : Nat => s.heap.size ≤ q) s.heap H locs (wCl I h0 n t b0 b1 hh x ++ wMd I a0 a1 a2 a3 a4 a5 o ++ wLo J c0 1 w ++ wHi I O hh ha ad x.2.2.1) → ∀ ls : Array Slot, lv_has ls 9 [(0, .ref b), (1, .ref h0), (2, .ref a0), (3, .ref c0), (4, .int v4)] → W p l e room_1 s m #[Value.ref b] below meth c H locs cells slots (lw_Z below #[Value.ref b] s) (F0 m 23 ls [])) : ∀ (v4 : Int32) (x : ClC) (o : MdC) (w : FnL), f_L_law_328 L xs k23 v4 x o w = some 1 → ∀ (H : Heap) (locs : List Loc) (ad : Nat → Nat → Nat) (cells slots : Nat), cells + (fu + 1) ≤ 601024 → slots + 6 * (fu + 1) ≤ 7293034 → fy D (fun q : Nat => s.heap.size ≤ q) s.heap H locs (wCl I h0 n t b0 b1 hh x ++ wMd I a0 a1 a2 a3 a4 a5 o ++ wLo J c0 1 w ++ wHi I O hh ha ad x.2.2.1) → ∀ ls : Array Slot, lv_has ls 9 [(0, .ref b), (1, .ref h0), (2, .ref a0), (3, .ref c0), (4, .int v4)] → W p l e room_1 s m #[Value.ref b] below meth c H locs cells slots (lw_Z below #[Value.ref b] s) (F0 m 328 ls []) := by
  have hx := E.1
  have hb := E.2.1
  have hbA : ¬ (fun q : Nat => s.heap.size ≤ q) b := Nat.not_le.mpr hbl
  intro v4 x o w hf H locs ad cells slots hcs hss hw ls hl
  unfold f_L_law_328 at hf
  refine lv_aload_n hx hb dL_law_328 rfl (lv_at hl 1 rfl) ?_
  refine lv_aload_n hx hb dL_law_329 rfl (lv_at hl 0 rfl) ?_
  refine lv_iload hx hb dL_law_330 (lv_at hl 4 rfl) ?_
  refine lv_iconst (v := 1) hx hb dL_law_332 (by decide) ?_
  refine lv_iadd hx hb dL_law_333 ?_
  obtain ⟨g, hf⟩ := gi_s hf
  refine va_sld hx hb hXs hbl hbA hw.2.2.1 g dL_law_334 ?_
  refine lv_aload_n hx hb dL_law_335 rfl (lv_at hl 3 rfl) ?_
  obtain ⟨z83, h, hf⟩ := bd_s hf
  have hw : fy D (fun q : Nat => s.heap.size ≤ q) s.heap H locs ((wCl I h0 n t b0 b1 hh x ++ wLo J c0 1 w) ++ (wMd I a0 a1 a2 a3 a4 a5 o) ++ wHi I O hh ha ad x.2.2.1) := hw.part [0, 1, 2, 3, 4, 5, 6, 7, 8, 9, 10, 11, 12, 13, 14, 15, 16, 17, 18, 19, 20, 21, 22, 23, 24, 25, 26, 33, 27, 28, 29, 30, 31, 32] rfl rfl
  refine x_miFP hw (x_rW E (As := [.ref h0, .int (xs (v4 + 1).toNatClampNeg), .ref c0]) (rest := []) (mt_L_remove l hfl D I J O h0 n t b0 b1 hh ha ad c0 H.size (xs (v4 + 1).toNatClampNeg) x w z83.1 z83.2.1 z83.2.2 h) blW (x_pcWPF E hXE hw) ok_L_remove q641 rfl hl.1 rfl (Nat.le_of_ble_eq_true rfl) ⟨Nat.le_of_ble_eq_true rfl, Nat.le_of_ble_eq_true rfl⟩ ⟨(show cells + 1 ≤ 601024 by omega), (show slots + 6 ≤ 7293034 by omega)⟩ dL_law_336) (fun _ => rfl) (fun ad84 H locs hw => ?_)
  have hw : fy D (fun q : Nat => s.heap.size ≤ q) s.heap H locs ((wCl I h0 n t b0 b1 hh z83.2.1 ++ wLo J c0 1 z83.2.2) ++ (wMd I a0 a1 a2 a3 a4 a5 o) ++ wHi I O hh ha ad84 z83.2.1.2.2.1) := hw
  have hw : fy D (fun q : Nat => s.heap.size ≤ q) s.heap H locs (wCl I h0 n t b0 b1 hh z83.2.1 ++ wMd I a0 a1 a2 a3 a4 a5 o ++ wLo J c0 1 z83.2.2 ++ wHi I O hh ha ad84 z83.2.1.2.2.1) := hw.part [0, 1, 2, 3, 4, 5, 6, 7, 8, 9, 10, 11, 12, 13, 14, 15, 16, 17, 18, 19, 20, 21, 22, 23, 24, 25, 26, 28, 29, 30, 31, 32, 33, 27] rfl rfl
  have hw : fy D (fun q : Nat => s.heap.size ≤ q) s.heap H locs (wCl I h0 n t b0 b1 hh z83.2.1 ++ wMd I a0 a1 a2 a3 a4 a5 o ++ wLo J c0 1 z83.2.2 ++ wHi I O hh ha ad84 z83.2.1.2.2.1) := hw
  refine lv_istore (lv' := [(5, .int z83.1), (0, .ref b), (1, .ref h0), (2, .ref a0), (3, .ref c0), (4, .int v4)]) hx hb dL_law_339 hl (by decide) rfl (fun ls hl => ?_)
  refine lv_aload_n hx hb dL_law_341 rfl (lv_at hl 3 rfl) ?_
  refine lv_aload_n hx hb dL_law_342 rfl (lv_at hl 1 rfl) ?_
  refine lv_iload hx hb dL_law_343 (lv_at hl 5 rfl) ?_
  refine lv_iconst (v := 1) hx hb dL_law_345 (by decide) ?_
  refine lv_iadd hx hb dL_law_346 ?_
  obtain ⟨g, hf⟩ := gi_s hf
  refine va_sld hx hb hXs hbl hbA hw.2.2.1 g dL_law_347 ?_
  obtain ⟨z85, h, hf⟩ := bd_s hf
  refine x_mi hw [27, 28, 29, 30, 31, 32] rfl rfl (x_rV E (As := [.int (xs (v4 + 1).toNatClampNeg)]) (rest := []) (mt_X6_remove l D I J O a0 a1 a2 a3 a4 a5 H.size (xs (v4 + 1).toNatClampNeg) o z85.1 z85.2 h) blM (x_recv E hw.1 27 6 rfl rfl rfl) (x_pcMQ E hw [27, 28, 29, 30, 31, 32] rfl rfl) ok_X6_remove q888 rfl hl.1 rfl (Nat.le_of_ble_eq_true rfl) ⟨Nat.le_of_ble_eq_true rfl, Nat.le_of_ble_eq_true rfl⟩ ⟨(show cells + 1 + 0 ≤ 601024 by omega), (show slots + 6 + 0 ≤ 7293034 by omega)⟩ dL_law_348) (fun _ => rfl) (fun _ H locs hw => ?_)
  have hw : fy D (fun q : Nat => s.heap.size ≤ q) s.heap H locs (wCl I h0 n t b0 b1 hh z83.2.1 ++ wMd I a0 a1 a2 a3 a4 a5 z85.2 ++ wLo J c0 1 z83.2.2 ++ wHi I O hh ha ad84 z83.2.1.2.2.1) := hw
  refine lv_istore (lv' := [(6, .int z85.1), (5, .int z83.1), (0, .ref b), (1, .ref h0), (2, .ref a0), (3, .ref c0), (4, .int v4)]) hx hb dL_law_351 hl (by decide) rfl (fun ls hl => ?_)
  refine lv_aload_n hx hb dL_law_353 rfl (lv_at hl 4 rfl) ?_
  obtain ⟨z86, h, hf⟩ := bd_s hf
  refine x_ci (x_rV E (As := []) (rest := []) (mt_X6_thrown l D I J O a0 a1 a2 a3 a4 a5 z85.2 z86 h) blR (x_recv E hw.1 27 6 rfl rfl rfl) (x_pcR E (x_pick hw.1 [27, 28, 29, 30, 31, 32] rfl)) ok_X6_thrown q835 rfl hl.1 rfl (Nat.le_of_ble_eq_true rfl) ⟨Nat.le_of_ble_eq_true rfl, Nat.le_of_ble_eq_true rfl⟩ ⟨(show cells + 1 + 0 + 0 ≤ 601024 by omega), (show slots + 6 + 0 + 0 ≤ 7293034 by omega)⟩ dL_law_354) ?_
  refine lv_iload hx hb dL_law_357 (lv_at hl 1 rfl) ?_
  refine lv_icmp_eq (tgt := 364) hx hb dL_law_359 (by decide) (fun hc => ?_) (fun hc => ?_)
  · rw [if_pos hc] at hf
    refine lv_iload hx hb dL_law_364 (lv_at hl 1 rfl) ?_
    refine lv_if_ne (tgt := 381) hx hb dL_law_366 (by decide) (fun hc => ?_) (fun hc => ?_)
    · rw [if_neg hc] at hf
      refine lv_goto (tgt := 1476) hx hb dL_law_381 (by decide) ?_
      refine lv_iinc (v := v4 + 5) (lv' := [(4, .int (v4 + 5)), (6, .int z85.1), (5, .int z83.1), (0, .ref b), (1, .ref h0), (2, .ref a0), (3, .ref c0)]) hx hb dL_law_1476 hl (k := 6) rfl rfl (by decide) rfl (fun ls hl => ?_)
      refine lv_goto (tgt := 23) hx hb dL_law_1479 (by decide) ?_
      exact hk23 (v4 + 5) z83.2.1 z85.2 z83.2.2 hf H locs ad84 _ _ (by omega) (by omega) hw _ (lv_sub hl [3, 4, 5, 6, 0] rfl)
    · rw [if_pos hc] at hf
      refine lv_aload_n hx hb dL_law_369 rfl (lv_at hl 5 rfl) ?_
      refine lv_iconst (v := 0) hx hb dL_law_370 (by decide) ?_
      obtain ⟨g, hf⟩ := gi_s hf
      refine x_lald E hw.1 33 rfl g dL_law_371 ?_
      refine lv_iload hx hb dL_law_372 (lv_at hl 0 rfl) ?_
      refine lv_i2l (v := z85.1.toInt64) hx hb dL_law_374 rfl ?_
      refine W.lcmp hx hb dL_law_375 ?_
      refine lv_if_eq (tgt := 381) hx hb dL_law_376 (by decide) (fun hc => ?_) (fun hc => ?_)
      · rw [if_pos hc] at hf
        refine lv_goto (tgt := 1476) hx hb dL_law_381 (by decide) ?_
        refine lv_iinc (v := v4 + 5) (lv' := [(4, .int (v4 + 5)), (6, .int z85.1), (5, .int z83.1), (0, .ref b), (1, .ref h0), (2, .ref a0), (3, .ref c0)]) hx hb dL_law_1476 hl (k := 6) rfl rfl (by decide) rfl (fun ls hl => ?_)
        refine lv_goto (tgt := 23) hx hb dL_law_1479 (by decide) ?_
        exact hk23 (v4 + 5) z83.2.1 z85.2 z83.2.2 hf H locs ad84 _ _ (by omega) (by omega) hw _ (lv_sub hl [3, 4, 5, 6, 0] rfl)
      · rw [if_neg hc] at hf
        refine lv_iconst (v := 0) hx hb dL_law_379 (by decide) ?_
        exact absurd (Option.some.inj hf) (by decide)
  · rw [if_neg hc] at hf
    refine lv_iconst (v := 0) hx hb dL_law_362 (by decide) ?_
    exact absurd (Option.some.inj hf) (by decide)
set_option maxRecDepth 100000 in
set_option maxHeartbeats 4000000 in
theorem k_L_law_384 {p : Program} {l : Launch} {e : Env} {s : State} {m : MethodId} {below : List Frame} {meth : Method} {c : Code} {D : va_G} {I J O : ClassId} {b L : Nat} {xs : Fn} {h0 b0 b1 hh : Nat} {a0 a1 a2 a3 a4 a5 c0 : Nat} (E : fx p s m #[Value.ref b] meth c cL_law RL 9 ret D I J O) (hfl : l.stackTraces = false) (hXE : XE s) (hXs : va_X b L xs s s.heap) (hbl : b < s.heap.size) (n t : Nat → Nat) (ha : Nat) {fu : Nat} (k23 : Int32 → ClC → MdC → FnL → Option Int32) (hk23 : ∀ (v4 : Int32) (x : ClC) (o : MdC) (w : FnL), k23 v4 x o w = some 1 → ∀ (H : Heap) (locs : List Loc) (ad : Nat → Nat → Nat) (cells slots : Nat), cells + (fu) ≤ 601024 → slots + 6 * (fu) ≤ 7293034 → fy D (fun q : Nat => s.heap.size ≤ q) s.heap H locs (wCl I h0 n t b0 b1 hh x ++ wMd I a0 a1 a2 a3 a4 a5 o ++ wLo J c0 1 w ++ wHi I O hh ha ad x.2.2.1) → ∀ ls : Array Slot, lv_has ls 9 [(0, .ref b), (1, .ref h0), (2, .ref a0), (3, .ref c0), (4, .int v4)] → W p l e room_1 s m #[Value.ref b] below meth c H locs cells slots (lw_Z below #[Value.ref b] s) (F0 m 23 ls [])) : ∀ (v4 : Int32) (x : ClC) (o : MdC) (w : FnL), f_L_law_384 L xs k23 v4 x o w = some 1 → ∀ (H : Heap) (locs : List Loc) (ad : Nat → Nat → Nat) (cells slots : Nat), cells + (fu + 1) ≤ 601024 → slots + 6 * (fu + 1) ≤ 7293034 → fy D (fun q : Nat => s.heap.size ≤ q) s.heap H locs (wCl I h0 n t b0 b1 hh x ++ wMd I a0 a1 a2 a3 a4 a5 o ++ wLo J c0 1 w ++ wHi I O hh ha ad x.2.2.1) → ∀ ls : Array Slot, lv_has ls 9 [(0, .ref b), (1, .ref h0), (2, .ref a0), (3, .ref c0), (4, .int v4)] → W p l e room_1 s m #[Value.ref b] below meth c H locs cells slots (lw_Z below #[Value.ref b] s) (F0 m 384 ls []) := by
  have hx := E.1
  have hb := E.2.1
  have hbA : ¬ (fun q : Nat => s.heap.size ≤ q) b := Nat.not_le.mpr hbl
  intro v4 x o w hf H locs ad cells slots hcs hss hw ls hl
  unfold f_L_law_384 at hf
  refine lv_aload_n hx hb dL_law_384 rfl (lv_at hl 1 rfl) ?_
  refine lv_aload_n hx hb dL_law_385 rfl (lv_at hl 0 rfl) ?_
  refine lv_iload hx hb dL_law_386 (lv_at hl 4 rfl) ?_
  refine lv_iconst (v := 1) hx hb dL_law_388 (by decide) ?_
  refine lv_iadd hx hb dL_law_389 ?_
  obtain ⟨g, hf⟩ := gi_s hf
  refine va_sld hx hb hXs hbl hbA hw.2.2.1 g dL_law_390 ?_
  refine lv_aload_n hx hb dL_law_391 rfl (lv_at hl 0 rfl) ?_
  refine lv_iload hx hb dL_law_392 (lv_at hl 4 rfl) ?_
  refine lv_iconst (v := 2) hx hb dL_law_394 (by decide) ?_
  refine lv_iadd hx hb dL_law_395 ?_
  obtain ⟨g, hf⟩ := gi_s hf
  refine va_sld hx hb hXs hbl hbA hw.2.2.1 g dL_law_396 ?_
  refine lv_aload_n hx hb dL_law_397 rfl (lv_at hl 3 rfl) ?_
  obtain ⟨z79, h, hf⟩ := bd_s hf
  have hw : fy D (fun q : Nat => s.heap.size ≤ q) s.heap H locs ((wCl I h0 n t b0 b1 hh x ++ wLo J c0 1 w) ++ (wMd I a0 a1 a2 a3 a4 a5 o) ++ wHi I O hh ha ad x.2.2.1) := hw.part [0, 1, 2, 3, 4, 5, 6, 7, 8, 9, 10, 11, 12, 13, 14, 15, 16, 17, 18, 19, 20, 21, 22, 23, 24, 25, 26, 33, 27, 28, 29, 30, 31, 32] rfl rfl
  refine x_miFP hw (x_rW E (As := [.ref h0, .int (xs (v4 + 1).toNatClampNeg), .int (xs (v4 + 2).toNatClampNeg), .ref c0]) (rest := []) (mt_L_change l hfl D I J O h0 n t b0 b1 hh ha ad c0 H.size (xs (v4 + 1).toNatClampNeg) (xs (v4 + 2).toNatClampNeg) x w z79.1 z79.2.1 z79.2.2 h) blW (x_pcWPF E hXE hw) ok_L_change q649 rfl hl.1 rfl (Nat.le_of_ble_eq_true rfl) ⟨Nat.le_of_ble_eq_true rfl, Nat.le_of_ble_eq_true rfl⟩ ⟨(show cells + 1 ≤ 601024 by omega), (show slots + 6 ≤ 7293034 by omega)⟩ dL_law_398) (fun _ => rfl) (fun ad80 H locs hw => ?_)
  have hw : fy D (fun q : Nat => s.heap.size ≤ q) s.heap H locs ((wCl I h0 n t b0 b1 hh z79.2.1 ++ wLo J c0 1 z79.2.2) ++ (wMd I a0 a1 a2 a3 a4 a5 o) ++ wHi I O hh ha ad80 z79.2.1.2.2.1) := hw
  have hw : fy D (fun q : Nat => s.heap.size ≤ q) s.heap H locs (wCl I h0 n t b0 b1 hh z79.2.1 ++ wMd I a0 a1 a2 a3 a4 a5 o ++ wLo J c0 1 z79.2.2 ++ wHi I O hh ha ad80 z79.2.1.2.2.1) := hw.part [0, 1, 2, 3, 4, 5, 6, 7, 8, 9, 10, 11, 12, 13, 14, 15, 16, 17, 18, 19, 20, 21, 22, 23, 24, 25, 26, 28, 29, 30, 31, 32, 33, 27] rfl rfl
  have hw : fy D (fun q : Nat => s.heap.size ≤ q) s.heap H locs (wCl I h0 n t b0 b1 hh z79.2.1 ++ wMd I a0 a1 a2 a3 a4 a5 o ++ wLo J c0 1 z79.2.2 ++ wHi I O hh ha ad80 z79.2.1.2.2.1) := hw
  refine lv_istore (lv' := [(5, .int z79.1), (0, .ref b), (1, .ref h0), (2, .ref a0), (3, .ref c0), (4, .int v4)]) hx hb dL_law_401 hl (by decide) rfl (fun ls hl => ?_)
  refine lv_aload_n hx hb dL_law_403 rfl (lv_at hl 3 rfl) ?_
  refine lv_aload_n hx hb dL_law_404 rfl (lv_at hl 1 rfl) ?_
  refine lv_iload hx hb dL_law_405 (lv_at hl 5 rfl) ?_
  refine lv_iconst (v := 1) hx hb dL_law_407 (by decide) ?_
  refine lv_iadd hx hb dL_law_408 ?_
  obtain ⟨g, hf⟩ := gi_s hf
  refine va_sld hx hb hXs hbl hbA hw.2.2.1 g dL_law_409 ?_
  refine lv_aload_n hx hb dL_law_410 rfl (lv_at hl 1 rfl) ?_
  refine lv_iload hx hb dL_law_411 (lv_at hl 5 rfl) ?_
  refine lv_iconst (v := 2) hx hb dL_law_413 (by decide) ?_
  refine lv_iadd hx hb dL_law_414 ?_
  obtain ⟨g, hf⟩ := gi_s hf
  refine va_sld hx hb hXs hbl hbA hw.2.2.1 g dL_law_415 ?_
  obtain ⟨z81, h, hf⟩ := bd_s hf
  refine x_mi hw [27, 28, 29, 30, 31, 32] rfl rfl (x_rV E (As := [.int (xs (v4 + 1).toNatClampNeg), .int (xs (v4 + 2).toNatClampNeg)]) (rest := []) (mt_X6_change l D I J O a0 a1 a2 a3 a4 a5 H.size (xs (v4 + 1).toNatClampNeg) (xs (v4 + 2).toNatClampNeg) o z81.1 z81.2 h) blM (x_recv E hw.1 27 6 rfl rfl rfl) (x_pcMQ E hw [27, 28, 29, 30, 31, 32] rfl rfl) ok_X6_change q904 rfl hl.1 rfl (Nat.le_of_ble_eq_true rfl) ⟨Nat.le_of_ble_eq_true rfl, Nat.le_of_ble_eq_true rfl⟩ ⟨(show cells + 1 + 0 ≤ 601024 by omega), (show slots + 6 + 0 ≤ 7293034 by omega)⟩ dL_law_416) (fun _ => rfl) (fun _ H locs hw => ?_)
  have hw : fy D (fun q : Nat => s.heap.size ≤ q) s.heap H locs (wCl I h0 n t b0 b1 hh z79.2.1 ++ wMd I a0 a1 a2 a3 a4 a5 z81.2 ++ wLo J c0 1 z79.2.2 ++ wHi I O hh ha ad80 z79.2.1.2.2.1) := hw
  refine lv_istore (lv' := [(6, .int z81.1), (5, .int z79.1), (0, .ref b), (1, .ref h0), (2, .ref a0), (3, .ref c0), (4, .int v4)]) hx hb dL_law_419 hl (by decide) rfl (fun ls hl => ?_)
  refine lv_aload_n hx hb dL_law_421 rfl (lv_at hl 4 rfl) ?_
  obtain ⟨z82, h, hf⟩ := bd_s hf
  refine x_ci (x_rV E (As := []) (rest := []) (mt_X6_thrown l D I J O a0 a1 a2 a3 a4 a5 z81.2 z82 h) blR (x_recv E hw.1 27 6 rfl rfl rfl) (x_pcR E (x_pick hw.1 [27, 28, 29, 30, 31, 32] rfl)) ok_X6_thrown q835 rfl hl.1 rfl (Nat.le_of_ble_eq_true rfl) ⟨Nat.le_of_ble_eq_true rfl, Nat.le_of_ble_eq_true rfl⟩ ⟨(show cells + 1 + 0 + 0 ≤ 601024 by omega), (show slots + 6 + 0 + 0 ≤ 7293034 by omega)⟩ dL_law_422) ?_
  refine lv_iload hx hb dL_law_425 (lv_at hl 1 rfl) ?_
  refine lv_icmp_eq (tgt := 432) hx hb dL_law_427 (by decide) (fun hc => ?_) (fun hc => ?_)
  · rw [if_pos hc] at hf
    refine lv_iload hx hb dL_law_432 (lv_at hl 1 rfl) ?_
    refine lv_if_ne (tgt := 449) hx hb dL_law_434 (by decide) (fun hc => ?_) (fun hc => ?_)
    · rw [if_neg hc] at hf
      refine lv_goto (tgt := 1476) hx hb dL_law_449 (by decide) ?_
      refine lv_iinc (v := v4 + 5) (lv' := [(4, .int (v4 + 5)), (6, .int z81.1), (5, .int z79.1), (0, .ref b), (1, .ref h0), (2, .ref a0), (3, .ref c0)]) hx hb dL_law_1476 hl (k := 6) rfl rfl (by decide) rfl (fun ls hl => ?_)
      refine lv_goto (tgt := 23) hx hb dL_law_1479 (by decide) ?_
      exact hk23 (v4 + 5) z79.2.1 z81.2 z79.2.2 hf H locs ad80 _ _ (by omega) (by omega) hw _ (lv_sub hl [3, 4, 5, 6, 0] rfl)
    · rw [if_pos hc] at hf
      refine lv_aload_n hx hb dL_law_437 rfl (lv_at hl 5 rfl) ?_
      refine lv_iconst (v := 0) hx hb dL_law_438 (by decide) ?_
      obtain ⟨g, hf⟩ := gi_s hf
      refine x_lald E hw.1 33 rfl g dL_law_439 ?_
      refine lv_iload hx hb dL_law_440 (lv_at hl 0 rfl) ?_
      refine lv_i2l (v := z81.1.toInt64) hx hb dL_law_442 rfl ?_
      refine W.lcmp hx hb dL_law_443 ?_
      refine lv_if_eq (tgt := 449) hx hb dL_law_444 (by decide) (fun hc => ?_) (fun hc => ?_)
      · rw [if_pos hc] at hf
        refine lv_goto (tgt := 1476) hx hb dL_law_449 (by decide) ?_
        refine lv_iinc (v := v4 + 5) (lv' := [(4, .int (v4 + 5)), (6, .int z81.1), (5, .int z79.1), (0, .ref b), (1, .ref h0), (2, .ref a0), (3, .ref c0)]) hx hb dL_law_1476 hl (k := 6) rfl rfl (by decide) rfl (fun ls hl => ?_)
        refine lv_goto (tgt := 23) hx hb dL_law_1479 (by decide) ?_
        exact hk23 (v4 + 5) z79.2.1 z81.2 z79.2.2 hf H locs ad80 _ _ (by omega) (by omega) hw _ (lv_sub hl [3, 4, 5, 6, 0] rfl)
      · rw [if_neg hc] at hf
        refine lv_iconst (v := 0) hx hb dL_law_447 (by decide) ?_
        exact absurd (Option.some.inj hf) (by decide)
  · rw [if_neg hc] at hf
    refine lv_iconst (v := 0) hx hb dL_law_430 (by decide) ?_
    exact absurd (Option.some.inj hf) (by decide)
set_option maxRecDepth 100000 in
set_option maxHeartbeats 4000000 in
theorem k_L_law_452 {p : Program} {l : Launch} {e : Env} {s : State} {m : MethodId} {below : List Frame} {meth : Method} {c : Code} {D : va_G} {I J O : ClassId} {b L : Nat} {xs : Fn} {h0 b0 b1 hh : Nat} {a0 a1 a2 a3 a4 a5 c0 : Nat} (E : fx p s m #[Value.ref b] meth c cL_law RL 9 ret D I J O) (hfl : l.stackTraces = false) (hXE : XE s) (hXs : va_X b L xs s s.heap) (hbl : b < s.heap.size) (n t : Nat → Nat) (ha : Nat) {fu : Nat} (k23 : Int32 → ClC → MdC → FnL → Option Int32) (hk23 : ∀ (v4 : Int32) (x : ClC) (o : MdC) (w : FnL), k23 v4 x o w = some 1 → ∀ (H : Heap) (locs : List Loc) (ad : Nat → Nat → Nat) (cells slots : Nat), cells + (fu) ≤ 601024 → slots + 6 * (fu) ≤ 7293034 → fy D (fun q : Nat => s.heap.size ≤ q) s.heap H locs (wCl I h0 n t b0 b1 hh x ++ wMd I a0 a1 a2 a3 a4 a5 o ++ wLo J c0 1 w ++ wHi I O hh ha ad x.2.2.1) → ∀ ls : Array Slot, lv_has ls 9 [(0, .ref b), (1, .ref h0), (2, .ref a0), (3, .ref c0), (4, .int v4)] → W p l e room_1 s m #[Value.ref b] below meth c H locs cells slots (lw_Z below #[Value.ref b] s) (F0 m 23 ls [])) : ∀ (v4 : Int32) (x : ClC) (o : MdC) (w : FnL), f_L_law_452 L xs k23 v4 x o w = some 1 → ∀ (H : Heap) (locs : List Loc) (ad : Nat → Nat → Nat) (cells slots : Nat), cells + (fu + 1) ≤ 601024 → slots + 6 * (fu + 1) ≤ 7293034 → fy D (fun q : Nat => s.heap.size ≤ q) s.heap H locs (wCl I h0 n t b0 b1 hh x ++ wMd I a0 a1 a2 a3 a4 a5 o ++ wLo J c0 1 w ++ wHi I O hh ha ad x.2.2.1) → ∀ ls : Array Slot, lv_has ls 9 [(0, .ref b), (1, .ref h0), (2, .ref a0), (3, .ref c0), (4, .int v4)] → W p l e room_1 s m #[Value.ref b] below meth c H locs cells slots (lw_Z below #[Value.ref b] s) (F0 m 452 ls []) := by
  have hx := E.1
  have hb := E.2.1
  have hbA : ¬ (fun q : Nat => s.heap.size ≤ q) b := Nat.not_le.mpr hbl
  intro v4 x o w hf H locs ad cells slots hcs hss hw ls hl
  unfold f_L_law_452 at hf
  refine lv_aload_n hx hb dL_law_452 rfl (lv_at hl 1 rfl) ?_
  refine lv_aload_n hx hb dL_law_453 rfl (lv_at hl 0 rfl) ?_
  refine lv_iload hx hb dL_law_454 (lv_at hl 4 rfl) ?_
  refine lv_iconst (v := 1) hx hb dL_law_456 (by decide) ?_
  refine lv_iadd hx hb dL_law_457 ?_
  obtain ⟨g, hf⟩ := gi_s hf
  refine va_sld hx hb hXs hbl hbA hw.2.2.1 g dL_law_458 ?_
  refine lv_aload_n hx hb dL_law_459 rfl (lv_at hl 3 rfl) ?_
  obtain ⟨z75, h, hf⟩ := bd_s hf
  have hw : fy D (fun q : Nat => s.heap.size ≤ q) s.heap H locs ((wCl I h0 n t b0 b1 hh x ++ wLo J c0 1 w) ++ (wMd I a0 a1 a2 a3 a4 a5 o) ++ wHi I O hh ha ad x.2.2.1) := hw.part [0, 1, 2, 3, 4, 5, 6, 7, 8, 9, 10, 11, 12, 13, 14, 15, 16, 17, 18, 19, 20, 21, 22, 23, 24, 25, 26, 33, 27, 28, 29, 30, 31, 32] rfl rfl
  refine x_miFP hw (x_rW E (As := [.ref h0, .int (xs (v4 + 1).toNatClampNeg), .ref c0]) (rest := []) (mt_L_restart l hfl D I J O h0 n t b0 b1 hh ha ad c0 H.size (xs (v4 + 1).toNatClampNeg) x w z75.1 z75.2.1 z75.2.2 h) blW (x_pcWPF E hXE hw) ok_L_restart q661 rfl hl.1 rfl (Nat.le_of_ble_eq_true rfl) ⟨Nat.le_of_ble_eq_true rfl, Nat.le_of_ble_eq_true rfl⟩ ⟨(show cells + 1 ≤ 601024 by omega), (show slots + 6 ≤ 7293034 by omega)⟩ dL_law_460) (fun _ => rfl) (fun ad76 H locs hw => ?_)
  have hw : fy D (fun q : Nat => s.heap.size ≤ q) s.heap H locs ((wCl I h0 n t b0 b1 hh z75.2.1 ++ wLo J c0 1 z75.2.2) ++ (wMd I a0 a1 a2 a3 a4 a5 o) ++ wHi I O hh ha ad76 z75.2.1.2.2.1) := hw
  have hw : fy D (fun q : Nat => s.heap.size ≤ q) s.heap H locs (wCl I h0 n t b0 b1 hh z75.2.1 ++ wMd I a0 a1 a2 a3 a4 a5 o ++ wLo J c0 1 z75.2.2 ++ wHi I O hh ha ad76 z75.2.1.2.2.1) := hw.part [0, 1, 2, 3, 4, 5, 6, 7, 8, 9, 10, 11, 12, 13, 14, 15, 16, 17, 18, 19, 20, 21, 22, 23, 24, 25, 26, 28, 29, 30, 31, 32, 33, 27] rfl rfl
  have hw : fy D (fun q : Nat => s.heap.size ≤ q) s.heap H locs (wCl I h0 n t b0 b1 hh z75.2.1 ++ wMd I a0 a1 a2 a3 a4 a5 o ++ wLo J c0 1 z75.2.2 ++ wHi I O hh ha ad76 z75.2.1.2.2.1) := hw
  refine lv_istore (lv' := [(5, .int z75.1), (0, .ref b), (1, .ref h0), (2, .ref a0), (3, .ref c0), (4, .int v4)]) hx hb dL_law_463 hl (by decide) rfl (fun ls hl => ?_)
  refine lv_aload_n hx hb dL_law_465 rfl (lv_at hl 3 rfl) ?_
  refine lv_aload_n hx hb dL_law_466 rfl (lv_at hl 1 rfl) ?_
  refine lv_iload hx hb dL_law_467 (lv_at hl 5 rfl) ?_
  refine lv_iconst (v := 1) hx hb dL_law_469 (by decide) ?_
  refine lv_iadd hx hb dL_law_470 ?_
  obtain ⟨g, hf⟩ := gi_s hf
  refine va_sld hx hb hXs hbl hbA hw.2.2.1 g dL_law_471 ?_
  obtain ⟨z77, h, hf⟩ := bd_s hf
  refine x_mi hw [27, 28, 29, 30, 31, 32] rfl rfl (x_rV E (As := [.int (xs (v4 + 1).toNatClampNeg)]) (rest := []) (mt_X6_restart l D I J O a0 a1 a2 a3 a4 a5 H.size (xs (v4 + 1).toNatClampNeg) o z77.1 z77.2 h) blM (x_recv E hw.1 27 6 rfl rfl rfl) (x_pcMQ E hw [27, 28, 29, 30, 31, 32] rfl rfl) ok_X6_restart q908 rfl hl.1 rfl (Nat.le_of_ble_eq_true rfl) ⟨Nat.le_of_ble_eq_true rfl, Nat.le_of_ble_eq_true rfl⟩ ⟨(show cells + 1 + 0 ≤ 601024 by omega), (show slots + 6 + 0 ≤ 7293034 by omega)⟩ dL_law_472) (fun _ => rfl) (fun _ H locs hw => ?_)
  have hw : fy D (fun q : Nat => s.heap.size ≤ q) s.heap H locs (wCl I h0 n t b0 b1 hh z75.2.1 ++ wMd I a0 a1 a2 a3 a4 a5 z77.2 ++ wLo J c0 1 z75.2.2 ++ wHi I O hh ha ad76 z75.2.1.2.2.1) := hw
  refine lv_istore (lv' := [(6, .int z77.1), (5, .int z75.1), (0, .ref b), (1, .ref h0), (2, .ref a0), (3, .ref c0), (4, .int v4)]) hx hb dL_law_475 hl (by decide) rfl (fun ls hl => ?_)
  refine lv_aload_n hx hb dL_law_477 rfl (lv_at hl 4 rfl) ?_
  obtain ⟨z78, h, hf⟩ := bd_s hf
  refine x_ci (x_rV E (As := []) (rest := []) (mt_X6_thrown l D I J O a0 a1 a2 a3 a4 a5 z77.2 z78 h) blR (x_recv E hw.1 27 6 rfl rfl rfl) (x_pcR E (x_pick hw.1 [27, 28, 29, 30, 31, 32] rfl)) ok_X6_thrown q835 rfl hl.1 rfl (Nat.le_of_ble_eq_true rfl) ⟨Nat.le_of_ble_eq_true rfl, Nat.le_of_ble_eq_true rfl⟩ ⟨(show cells + 1 + 0 + 0 ≤ 601024 by omega), (show slots + 6 + 0 + 0 ≤ 7293034 by omega)⟩ dL_law_478) ?_
  refine lv_iload hx hb dL_law_481 (lv_at hl 1 rfl) ?_
  refine lv_icmp_eq (tgt := 488) hx hb dL_law_483 (by decide) (fun hc => ?_) (fun hc => ?_)
  · rw [if_pos hc] at hf
    refine lv_iload hx hb dL_law_488 (lv_at hl 1 rfl) ?_
    refine lv_if_ne (tgt := 505) hx hb dL_law_490 (by decide) (fun hc => ?_) (fun hc => ?_)
    · rw [if_neg hc] at hf
      refine lv_goto (tgt := 1476) hx hb dL_law_505 (by decide) ?_
      refine lv_iinc (v := v4 + 5) (lv' := [(4, .int (v4 + 5)), (6, .int z77.1), (5, .int z75.1), (0, .ref b), (1, .ref h0), (2, .ref a0), (3, .ref c0)]) hx hb dL_law_1476 hl (k := 6) rfl rfl (by decide) rfl (fun ls hl => ?_)
      refine lv_goto (tgt := 23) hx hb dL_law_1479 (by decide) ?_
      exact hk23 (v4 + 5) z75.2.1 z77.2 z75.2.2 hf H locs ad76 _ _ (by omega) (by omega) hw _ (lv_sub hl [3, 4, 5, 6, 0] rfl)
    · rw [if_pos hc] at hf
      refine lv_aload_n hx hb dL_law_493 rfl (lv_at hl 5 rfl) ?_
      refine lv_iconst (v := 0) hx hb dL_law_494 (by decide) ?_
      obtain ⟨g, hf⟩ := gi_s hf
      refine x_lald E hw.1 33 rfl g dL_law_495 ?_
      refine lv_iload hx hb dL_law_496 (lv_at hl 0 rfl) ?_
      refine lv_i2l (v := z77.1.toInt64) hx hb dL_law_498 rfl ?_
      refine W.lcmp hx hb dL_law_499 ?_
      refine lv_if_eq (tgt := 505) hx hb dL_law_500 (by decide) (fun hc => ?_) (fun hc => ?_)
      · rw [if_pos hc] at hf
        refine lv_goto (tgt := 1476) hx hb dL_law_505 (by decide) ?_
        refine lv_iinc (v := v4 + 5) (lv' := [(4, .int (v4 + 5)), (6, .int z77.1), (5, .int z75.1), (0, .ref b), (1, .ref h0), (2, .ref a0), (3, .ref c0)]) hx hb dL_law_1476 hl (k := 6) rfl rfl (by decide) rfl (fun ls hl => ?_)
        refine lv_goto (tgt := 23) hx hb dL_law_1479 (by decide) ?_
        exact hk23 (v4 + 5) z75.2.1 z77.2 z75.2.2 hf H locs ad76 _ _ (by omega) (by omega) hw _ (lv_sub hl [3, 4, 5, 6, 0] rfl)
      · rw [if_neg hc] at hf
        refine lv_iconst (v := 0) hx hb dL_law_503 (by decide) ?_
        exact absurd (Option.some.inj hf) (by decide)
  · rw [if_neg hc] at hf
    refine lv_iconst (v := 0) hx hb dL_law_486 (by decide) ?_
    exact absurd (Option.some.inj hf) (by decide)
set_option maxRecDepth 100000 in
set_option maxHeartbeats 4000000 in
theorem k_L_law_508 {p : Program} {l : Launch} {e : Env} {s : State} {m : MethodId} {below : List Frame} {meth : Method} {c : Code} {D : va_G} {I J O : ClassId} {b L : Nat} {xs : Fn} {h0 b0 b1 hh : Nat} {a0 a1 a2 a3 a4 a5 c0 : Nat} (E : fx p s m #[Value.ref b] meth c cL_law RL 9 ret D I J O) (hfl : l.stackTraces = false) (hXE : XE s) (hXs : va_X b L xs s s.heap) (hbl : b < s.heap.size) (n t : Nat → Nat) (ha : Nat) {fu : Nat} (k23 : Int32 → ClC → MdC → FnL → Option Int32) (hk23 : ∀ (v4 : Int32) (x : ClC) (o : MdC) (w : FnL), k23 v4 x o w = some 1 → ∀ (H : Heap) (locs : List Loc) (ad : Nat → Nat → Nat) (cells slots : Nat), cells + (fu) ≤ 601024 → slots + 6 * (fu) ≤ 7293034 → fy D (fun q : Nat => s.heap.size ≤ q) s.heap H locs (wCl I h0 n t b0 b1 hh x ++ wMd I a0 a1 a2 a3 a4 a5 o ++ wLo J c0 1 w ++ wHi I O hh ha ad x.2.2.1) → ∀ ls : Array Slot, lv_has ls 9 [(0, .ref b), (1, .ref h0), (2, .ref a0), (3, .ref c0), (4, .int v4)] → W p l e room_1 s m #[Value.ref b] below meth c H locs cells slots (lw_Z below #[Value.ref b] s) (F0 m 23 ls [])) : ∀ (v4 : Int32) (x : ClC) (o : MdC) (w : FnL), f_L_law_508 L xs k23 v4 x o w = some 1 → ∀ (H : Heap) (locs : List Loc) (ad : Nat → Nat → Nat) (cells slots : Nat), cells + (fu + 1) ≤ 601024 → slots + 6 * (fu + 1) ≤ 7293034 → fy D (fun q : Nat => s.heap.size ≤ q) s.heap H locs (wCl I h0 n t b0 b1 hh x ++ wMd I a0 a1 a2 a3 a4 a5 o ++ wLo J c0 1 w ++ wHi I O hh ha ad x.2.2.1) → ∀ ls : Array Slot, lv_has ls 9 [(0, .ref b), (1, .ref h0), (2, .ref a0), (3, .ref c0), (4, .int v4)] → W p l e room_1 s m #[Value.ref b] below meth c H locs cells slots (lw_Z below #[Value.ref b] s) (F0 m 508 ls []) := by
  have hx := E.1
  have hb := E.2.1
  have hbA : ¬ (fun q : Nat => s.heap.size ≤ q) b := Nat.not_le.mpr hbl
  intro v4 x o w hf H locs ad cells slots hcs hss hw ls hl
  unfold f_L_law_508 at hf
  refine lv_aload_n hx hb dL_law_508 rfl (lv_at hl 1 rfl) ?_
  refine lv_aload_n hx hb dL_law_509 rfl (lv_at hl 0 rfl) ?_
  refine lv_iload hx hb dL_law_510 (lv_at hl 4 rfl) ?_
  refine lv_iconst (v := 1) hx hb dL_law_512 (by decide) ?_
  refine lv_iadd hx hb dL_law_513 ?_
  obtain ⟨g, hf⟩ := gi_s hf
  refine va_sld hx hb hXs hbl hbA hw.2.2.1 g dL_law_514 ?_
  refine lv_aload_n hx hb dL_law_515 rfl (lv_at hl 3 rfl) ?_
  obtain ⟨z71, h, hf⟩ := bd_s hf
  have hw : fy D (fun q : Nat => s.heap.size ≤ q) s.heap H locs ((wCl I h0 n t b0 b1 hh x ++ wLo J c0 1 w) ++ (wMd I a0 a1 a2 a3 a4 a5 o) ++ wHi I O hh ha ad x.2.2.1) := hw.part [0, 1, 2, 3, 4, 5, 6, 7, 8, 9, 10, 11, 12, 13, 14, 15, 16, 17, 18, 19, 20, 21, 22, 23, 24, 25, 26, 33, 27, 28, 29, 30, 31, 32] rfl rfl
  refine x_miFP hw (x_rW E (As := [.ref h0, .int (xs (v4 + 1).toNatClampNeg), .ref c0]) (rest := []) (mt_L_goOn l hfl D I J O h0 n t b0 b1 hh ha ad c0 H.size (xs (v4 + 1).toNatClampNeg) x w z71.1 z71.2.1 z71.2.2 h) blW (x_pcWPF E hXE hw) ok_L_goOn q676 rfl hl.1 rfl (Nat.le_of_ble_eq_true rfl) ⟨Nat.le_of_ble_eq_true rfl, Nat.le_of_ble_eq_true rfl⟩ ⟨(show cells + 1 ≤ 601024 by omega), (show slots + 6 ≤ 7293034 by omega)⟩ dL_law_516) (fun _ => rfl) (fun ad72 H locs hw => ?_)
  have hw : fy D (fun q : Nat => s.heap.size ≤ q) s.heap H locs ((wCl I h0 n t b0 b1 hh z71.2.1 ++ wLo J c0 1 z71.2.2) ++ (wMd I a0 a1 a2 a3 a4 a5 o) ++ wHi I O hh ha ad72 z71.2.1.2.2.1) := hw
  have hw : fy D (fun q : Nat => s.heap.size ≤ q) s.heap H locs (wCl I h0 n t b0 b1 hh z71.2.1 ++ wMd I a0 a1 a2 a3 a4 a5 o ++ wLo J c0 1 z71.2.2 ++ wHi I O hh ha ad72 z71.2.1.2.2.1) := hw.part [0, 1, 2, 3, 4, 5, 6, 7, 8, 9, 10, 11, 12, 13, 14, 15, 16, 17, 18, 19, 20, 21, 22, 23, 24, 25, 26, 28, 29, 30, 31, 32, 33, 27] rfl rfl
  have hw : fy D (fun q : Nat => s.heap.size ≤ q) s.heap H locs (wCl I h0 n t b0 b1 hh z71.2.1 ++ wMd I a0 a1 a2 a3 a4 a5 o ++ wLo J c0 1 z71.2.2 ++ wHi I O hh ha ad72 z71.2.1.2.2.1) := hw
  refine lv_istore (lv' := [(5, .int z71.1), (0, .ref b), (1, .ref h0), (2, .ref a0), (3, .ref c0), (4, .int v4)]) hx hb dL_law_519 hl (by decide) rfl (fun ls hl => ?_)
  refine lv_aload_n hx hb dL_law_521 rfl (lv_at hl 3 rfl) ?_
  refine lv_aload_n hx hb dL_law_522 rfl (lv_at hl 1 rfl) ?_
  refine lv_iload hx hb dL_law_523 (lv_at hl 5 rfl) ?_
  refine lv_iconst (v := 1) hx hb dL_law_525 (by decide) ?_
  refine lv_iadd hx hb dL_law_526 ?_
  obtain ⟨g, hf⟩ := gi_s hf
  refine va_sld hx hb hXs hbl hbA hw.2.2.1 g dL_law_527 ?_
  obtain ⟨z73, h, hf⟩ := bd_s hf
  refine x_mi hw [27, 28, 29, 30, 31, 32] rfl rfl (x_rV E (As := [.int (xs (v4 + 1).toNatClampNeg)]) (rest := []) (mt_X6_goOn l D I J O a0 a1 a2 a3 a4 a5 H.size (xs (v4 + 1).toNatClampNeg) o z73.1 z73.2 h) blM (x_recv E hw.1 27 6 rfl rfl rfl) (x_pcMQ E hw [27, 28, 29, 30, 31, 32] rfl rfl) ok_X6_goOn q921 rfl hl.1 rfl (Nat.le_of_ble_eq_true rfl) ⟨Nat.le_of_ble_eq_true rfl, Nat.le_of_ble_eq_true rfl⟩ ⟨(show cells + 1 + 0 ≤ 601024 by omega), (show slots + 6 + 0 ≤ 7293034 by omega)⟩ dL_law_528) (fun _ => rfl) (fun _ H locs hw => ?_)
  have hw : fy D (fun q : Nat => s.heap.size ≤ q) s.heap H locs (wCl I h0 n t b0 b1 hh z71.2.1 ++ wMd I a0 a1 a2 a3 a4 a5 z73.2 ++ wLo J c0 1 z71.2.2 ++ wHi I O hh ha ad72 z71.2.1.2.2.1) := hw
  refine lv_istore (lv' := [(6, .int z73.1), (5, .int z71.1), (0, .ref b), (1, .ref h0), (2, .ref a0), (3, .ref c0), (4, .int v4)]) hx hb dL_law_531 hl (by decide) rfl (fun ls hl => ?_)
  refine lv_aload_n hx hb dL_law_533 rfl (lv_at hl 4 rfl) ?_
  obtain ⟨z74, h, hf⟩ := bd_s hf
  refine x_ci (x_rV E (As := []) (rest := []) (mt_X6_thrown l D I J O a0 a1 a2 a3 a4 a5 z73.2 z74 h) blR (x_recv E hw.1 27 6 rfl rfl rfl) (x_pcR E (x_pick hw.1 [27, 28, 29, 30, 31, 32] rfl)) ok_X6_thrown q835 rfl hl.1 rfl (Nat.le_of_ble_eq_true rfl) ⟨Nat.le_of_ble_eq_true rfl, Nat.le_of_ble_eq_true rfl⟩ ⟨(show cells + 1 + 0 + 0 ≤ 601024 by omega), (show slots + 6 + 0 + 0 ≤ 7293034 by omega)⟩ dL_law_534) ?_
  refine lv_iload hx hb dL_law_537 (lv_at hl 1 rfl) ?_
  refine lv_icmp_eq (tgt := 544) hx hb dL_law_539 (by decide) (fun hc => ?_) (fun hc => ?_)
  · rw [if_pos hc] at hf
    refine lv_iload hx hb dL_law_544 (lv_at hl 1 rfl) ?_
    refine lv_if_ne (tgt := 561) hx hb dL_law_546 (by decide) (fun hc => ?_) (fun hc => ?_)
    · rw [if_neg hc] at hf
      refine lv_goto (tgt := 1476) hx hb dL_law_561 (by decide) ?_
      refine lv_iinc (v := v4 + 5) (lv' := [(4, .int (v4 + 5)), (6, .int z73.1), (5, .int z71.1), (0, .ref b), (1, .ref h0), (2, .ref a0), (3, .ref c0)]) hx hb dL_law_1476 hl (k := 6) rfl rfl (by decide) rfl (fun ls hl => ?_)
      refine lv_goto (tgt := 23) hx hb dL_law_1479 (by decide) ?_
      exact hk23 (v4 + 5) z71.2.1 z73.2 z71.2.2 hf H locs ad72 _ _ (by omega) (by omega) hw _ (lv_sub hl [3, 4, 5, 6, 0] rfl)
    · rw [if_pos hc] at hf
      refine lv_aload_n hx hb dL_law_549 rfl (lv_at hl 5 rfl) ?_
      refine lv_iconst (v := 0) hx hb dL_law_550 (by decide) ?_
      obtain ⟨g, hf⟩ := gi_s hf
      refine x_lald E hw.1 33 rfl g dL_law_551 ?_
      refine lv_iload hx hb dL_law_552 (lv_at hl 0 rfl) ?_
      refine lv_i2l (v := z73.1.toInt64) hx hb dL_law_554 rfl ?_
      refine W.lcmp hx hb dL_law_555 ?_
      refine lv_if_eq (tgt := 561) hx hb dL_law_556 (by decide) (fun hc => ?_) (fun hc => ?_)
      · rw [if_pos hc] at hf
        refine lv_goto (tgt := 1476) hx hb dL_law_561 (by decide) ?_
        refine lv_iinc (v := v4 + 5) (lv' := [(4, .int (v4 + 5)), (6, .int z73.1), (5, .int z71.1), (0, .ref b), (1, .ref h0), (2, .ref a0), (3, .ref c0)]) hx hb dL_law_1476 hl (k := 6) rfl rfl (by decide) rfl (fun ls hl => ?_)
        refine lv_goto (tgt := 23) hx hb dL_law_1479 (by decide) ?_
        exact hk23 (v4 + 5) z71.2.1 z73.2 z71.2.2 hf H locs ad72 _ _ (by omega) (by omega) hw _ (lv_sub hl [3, 4, 5, 6, 0] rfl)
      · rw [if_neg hc] at hf
        refine lv_iconst (v := 0) hx hb dL_law_559 (by decide) ?_
        exact absurd (Option.some.inj hf) (by decide)
  · rw [if_neg hc] at hf
    refine lv_iconst (v := 0) hx hb dL_law_542 (by decide) ?_
    exact absurd (Option.some.inj hf) (by decide)
set_option maxRecDepth 100000 in
set_option maxHeartbeats 4000000 in
theorem k_L_law_564 {p : Program} {l : Launch} {e : Env} {s : State} {m : MethodId} {below : List Frame} {meth : Method} {c : Code} {D : va_G} {I J O : ClassId} {b L : Nat} {xs : Fn} {h0 b0 b1 hh : Nat} {a0 a1 a2 a3 a4 a5 c0 : Nat} (E : fx p s m #[Value.ref b] meth c cL_law RL 9 ret D I J O) (hfl : l.stackTraces = false) (hXE : XE s) (hXs : va_X b L xs s s.heap) (hbl : b < s.heap.size) (n t : Nat → Nat) (ha : Nat) {fu : Nat} (k23 : Int32 → ClC → MdC → FnL → Option Int32) (hk23 : ∀ (v4 : Int32) (x : ClC) (o : MdC) (w : FnL), k23 v4 x o w = some 1 → ∀ (H : Heap) (locs : List Loc) (ad : Nat → Nat → Nat) (cells slots : Nat), cells + (fu) ≤ 601024 → slots + 6 * (fu) ≤ 7293034 → fy D (fun q : Nat => s.heap.size ≤ q) s.heap H locs (wCl I h0 n t b0 b1 hh x ++ wMd I a0 a1 a2 a3 a4 a5 o ++ wLo J c0 1 w ++ wHi I O hh ha ad x.2.2.1) → ∀ ls : Array Slot, lv_has ls 9 [(0, .ref b), (1, .ref h0), (2, .ref a0), (3, .ref c0), (4, .int v4)] → W p l e room_1 s m #[Value.ref b] below meth c H locs cells slots (lw_Z below #[Value.ref b] s) (F0 m 23 ls [])) : ∀ (v4 : Int32) (x : ClC) (o : MdC) (w : FnL), f_L_law_564 L xs k23 v4 x o w = some 1 → ∀ (H : Heap) (locs : List Loc) (ad : Nat → Nat → Nat) (cells slots : Nat), cells + (fu + 1) ≤ 601024 → slots + 6 * (fu + 1) ≤ 7293034 → fy D (fun q : Nat => s.heap.size ≤ q) s.heap H locs (wCl I h0 n t b0 b1 hh x ++ wMd I a0 a1 a2 a3 a4 a5 o ++ wLo J c0 1 w ++ wHi I O hh ha ad x.2.2.1) → ∀ ls : Array Slot, lv_has ls 9 [(0, .ref b), (1, .ref h0), (2, .ref a0), (3, .ref c0), (4, .int v4)] → W p l e room_1 s m #[Value.ref b] below meth c H locs cells slots (lw_Z below #[Value.ref b] s) (F0 m 564 ls []) := by
  have hx := E.1
  have hb := E.2.1
  have hbA : ¬ (fun q : Nat => s.heap.size ≤ q) b := Nat.not_le.mpr hbl
  intro v4 x o w hf H locs ad cells slots hcs hss hw ls hl
  unfold f_L_law_564 at hf
  refine lv_aload_n hx hb dL_law_564 rfl (lv_at hl 1 rfl) ?_
  refine lv_aload_n hx hb dL_law_565 rfl (lv_at hl 0 rfl) ?_
  refine lv_iload hx hb dL_law_566 (lv_at hl 4 rfl) ?_
  refine lv_iconst (v := 1) hx hb dL_law_568 (by decide) ?_
  refine lv_iadd hx hb dL_law_569 ?_
  obtain ⟨g, hf⟩ := gi_s hf
  refine va_sld hx hb hXs hbl hbA hw.2.2.1 g dL_law_570 ?_
  refine lv_aload_n hx hb dL_law_571 rfl (lv_at hl 3 rfl) ?_
  obtain ⟨z67, h, hf⟩ := bd_s hf
  have hw : fy D (fun q : Nat => s.heap.size ≤ q) s.heap H locs ((wCl I h0 n t b0 b1 hh x ++ wLo J c0 1 w) ++ (wMd I a0 a1 a2 a3 a4 a5 o) ++ wHi I O hh ha ad x.2.2.1) := hw.part [0, 1, 2, 3, 4, 5, 6, 7, 8, 9, 10, 11, 12, 13, 14, 15, 16, 17, 18, 19, 20, 21, 22, 23, 24, 25, 26, 33, 27, 28, 29, 30, 31, 32] rfl rfl
  refine x_miFP hw (x_rW E (As := [.ref h0, .int (xs (v4 + 1).toNatClampNeg), .ref c0]) (rest := []) (mt_L_take l hfl D I J O h0 n t b0 b1 hh ha ad c0 H.size (xs (v4 + 1).toNatClampNeg) x w z67.1 z67.2.1 z67.2.2 h) blW (x_pcWPF E hXE hw) ok_L_take q691 rfl hl.1 rfl (Nat.le_of_ble_eq_true rfl) ⟨Nat.le_of_ble_eq_true rfl, Nat.le_of_ble_eq_true rfl⟩ ⟨(show cells + 1 ≤ 601024 by omega), (show slots + 6 ≤ 7293034 by omega)⟩ dL_law_572) (fun _ => rfl) (fun ad68 H locs hw => ?_)
  have hw : fy D (fun q : Nat => s.heap.size ≤ q) s.heap H locs ((wCl I h0 n t b0 b1 hh z67.2.1 ++ wLo J c0 1 z67.2.2) ++ (wMd I a0 a1 a2 a3 a4 a5 o) ++ wHi I O hh ha ad68 z67.2.1.2.2.1) := hw
  have hw : fy D (fun q : Nat => s.heap.size ≤ q) s.heap H locs (wCl I h0 n t b0 b1 hh z67.2.1 ++ wMd I a0 a1 a2 a3 a4 a5 o ++ wLo J c0 1 z67.2.2 ++ wHi I O hh ha ad68 z67.2.1.2.2.1) := hw.part [0, 1, 2, 3, 4, 5, 6, 7, 8, 9, 10, 11, 12, 13, 14, 15, 16, 17, 18, 19, 20, 21, 22, 23, 24, 25, 26, 28, 29, 30, 31, 32, 33, 27] rfl rfl
  have hw : fy D (fun q : Nat => s.heap.size ≤ q) s.heap H locs (wCl I h0 n t b0 b1 hh z67.2.1 ++ wMd I a0 a1 a2 a3 a4 a5 o ++ wLo J c0 1 z67.2.2 ++ wHi I O hh ha ad68 z67.2.1.2.2.1) := hw
  refine lv_istore (lv' := [(5, .int z67.1), (0, .ref b), (1, .ref h0), (2, .ref a0), (3, .ref c0), (4, .int v4)]) hx hb dL_law_575 hl (by decide) rfl (fun ls hl => ?_)
  refine lv_aload_n hx hb dL_law_577 rfl (lv_at hl 3 rfl) ?_
  refine lv_aload_n hx hb dL_law_578 rfl (lv_at hl 1 rfl) ?_
  refine lv_iload hx hb dL_law_579 (lv_at hl 5 rfl) ?_
  refine lv_iconst (v := 1) hx hb dL_law_581 (by decide) ?_
  refine lv_iadd hx hb dL_law_582 ?_
  obtain ⟨g, hf⟩ := gi_s hf
  refine va_sld hx hb hXs hbl hbA hw.2.2.1 g dL_law_583 ?_
  obtain ⟨z69, h, hf⟩ := bd_s hf
  refine x_mi hw [27, 28, 29, 30, 31, 32] rfl rfl (x_rV E (As := [.int (xs (v4 + 1).toNatClampNeg)]) (rest := []) (mt_X6_take l D I J O a0 a1 a2 a3 a4 a5 H.size (xs (v4 + 1).toNatClampNeg) o z69.1 z69.2 h) blM (x_recv E hw.1 27 6 rfl rfl rfl) (x_pcMQ E hw [27, 28, 29, 30, 31, 32] rfl rfl) ok_X6_take q935 rfl hl.1 rfl (Nat.le_of_ble_eq_true rfl) ⟨Nat.le_of_ble_eq_true rfl, Nat.le_of_ble_eq_true rfl⟩ ⟨(show cells + 1 + 0 ≤ 601024 by omega), (show slots + 6 + 0 ≤ 7293034 by omega)⟩ dL_law_584) (fun _ => rfl) (fun _ H locs hw => ?_)
  have hw : fy D (fun q : Nat => s.heap.size ≤ q) s.heap H locs (wCl I h0 n t b0 b1 hh z67.2.1 ++ wMd I a0 a1 a2 a3 a4 a5 z69.2 ++ wLo J c0 1 z67.2.2 ++ wHi I O hh ha ad68 z67.2.1.2.2.1) := hw
  refine lv_istore (lv' := [(6, .int z69.1), (5, .int z67.1), (0, .ref b), (1, .ref h0), (2, .ref a0), (3, .ref c0), (4, .int v4)]) hx hb dL_law_587 hl (by decide) rfl (fun ls hl => ?_)
  refine lv_aload_n hx hb dL_law_589 rfl (lv_at hl 4 rfl) ?_
  obtain ⟨z70, h, hf⟩ := bd_s hf
  refine x_ci (x_rV E (As := []) (rest := []) (mt_X6_thrown l D I J O a0 a1 a2 a3 a4 a5 z69.2 z70 h) blR (x_recv E hw.1 27 6 rfl rfl rfl) (x_pcR E (x_pick hw.1 [27, 28, 29, 30, 31, 32] rfl)) ok_X6_thrown q835 rfl hl.1 rfl (Nat.le_of_ble_eq_true rfl) ⟨Nat.le_of_ble_eq_true rfl, Nat.le_of_ble_eq_true rfl⟩ ⟨(show cells + 1 + 0 + 0 ≤ 601024 by omega), (show slots + 6 + 0 + 0 ≤ 7293034 by omega)⟩ dL_law_590) ?_
  refine lv_iload hx hb dL_law_593 (lv_at hl 1 rfl) ?_
  refine lv_icmp_eq (tgt := 600) hx hb dL_law_595 (by decide) (fun hc => ?_) (fun hc => ?_)
  · rw [if_pos hc] at hf
    refine lv_iload hx hb dL_law_600 (lv_at hl 1 rfl) ?_
    refine lv_if_ne (tgt := 617) hx hb dL_law_602 (by decide) (fun hc => ?_) (fun hc => ?_)
    · rw [if_neg hc] at hf
      refine lv_goto (tgt := 1476) hx hb dL_law_617 (by decide) ?_
      refine lv_iinc (v := v4 + 5) (lv' := [(4, .int (v4 + 5)), (6, .int z69.1), (5, .int z67.1), (0, .ref b), (1, .ref h0), (2, .ref a0), (3, .ref c0)]) hx hb dL_law_1476 hl (k := 6) rfl rfl (by decide) rfl (fun ls hl => ?_)
      refine lv_goto (tgt := 23) hx hb dL_law_1479 (by decide) ?_
      exact hk23 (v4 + 5) z67.2.1 z69.2 z67.2.2 hf H locs ad68 _ _ (by omega) (by omega) hw _ (lv_sub hl [3, 4, 5, 6, 0] rfl)
    · rw [if_pos hc] at hf
      refine lv_aload_n hx hb dL_law_605 rfl (lv_at hl 5 rfl) ?_
      refine lv_iconst (v := 0) hx hb dL_law_606 (by decide) ?_
      obtain ⟨g, hf⟩ := gi_s hf
      refine x_lald E hw.1 33 rfl g dL_law_607 ?_
      refine lv_iload hx hb dL_law_608 (lv_at hl 0 rfl) ?_
      refine lv_i2l (v := z69.1.toInt64) hx hb dL_law_610 rfl ?_
      refine W.lcmp hx hb dL_law_611 ?_
      refine lv_if_eq (tgt := 617) hx hb dL_law_612 (by decide) (fun hc => ?_) (fun hc => ?_)
      · rw [if_pos hc] at hf
        refine lv_goto (tgt := 1476) hx hb dL_law_617 (by decide) ?_
        refine lv_iinc (v := v4 + 5) (lv' := [(4, .int (v4 + 5)), (6, .int z69.1), (5, .int z67.1), (0, .ref b), (1, .ref h0), (2, .ref a0), (3, .ref c0)]) hx hb dL_law_1476 hl (k := 6) rfl rfl (by decide) rfl (fun ls hl => ?_)
        refine lv_goto (tgt := 23) hx hb dL_law_1479 (by decide) ?_
        exact hk23 (v4 + 5) z67.2.1 z69.2 z67.2.2 hf H locs ad68 _ _ (by omega) (by omega) hw _ (lv_sub hl [3, 4, 5, 6, 0] rfl)
      · rw [if_neg hc] at hf
        refine lv_iconst (v := 0) hx hb dL_law_615 (by decide) ?_
        exact absurd (Option.some.inj hf) (by decide)
  · rw [if_neg hc] at hf
    refine lv_iconst (v := 0) hx hb dL_law_598 (by decide) ?_
    exact absurd (Option.some.inj hf) (by decide)
set_option maxRecDepth 100000 in
set_option maxHeartbeats 4000000 in
theorem k_L_law_620 {p : Program} {l : Launch} {e : Env} {s : State} {m : MethodId} {below : List Frame} {meth : Method} {c : Code} {D : va_G} {I J O : ClassId} {b L : Nat} {xs : Fn} {h0 b0 b1 hh : Nat} {a0 a1 a2 a3 a4 a5 c0 : Nat} (E : fx p s m #[Value.ref b] meth c cL_law RL 9 ret D I J O) (hfl : l.stackTraces = false) (hXE : XE s) (hXs : va_X b L xs s s.heap) (hbl : b < s.heap.size) (n t : Nat → Nat) (ha : Nat) {fu : Nat} (k23 : Int32 → ClC → MdC → FnL → Option Int32) (hk23 : ∀ (v4 : Int32) (x : ClC) (o : MdC) (w : FnL), k23 v4 x o w = some 1 → ∀ (H : Heap) (locs : List Loc) (ad : Nat → Nat → Nat) (cells slots : Nat), cells + (fu) ≤ 601024 → slots + 6 * (fu) ≤ 7293034 → fy D (fun q : Nat => s.heap.size ≤ q) s.heap H locs (wCl I h0 n t b0 b1 hh x ++ wMd I a0 a1 a2 a3 a4 a5 o ++ wLo J c0 1 w ++ wHi I O hh ha ad x.2.2.1) → ∀ ls : Array Slot, lv_has ls 9 [(0, .ref b), (1, .ref h0), (2, .ref a0), (3, .ref c0), (4, .int v4)] → W p l e room_1 s m #[Value.ref b] below meth c H locs cells slots (lw_Z below #[Value.ref b] s) (F0 m 23 ls [])) : ∀ (v4 : Int32) (x : ClC) (o : MdC) (w : FnL), f_L_law_620 L xs k23 v4 x o w = some 1 → ∀ (H : Heap) (locs : List Loc) (ad : Nat → Nat → Nat) (cells slots : Nat), cells + (fu + 1) ≤ 601024 → slots + 6 * (fu + 1) ≤ 7293034 → fy D (fun q : Nat => s.heap.size ≤ q) s.heap H locs (wCl I h0 n t b0 b1 hh x ++ wMd I a0 a1 a2 a3 a4 a5 o ++ wLo J c0 1 w ++ wHi I O hh ha ad x.2.2.1) → ∀ ls : Array Slot, lv_has ls 9 [(0, .ref b), (1, .ref h0), (2, .ref a0), (3, .ref c0), (4, .int v4)] → W p l e room_1 s m #[Value.ref b] below meth c H locs cells slots (lw_Z below #[Value.ref b] s) (F0 m 620 ls []) := by
  have hx := E.1
  have hb := E.2.1
  have hbA : ¬ (fun q : Nat => s.heap.size ≤ q) b := Nat.not_le.mpr hbl
  intro v4 x o w hf H locs ad cells slots hcs hss hw ls hl
  unfold f_L_law_620 at hf
  refine lv_aload_n hx hb dL_law_620 rfl (lv_at hl 1 rfl) ?_
  obtain ⟨z64, h, hf⟩ := bd_s hf
  have hw : fy D (fun q : Nat => s.heap.size ≤ q) s.heap H locs ((wCl I h0 n t b0 b1 hh x) ++ (wMd I a0 a1 a2 a3 a4 a5 o ++ wLo J c0 1 w) ++ wHi I O hh ha ad x.2.2.1) := hw.part [0, 1, 2, 3, 4, 5, 6, 7, 8, 9, 10, 11, 12, 13, 14, 15, 16, 17, 18, 19, 20, 21, 22, 23, 24, 25, 26, 27, 28, 29, 30, 31, 32, 33] rfl rfl
  refine x_miFP hw (x_rV E (As := []) (rest := []) (mt_X5_fire l D I J O h0 n t b0 b1 hh ha ad H.size x z64.1 z64.2 h) blM (x_recv E hw.1 0 5 rfl rfl rfl) (x_pcMPF E hw) ok_X5_fire q146 rfl hl.1 rfl (Nat.le_of_ble_eq_true rfl) ⟨Nat.le_of_ble_eq_true rfl, Nat.le_of_ble_eq_true rfl⟩ ⟨(show cells + 0 ≤ 601024 by omega), (show slots + 0 ≤ 7293034 by omega)⟩ dL_law_621) (fun _ => rfl) (fun ad65 H locs hw => ?_)
  have hw : fy D (fun q : Nat => s.heap.size ≤ q) s.heap H locs ((wCl I h0 n t b0 b1 hh z64.2) ++ (wMd I a0 a1 a2 a3 a4 a5 o ++ wLo J c0 1 w) ++ wHi I O hh ha ad65 z64.2.2.2.1) := hw
  have hw : fy D (fun q : Nat => s.heap.size ≤ q) s.heap H locs (wCl I h0 n t b0 b1 hh z64.2 ++ wMd I a0 a1 a2 a3 a4 a5 o ++ wLo J c0 1 w ++ wHi I O hh ha ad65 z64.2.2.2.1) := hw.part [0, 1, 2, 3, 4, 5, 6, 7, 8, 9, 10, 11, 12, 13, 14, 15, 16, 17, 18, 19, 20, 21, 22, 23, 24, 25, 26, 27, 28, 29, 30, 31, 32, 33] rfl rfl
  have hw : fy D (fun q : Nat => s.heap.size ≤ q) s.heap H locs (wCl I h0 n t b0 b1 hh z64.2 ++ wMd I a0 a1 a2 a3 a4 a5 o ++ wLo J c0 1 w ++ wHi I O hh ha ad65 z64.2.2.2.1) := hw
  refine lv_aload_n hx hb dL_law_624 rfl (lv_at hl 2 rfl) ?_
  obtain ⟨z66, h, hf⟩ := bd_s hf
  refine x_mi hw [27, 28, 29, 30, 31, 32] rfl rfl (x_rV E (As := []) (rest := [.int z64.1]) (mt_X6_fire l D I J O a0 a1 a2 a3 a4 a5 H.size o z66.1 z66.2 h) blM (x_recv E hw.1 27 6 rfl rfl rfl) (x_pcMQ E hw [27, 28, 29, 30, 31, 32] rfl rfl) ok_X6_fire q939 rfl hl.1 rfl (Nat.le_of_ble_eq_true rfl) ⟨Nat.le_of_ble_eq_true rfl, Nat.le_of_ble_eq_true rfl⟩ ⟨(show cells + 0 + 0 ≤ 601024 by omega), (show slots + 0 + 0 ≤ 7293034 by omega)⟩ dL_law_625) (fun _ => rfl) (fun _ H locs hw => ?_)
  have hw : fy D (fun q : Nat => s.heap.size ≤ q) s.heap H locs (wCl I h0 n t b0 b1 hh z64.2 ++ wMd I a0 a1 a2 a3 a4 a5 z66.2 ++ wLo J c0 1 w ++ wHi I O hh ha ad65 z64.2.2.2.1) := hw
  refine lv_icmp_eq (tgt := 1476) hx hb dL_law_628 (by decide) (fun hc => ?_) (fun hc => ?_)
  · rw [if_pos hc] at hf
    refine lv_iinc (v := v4 + 5) (lv' := [(4, .int (v4 + 5)), (0, .ref b), (1, .ref h0), (2, .ref a0), (3, .ref c0)]) hx hb dL_law_1476 hl (k := 4) rfl rfl (by decide) rfl (fun ls hl => ?_)
    refine lv_goto (tgt := 23) hx hb dL_law_1479 (by decide) ?_
    exact hk23 (v4 + 5) z64.2 z66.2 w hf H locs ad65 _ _ (by omega) (by omega) hw _ (lv_sub hl [1, 2, 3, 4, 0] rfl)
  · rw [if_neg hc] at hf
    refine lv_iconst (v := 0) hx hb dL_law_631 (by decide) ?_
    exact absurd (Option.some.inj hf) (by decide)
set_option maxRecDepth 100000 in
set_option maxHeartbeats 4000000 in
theorem k_L_law_633 {p : Program} {l : Launch} {e : Env} {s : State} {m : MethodId} {below : List Frame} {meth : Method} {c : Code} {D : va_G} {I J O : ClassId} {b L : Nat} {xs : Fn} {h0 b0 b1 hh : Nat} {a0 a1 a2 a3 a4 a5 c0 : Nat} (E : fx p s m #[Value.ref b] meth c cL_law RL 9 ret D I J O) (hfl : l.stackTraces = false) (hXE : XE s) (hXs : va_X b L xs s s.heap) (hbl : b < s.heap.size) (n t : Nat → Nat) (ha : Nat) {fu : Nat} (k23 : Int32 → ClC → MdC → FnL → Option Int32) (hk23 : ∀ (v4 : Int32) (x : ClC) (o : MdC) (w : FnL), k23 v4 x o w = some 1 → ∀ (H : Heap) (locs : List Loc) (ad : Nat → Nat → Nat) (cells slots : Nat), cells + (fu) ≤ 601024 → slots + 6 * (fu) ≤ 7293034 → fy D (fun q : Nat => s.heap.size ≤ q) s.heap H locs (wCl I h0 n t b0 b1 hh x ++ wMd I a0 a1 a2 a3 a4 a5 o ++ wLo J c0 1 w ++ wHi I O hh ha ad x.2.2.1) → ∀ ls : Array Slot, lv_has ls 9 [(0, .ref b), (1, .ref h0), (2, .ref a0), (3, .ref c0), (4, .int v4)] → W p l e room_1 s m #[Value.ref b] below meth c H locs cells slots (lw_Z below #[Value.ref b] s) (F0 m 23 ls [])) : ∀ (v4 : Int32) (x : ClC) (o : MdC) (w : FnL), f_L_law_633 L xs k23 v4 x o w = some 1 → ∀ (H : Heap) (locs : List Loc) (ad : Nat → Nat → Nat) (cells slots : Nat), cells + (fu + 1) ≤ 601024 → slots + 6 * (fu + 1) ≤ 7293034 → fy D (fun q : Nat => s.heap.size ≤ q) s.heap H locs (wCl I h0 n t b0 b1 hh x ++ wMd I a0 a1 a2 a3 a4 a5 o ++ wLo J c0 1 w ++ wHi I O hh ha ad x.2.2.1) → ∀ ls : Array Slot, lv_has ls 9 [(0, .ref b), (1, .ref h0), (2, .ref a0), (3, .ref c0), (4, .int v4)] → W p l e room_1 s m #[Value.ref b] below meth c H locs cells slots (lw_Z below #[Value.ref b] s) (F0 m 633 ls []) := by
  have hx := E.1
  have hb := E.2.1
  have hbA : ¬ (fun q : Nat => s.heap.size ≤ q) b := Nat.not_le.mpr hbl
  intro v4 x o w hf H locs ad cells slots hcs hss hw ls hl
  unfold f_L_law_633 at hf
  refine lv_aload_n hx hb dL_law_633 rfl (lv_at hl 1 rfl) ?_
  obtain ⟨z61, h, hf⟩ := bd_s hf
  have hw : fy D (fun q : Nat => s.heap.size ≤ q) s.heap H locs ((wCl I h0 n t b0 b1 hh x) ++ (wMd I a0 a1 a2 a3 a4 a5 o ++ wLo J c0 1 w) ++ wHi I O hh ha ad x.2.2.1) := hw.part [0, 1, 2, 3, 4, 5, 6, 7, 8, 9, 10, 11, 12, 13, 14, 15, 16, 17, 18, 19, 20, 21, 22, 23, 24, 25, 26, 27, 28, 29, 30, 31, 32, 33] rfl rfl
  refine x_miFP hw (x_rV E (As := []) (rest := []) (mt_X5_together l D I J O h0 n t b0 b1 hh ha ad H.size x z61.1 z61.2 h) blM (x_recv E hw.1 0 5 rfl rfl rfl) (x_pcMPF E hw) ok_X5_together q266 rfl hl.1 rfl (Nat.le_of_ble_eq_true rfl) ⟨Nat.le_of_ble_eq_true rfl, Nat.le_of_ble_eq_true rfl⟩ ⟨(show cells + 0 ≤ 601024 by omega), (show slots + 0 ≤ 7293034 by omega)⟩ dL_law_634) (fun _ => rfl) (fun ad62 H locs hw => ?_)
  have hw : fy D (fun q : Nat => s.heap.size ≤ q) s.heap H locs ((wCl I h0 n t b0 b1 hh z61.2) ++ (wMd I a0 a1 a2 a3 a4 a5 o ++ wLo J c0 1 w) ++ wHi I O hh ha ad62 z61.2.2.2.1) := hw
  have hw : fy D (fun q : Nat => s.heap.size ≤ q) s.heap H locs (wCl I h0 n t b0 b1 hh z61.2 ++ wMd I a0 a1 a2 a3 a4 a5 o ++ wLo J c0 1 w ++ wHi I O hh ha ad62 z61.2.2.2.1) := hw.part [0, 1, 2, 3, 4, 5, 6, 7, 8, 9, 10, 11, 12, 13, 14, 15, 16, 17, 18, 19, 20, 21, 22, 23, 24, 25, 26, 27, 28, 29, 30, 31, 32, 33] rfl rfl
  have hw : fy D (fun q : Nat => s.heap.size ≤ q) s.heap H locs (wCl I h0 n t b0 b1 hh z61.2 ++ wMd I a0 a1 a2 a3 a4 a5 o ++ wLo J c0 1 w ++ wHi I O hh ha ad62 z61.2.2.2.1) := hw
  refine lv_aload_n hx hb dL_law_637 rfl (lv_at hl 2 rfl) ?_
  obtain ⟨z63, h, hf⟩ := bd_s hf
  refine x_mi hw [27, 28, 29, 30, 31, 32] rfl rfl (x_rV E (As := []) (rest := [.int z61.1]) (mt_X6_together l D I J O a0 a1 a2 a3 a4 a5 H.size o z63.1 z63.2 h) blM (x_recv E hw.1 27 6 rfl rfl rfl) (x_pcMQ E hw [27, 28, 29, 30, 31, 32] rfl rfl) ok_X6_together q952 rfl hl.1 rfl (Nat.le_of_ble_eq_true rfl) ⟨Nat.le_of_ble_eq_true rfl, Nat.le_of_ble_eq_true rfl⟩ ⟨(show cells + 0 + 0 ≤ 601024 by omega), (show slots + 0 + 0 ≤ 7293034 by omega)⟩ dL_law_638) (fun _ => rfl) (fun _ H locs hw => ?_)
  have hw : fy D (fun q : Nat => s.heap.size ≤ q) s.heap H locs (wCl I h0 n t b0 b1 hh z61.2 ++ wMd I a0 a1 a2 a3 a4 a5 z63.2 ++ wLo J c0 1 w ++ wHi I O hh ha ad62 z61.2.2.2.1) := hw
  refine lv_icmp_eq (tgt := 1476) hx hb dL_law_641 (by decide) (fun hc => ?_) (fun hc => ?_)
  · rw [if_pos hc] at hf
    refine lv_iinc (v := v4 + 5) (lv' := [(4, .int (v4 + 5)), (0, .ref b), (1, .ref h0), (2, .ref a0), (3, .ref c0)]) hx hb dL_law_1476 hl (k := 4) rfl rfl (by decide) rfl (fun ls hl => ?_)
    refine lv_goto (tgt := 23) hx hb dL_law_1479 (by decide) ?_
    exact hk23 (v4 + 5) z61.2 z63.2 w hf H locs ad62 _ _ (by omega) (by omega) hw _ (lv_sub hl [1, 2, 3, 4, 0] rfl)
  · rw [if_neg hc] at hf
    refine lv_iconst (v := 0) hx hb dL_law_644 (by decide) ?_
    exact absurd (Option.some.inj hf) (by decide)
set_option maxRecDepth 100000 in
set_option maxHeartbeats 4000000 in
theorem k_L_law_646 {p : Program} {l : Launch} {e : Env} {s : State} {m : MethodId} {below : List Frame} {meth : Method} {c : Code} {D : va_G} {I J O : ClassId} {b L : Nat} {xs : Fn} {h0 b0 b1 hh : Nat} {a0 a1 a2 a3 a4 a5 c0 : Nat} (E : fx p s m #[Value.ref b] meth c cL_law RL 9 ret D I J O) (hfl : l.stackTraces = false) (hXE : XE s) (hXs : va_X b L xs s s.heap) (hbl : b < s.heap.size) (n t : Nat → Nat) (ha : Nat) {fu : Nat} (k23 : Int32 → ClC → MdC → FnL → Option Int32) (hk23 : ∀ (v4 : Int32) (x : ClC) (o : MdC) (w : FnL), k23 v4 x o w = some 1 → ∀ (H : Heap) (locs : List Loc) (ad : Nat → Nat → Nat) (cells slots : Nat), cells + (fu) ≤ 601024 → slots + 6 * (fu) ≤ 7293034 → fy D (fun q : Nat => s.heap.size ≤ q) s.heap H locs (wCl I h0 n t b0 b1 hh x ++ wMd I a0 a1 a2 a3 a4 a5 o ++ wLo J c0 1 w ++ wHi I O hh ha ad x.2.2.1) → ∀ ls : Array Slot, lv_has ls 9 [(0, .ref b), (1, .ref h0), (2, .ref a0), (3, .ref c0), (4, .int v4)] → W p l e room_1 s m #[Value.ref b] below meth c H locs cells slots (lw_Z below #[Value.ref b] s) (F0 m 23 ls [])) : ∀ (v4 : Int32) (x : ClC) (o : MdC) (w : FnL), f_L_law_646 L xs k23 v4 x o w = some 1 → ∀ (H : Heap) (locs : List Loc) (ad : Nat → Nat → Nat) (cells slots : Nat), cells + (fu + 1) ≤ 601024 → slots + 6 * (fu + 1) ≤ 7293034 → fy D (fun q : Nat => s.heap.size ≤ q) s.heap H locs (wCl I h0 n t b0 b1 hh x ++ wMd I a0 a1 a2 a3 a4 a5 o ++ wLo J c0 1 w ++ wHi I O hh ha ad x.2.2.1) → ∀ ls : Array Slot, lv_has ls 9 [(0, .ref b), (1, .ref h0), (2, .ref a0), (3, .ref c0), (4, .int v4)] → W p l e room_1 s m #[Value.ref b] below meth c H locs cells slots (lw_Z below #[Value.ref b] s) (F0 m 646 ls []) := by
  have hx := E.1
  have hb := E.2.1
  have hbA : ¬ (fun q : Nat => s.heap.size ≤ q) b := Nat.not_le.mpr hbl
  intro v4 x o w hf H locs ad cells slots hcs hss hw ls hl
  unfold f_L_law_646 at hf
  refine lv_aload_n hx hb dL_law_646 rfl (lv_at hl 1 rfl) ?_
  refine lv_aload_n hx hb dL_law_647 rfl (lv_at hl 0 rfl) ?_
  refine lv_iload hx hb dL_law_648 (lv_at hl 4 rfl) ?_
  refine lv_iconst (v := 1) hx hb dL_law_650 (by decide) ?_
  refine lv_iadd hx hb dL_law_651 ?_
  obtain ⟨g, hf⟩ := gi_s hf
  refine va_sld hx hb hXs hbl hbA hw.2.2.1 g dL_law_652 ?_
  refine lv_aload_n hx hb dL_law_653 rfl (lv_at hl 3 rfl) ?_
  obtain ⟨z57, h, hf⟩ := bd_s hf
  have hw : fy D (fun q : Nat => s.heap.size ≤ q) s.heap H locs ((wCl I h0 n t b0 b1 hh x ++ wLo J c0 1 w) ++ (wMd I a0 a1 a2 a3 a4 a5 o) ++ wHi I O hh ha ad x.2.2.1) := hw.part [0, 1, 2, 3, 4, 5, 6, 7, 8, 9, 10, 11, 12, 13, 14, 15, 16, 17, 18, 19, 20, 21, 22, 23, 24, 25, 26, 33, 27, 28, 29, 30, 31, 32] rfl rfl
  refine x_miFP hw (x_rW E (As := [.ref h0, .int (xs (v4 + 1).toNatClampNeg), .ref c0]) (rest := []) (mt_L_append l hfl D I J O h0 n t b0 b1 hh ha ad c0 H.size (xs (v4 + 1).toNatClampNeg) x w z57.1 z57.2.1 z57.2.2 h) blW (x_pcWPF E hXE hw) ok_L_append q699 rfl hl.1 rfl (Nat.le_of_ble_eq_true rfl) ⟨Nat.le_of_ble_eq_true rfl, Nat.le_of_ble_eq_true rfl⟩ ⟨(show cells + 1 ≤ 601024 by omega), (show slots + 6 ≤ 7293034 by omega)⟩ dL_law_654) (fun _ => rfl) (fun ad58 H locs hw => ?_)
  have hw : fy D (fun q : Nat => s.heap.size ≤ q) s.heap H locs ((wCl I h0 n t b0 b1 hh z57.2.1 ++ wLo J c0 1 z57.2.2) ++ (wMd I a0 a1 a2 a3 a4 a5 o) ++ wHi I O hh ha ad58 z57.2.1.2.2.1) := hw
  have hw : fy D (fun q : Nat => s.heap.size ≤ q) s.heap H locs (wCl I h0 n t b0 b1 hh z57.2.1 ++ wMd I a0 a1 a2 a3 a4 a5 o ++ wLo J c0 1 z57.2.2 ++ wHi I O hh ha ad58 z57.2.1.2.2.1) := hw.part [0, 1, 2, 3, 4, 5, 6, 7, 8, 9, 10, 11, 12, 13, 14, 15, 16, 17, 18, 19, 20, 21, 22, 23, 24, 25, 26, 28, 29, 30, 31, 32, 33, 27] rfl rfl
  have hw : fy D (fun q : Nat => s.heap.size ≤ q) s.heap H locs (wCl I h0 n t b0 b1 hh z57.2.1 ++ wMd I a0 a1 a2 a3 a4 a5 o ++ wLo J c0 1 z57.2.2 ++ wHi I O hh ha ad58 z57.2.1.2.2.1) := hw
  refine lv_istore (lv' := [(5, .int z57.1), (0, .ref b), (1, .ref h0), (2, .ref a0), (3, .ref c0), (4, .int v4)]) hx hb dL_law_657 hl (by decide) rfl (fun ls hl => ?_)
  refine lv_aload_n hx hb dL_law_659 rfl (lv_at hl 3 rfl) ?_
  refine lv_aload_n hx hb dL_law_660 rfl (lv_at hl 1 rfl) ?_
  refine lv_iload hx hb dL_law_661 (lv_at hl 5 rfl) ?_
  refine lv_iconst (v := 1) hx hb dL_law_663 (by decide) ?_
  refine lv_iadd hx hb dL_law_664 ?_
  obtain ⟨g, hf⟩ := gi_s hf
  refine va_sld hx hb hXs hbl hbA hw.2.2.1 g dL_law_665 ?_
  obtain ⟨z59, h, hf⟩ := bd_s hf
  refine x_mi hw [27, 28, 29, 30, 31, 32] rfl rfl (x_rV E (As := [.int (xs (v4 + 1).toNatClampNeg)]) (rest := []) (mt_X6_append l D I J O a0 a1 a2 a3 a4 a5 H.size (xs (v4 + 1).toNatClampNeg) o z59.1 z59.2 h) blM (x_recv E hw.1 27 6 rfl rfl rfl) (x_pcMQ E hw [27, 28, 29, 30, 31, 32] rfl rfl) ok_X6_append q959 rfl hl.1 rfl (Nat.le_of_ble_eq_true rfl) ⟨Nat.le_of_ble_eq_true rfl, Nat.le_of_ble_eq_true rfl⟩ ⟨(show cells + 1 + 0 ≤ 601024 by omega), (show slots + 6 + 0 ≤ 7293034 by omega)⟩ dL_law_666) (fun _ => rfl) (fun _ H locs hw => ?_)
  have hw : fy D (fun q : Nat => s.heap.size ≤ q) s.heap H locs (wCl I h0 n t b0 b1 hh z57.2.1 ++ wMd I a0 a1 a2 a3 a4 a5 z59.2 ++ wLo J c0 1 z57.2.2 ++ wHi I O hh ha ad58 z57.2.1.2.2.1) := hw
  refine lv_istore (lv' := [(6, .int z59.1), (5, .int z57.1), (0, .ref b), (1, .ref h0), (2, .ref a0), (3, .ref c0), (4, .int v4)]) hx hb dL_law_669 hl (by decide) rfl (fun ls hl => ?_)
  refine lv_aload_n hx hb dL_law_671 rfl (lv_at hl 4 rfl) ?_
  obtain ⟨z60, h, hf⟩ := bd_s hf
  refine x_ci (x_rV E (As := []) (rest := []) (mt_X6_thrown l D I J O a0 a1 a2 a3 a4 a5 z59.2 z60 h) blR (x_recv E hw.1 27 6 rfl rfl rfl) (x_pcR E (x_pick hw.1 [27, 28, 29, 30, 31, 32] rfl)) ok_X6_thrown q835 rfl hl.1 rfl (Nat.le_of_ble_eq_true rfl) ⟨Nat.le_of_ble_eq_true rfl, Nat.le_of_ble_eq_true rfl⟩ ⟨(show cells + 1 + 0 + 0 ≤ 601024 by omega), (show slots + 6 + 0 + 0 ≤ 7293034 by omega)⟩ dL_law_672) ?_
  refine lv_iload hx hb dL_law_675 (lv_at hl 1 rfl) ?_
  refine lv_icmp_eq (tgt := 682) hx hb dL_law_677 (by decide) (fun hc => ?_) (fun hc => ?_)
  · rw [if_pos hc] at hf
    refine lv_iload hx hb dL_law_682 (lv_at hl 1 rfl) ?_
    refine lv_if_ne (tgt := 699) hx hb dL_law_684 (by decide) (fun hc => ?_) (fun hc => ?_)
    · rw [if_neg hc] at hf
      refine lv_goto (tgt := 1476) hx hb dL_law_699 (by decide) ?_
      refine lv_iinc (v := v4 + 5) (lv' := [(4, .int (v4 + 5)), (6, .int z59.1), (5, .int z57.1), (0, .ref b), (1, .ref h0), (2, .ref a0), (3, .ref c0)]) hx hb dL_law_1476 hl (k := 6) rfl rfl (by decide) rfl (fun ls hl => ?_)
      refine lv_goto (tgt := 23) hx hb dL_law_1479 (by decide) ?_
      exact hk23 (v4 + 5) z57.2.1 z59.2 z57.2.2 hf H locs ad58 _ _ (by omega) (by omega) hw _ (lv_sub hl [3, 4, 5, 6, 0] rfl)
    · rw [if_pos hc] at hf
      refine lv_aload_n hx hb dL_law_687 rfl (lv_at hl 5 rfl) ?_
      refine lv_iconst (v := 0) hx hb dL_law_688 (by decide) ?_
      obtain ⟨g, hf⟩ := gi_s hf
      refine x_lald E hw.1 33 rfl g dL_law_689 ?_
      refine lv_iload hx hb dL_law_690 (lv_at hl 0 rfl) ?_
      refine lv_i2l (v := z59.1.toInt64) hx hb dL_law_692 rfl ?_
      refine W.lcmp hx hb dL_law_693 ?_
      refine lv_if_eq (tgt := 699) hx hb dL_law_694 (by decide) (fun hc => ?_) (fun hc => ?_)
      · rw [if_pos hc] at hf
        refine lv_goto (tgt := 1476) hx hb dL_law_699 (by decide) ?_
        refine lv_iinc (v := v4 + 5) (lv' := [(4, .int (v4 + 5)), (6, .int z59.1), (5, .int z57.1), (0, .ref b), (1, .ref h0), (2, .ref a0), (3, .ref c0)]) hx hb dL_law_1476 hl (k := 6) rfl rfl (by decide) rfl (fun ls hl => ?_)
        refine lv_goto (tgt := 23) hx hb dL_law_1479 (by decide) ?_
        exact hk23 (v4 + 5) z57.2.1 z59.2 z57.2.2 hf H locs ad58 _ _ (by omega) (by omega) hw _ (lv_sub hl [3, 4, 5, 6, 0] rfl)
      · rw [if_neg hc] at hf
        refine lv_iconst (v := 0) hx hb dL_law_697 (by decide) ?_
        exact absurd (Option.some.inj hf) (by decide)
  · rw [if_neg hc] at hf
    refine lv_iconst (v := 0) hx hb dL_law_680 (by decide) ?_
    exact absurd (Option.some.inj hf) (by decide)
set_option maxRecDepth 100000 in
set_option maxHeartbeats 4000000 in
theorem k_L_law_702 {p : Program} {l : Launch} {e : Env} {s : State} {m : MethodId} {below : List Frame} {meth : Method} {c : Code} {D : va_G} {I J O : ClassId} {b L : Nat} {xs : Fn} {h0 b0 b1 hh : Nat} {a0 a1 a2 a3 a4 a5 c0 : Nat} (E : fx p s m #[Value.ref b] meth c cL_law RL 9 ret D I J O) (hfl : l.stackTraces = false) (hXE : XE s) (hXs : va_X b L xs s s.heap) (hbl : b < s.heap.size) (n t : Nat → Nat) (ha : Nat) {fu : Nat} (k23 : Int32 → ClC → MdC → FnL → Option Int32) (hk23 : ∀ (v4 : Int32) (x : ClC) (o : MdC) (w : FnL), k23 v4 x o w = some 1 → ∀ (H : Heap) (locs : List Loc) (ad : Nat → Nat → Nat) (cells slots : Nat), cells + (fu) ≤ 601024 → slots + 6 * (fu) ≤ 7293034 → fy D (fun q : Nat => s.heap.size ≤ q) s.heap H locs (wCl I h0 n t b0 b1 hh x ++ wMd I a0 a1 a2 a3 a4 a5 o ++ wLo J c0 1 w ++ wHi I O hh ha ad x.2.2.1) → ∀ ls : Array Slot, lv_has ls 9 [(0, .ref b), (1, .ref h0), (2, .ref a0), (3, .ref c0), (4, .int v4)] → W p l e room_1 s m #[Value.ref b] below meth c H locs cells slots (lw_Z below #[Value.ref b] s) (F0 m 23 ls [])) : ∀ (v4 : Int32) (x : ClC) (o : MdC) (w : FnL), f_L_law_702 L xs k23 v4 x o w = some 1 → ∀ (H : Heap) (locs : List Loc) (ad : Nat → Nat → Nat) (cells slots : Nat), cells + (fu + 1) ≤ 601024 → slots + 6 * (fu + 1) ≤ 7293034 → fy D (fun q : Nat => s.heap.size ≤ q) s.heap H locs (wCl I h0 n t b0 b1 hh x ++ wMd I a0 a1 a2 a3 a4 a5 o ++ wLo J c0 1 w ++ wHi I O hh ha ad x.2.2.1) → ∀ ls : Array Slot, lv_has ls 9 [(0, .ref b), (1, .ref h0), (2, .ref a0), (3, .ref c0), (4, .int v4)] → W p l e room_1 s m #[Value.ref b] below meth c H locs cells slots (lw_Z below #[Value.ref b] s) (F0 m 702 ls []) := by
  have hx := E.1
  have hb := E.2.1
  have hbA : ¬ (fun q : Nat => s.heap.size ≤ q) b := Nat.not_le.mpr hbl
  intro v4 x o w hf H locs ad cells slots hcs hss hw ls hl
  unfold f_L_law_702 at hf
  refine lv_aload_n hx hb dL_law_702 rfl (lv_at hl 1 rfl) ?_
  obtain ⟨z54, h, hf⟩ := bd_s hf
  have hw : fy D (fun q : Nat => s.heap.size ≤ q) s.heap H locs ((wCl I h0 n t b0 b1 hh x) ++ (wMd I a0 a1 a2 a3 a4 a5 o ++ wLo J c0 1 w) ++ wHi I O hh ha ad x.2.2.1) := hw.part [0, 1, 2, 3, 4, 5, 6, 7, 8, 9, 10, 11, 12, 13, 14, 15, 16, 17, 18, 19, 20, 21, 22, 23, 24, 25, 26, 27, 28, 29, 30, 31, 32, 33] rfl rfl
  refine x_miFP hw (x_rV E (As := []) (rest := []) (mt_X5_clearBuffer l D I J O h0 n t b0 b1 hh ha ad H.size x z54.1 z54.2 h) blM (x_recv E hw.1 0 5 rfl rfl rfl) (x_pcMPF E hw) ok_X5_clearBuffer q293 rfl hl.1 rfl (Nat.le_of_ble_eq_true rfl) ⟨Nat.le_of_ble_eq_true rfl, Nat.le_of_ble_eq_true rfl⟩ ⟨(show cells + 0 ≤ 601024 by omega), (show slots + 0 ≤ 7293034 by omega)⟩ dL_law_703) (fun _ => rfl) (fun ad55 H locs hw => ?_)
  have hw : fy D (fun q : Nat => s.heap.size ≤ q) s.heap H locs ((wCl I h0 n t b0 b1 hh z54.2) ++ (wMd I a0 a1 a2 a3 a4 a5 o ++ wLo J c0 1 w) ++ wHi I O hh ha ad55 z54.2.2.2.1) := hw
  have hw : fy D (fun q : Nat => s.heap.size ≤ q) s.heap H locs (wCl I h0 n t b0 b1 hh z54.2 ++ wMd I a0 a1 a2 a3 a4 a5 o ++ wLo J c0 1 w ++ wHi I O hh ha ad55 z54.2.2.2.1) := hw.part [0, 1, 2, 3, 4, 5, 6, 7, 8, 9, 10, 11, 12, 13, 14, 15, 16, 17, 18, 19, 20, 21, 22, 23, 24, 25, 26, 27, 28, 29, 30, 31, 32, 33] rfl rfl
  have hw : fy D (fun q : Nat => s.heap.size ≤ q) s.heap H locs (wCl I h0 n t b0 b1 hh z54.2 ++ wMd I a0 a1 a2 a3 a4 a5 o ++ wLo J c0 1 w ++ wHi I O hh ha ad55 z54.2.2.2.1) := hw
  refine lv_aload_n hx hb dL_law_706 rfl (lv_at hl 2 rfl) ?_
  obtain ⟨z56, h, hf⟩ := bd_s hf
  refine x_mi hw [27, 28, 29, 30, 31, 32] rfl rfl (x_rV E (As := []) (rest := [.int z54.1]) (mt_X6_clearBuffer l D I J O a0 a1 a2 a3 a4 a5 H.size o z56.1 z56.2 h) blM (x_recv E hw.1 27 6 rfl rfl rfl) (x_pcMQ E hw [27, 28, 29, 30, 31, 32] rfl rfl) ok_X6_clearBuffer q963 rfl hl.1 rfl (Nat.le_of_ble_eq_true rfl) ⟨Nat.le_of_ble_eq_true rfl, Nat.le_of_ble_eq_true rfl⟩ ⟨(show cells + 0 + 0 ≤ 601024 by omega), (show slots + 0 + 0 ≤ 7293034 by omega)⟩ dL_law_707) (fun _ => rfl) (fun _ H locs hw => ?_)
  have hw : fy D (fun q : Nat => s.heap.size ≤ q) s.heap H locs (wCl I h0 n t b0 b1 hh z54.2 ++ wMd I a0 a1 a2 a3 a4 a5 z56.2 ++ wLo J c0 1 w ++ wHi I O hh ha ad55 z54.2.2.2.1) := hw
  refine lv_icmp_eq (tgt := 1476) hx hb dL_law_710 (by decide) (fun hc => ?_) (fun hc => ?_)
  · rw [if_pos hc] at hf
    refine lv_iinc (v := v4 + 5) (lv' := [(4, .int (v4 + 5)), (0, .ref b), (1, .ref h0), (2, .ref a0), (3, .ref c0)]) hx hb dL_law_1476 hl (k := 4) rfl rfl (by decide) rfl (fun ls hl => ?_)
    refine lv_goto (tgt := 23) hx hb dL_law_1479 (by decide) ?_
    exact hk23 (v4 + 5) z54.2 z56.2 w hf H locs ad55 _ _ (by omega) (by omega) hw _ (lv_sub hl [1, 2, 3, 4, 0] rfl)
  · rw [if_neg hc] at hf
    refine lv_iconst (v := 0) hx hb dL_law_713 (by decide) ?_
    exact absurd (Option.some.inj hf) (by decide)
set_option maxRecDepth 100000 in
set_option maxHeartbeats 4000000 in
theorem k_L_law_715 {p : Program} {l : Launch} {e : Env} {s : State} {m : MethodId} {below : List Frame} {meth : Method} {c : Code} {D : va_G} {I J O : ClassId} {b L : Nat} {xs : Fn} {h0 b0 b1 hh : Nat} {a0 a1 a2 a3 a4 a5 c0 : Nat} (E : fx p s m #[Value.ref b] meth c cL_law RL 9 ret D I J O) (hfl : l.stackTraces = false) (hXE : XE s) (hXs : va_X b L xs s s.heap) (hbl : b < s.heap.size) (n t : Nat → Nat) (ha : Nat) {fu : Nat} (k23 : Int32 → ClC → MdC → FnL → Option Int32) (hk23 : ∀ (v4 : Int32) (x : ClC) (o : MdC) (w : FnL), k23 v4 x o w = some 1 → ∀ (H : Heap) (locs : List Loc) (ad : Nat → Nat → Nat) (cells slots : Nat), cells + (fu) ≤ 601024 → slots + 6 * (fu) ≤ 7293034 → fy D (fun q : Nat => s.heap.size ≤ q) s.heap H locs (wCl I h0 n t b0 b1 hh x ++ wMd I a0 a1 a2 a3 a4 a5 o ++ wLo J c0 1 w ++ wHi I O hh ha ad x.2.2.1) → ∀ ls : Array Slot, lv_has ls 9 [(0, .ref b), (1, .ref h0), (2, .ref a0), (3, .ref c0), (4, .int v4)] → W p l e room_1 s m #[Value.ref b] below meth c H locs cells slots (lw_Z below #[Value.ref b] s) (F0 m 23 ls [])) : ∀ (v4 : Int32) (x : ClC) (o : MdC) (w : FnL), f_L_law_715 L xs k23 v4 x o w = some 1 → ∀ (H : Heap) (locs : List Loc) (ad : Nat → Nat → Nat) (cells slots : Nat), cells + (fu + 1) ≤ 601024 → slots + 6 * (fu + 1) ≤ 7293034 → fy D (fun q : Nat => s.heap.size ≤ q) s.heap H locs (wCl I h0 n t b0 b1 hh x ++ wMd I a0 a1 a2 a3 a4 a5 o ++ wLo J c0 1 w ++ wHi I O hh ha ad x.2.2.1) → ∀ ls : Array Slot, lv_has ls 9 [(0, .ref b), (1, .ref h0), (2, .ref a0), (3, .ref c0), (4, .int v4)] → W p l e room_1 s m #[Value.ref b] below meth c H locs cells slots (lw_Z below #[Value.ref b] s) (F0 m 715 ls []) := by
  have hx := E.1
  have hb := E.2.1
  have hbA : ¬ (fun q : Nat => s.heap.size ≤ q) b := Nat.not_le.mpr hbl
  intro v4 x o w hf H locs ad cells slots hcs hss hw ls hl
  unfold f_L_law_715 at hf
  refine lv_aload_n hx hb dL_law_715 rfl (lv_at hl 1 rfl) ?_
  obtain ⟨z52, h, hf⟩ := bd_s hf
  refine x_ci (x_rV E (As := []) (rest := []) (mt_X5_firstError l D I J O h0 n t b0 b1 hh ha ad x z52 h) blR (x_recv E hw.1 0 5 rfl rfl rfl) (x_pcR E (va_P.part hw.1 [0, 1, 2, 3, 4, 5, 6, 7, 8, 9, 10, 11, 12, 13, 14, 15, 16, 17, 18, 19, 20, 21, 22, 23, 24, 25, 26] rfl)) ok_X5_firstError q305 rfl hl.1 rfl (Nat.le_of_ble_eq_true rfl) ⟨Nat.le_of_ble_eq_true rfl, Nat.le_of_ble_eq_true rfl⟩ ⟨(show cells + 0 ≤ 601024 by omega), (show slots + 0 ≤ 7293034 by omega)⟩ dL_law_716) ?_
  refine lv_aload_n hx hb dL_law_719 rfl (lv_at hl 2 rfl) ?_
  obtain ⟨z53, h, hf⟩ := bd_s hf
  refine x_mi hw [27, 28, 29, 30, 31, 32] rfl rfl (x_rV E (As := []) (rest := [.int z52]) (mt_X6_firstError l D I J O a0 a1 a2 a3 a4 a5 H.size o z53.1 z53.2 h) blM (x_recv E hw.1 27 6 rfl rfl rfl) (x_pcMQ E hw [27, 28, 29, 30, 31, 32] rfl rfl) ok_X6_firstError q967 rfl hl.1 rfl (Nat.le_of_ble_eq_true rfl) ⟨Nat.le_of_ble_eq_true rfl, Nat.le_of_ble_eq_true rfl⟩ ⟨(show cells + 0 ≤ 601024 by omega), (show slots + 0 ≤ 7293034 by omega)⟩ dL_law_720) (fun _ => rfl) (fun _ H locs hw => ?_)
  have hw : fy D (fun q : Nat => s.heap.size ≤ q) s.heap H locs (wCl I h0 n t b0 b1 hh x ++ wMd I a0 a1 a2 a3 a4 a5 z53.2 ++ wLo J c0 1 w ++ wHi I O hh ha ad x.2.2.1) := hw
  refine lv_icmp_eq (tgt := 1476) hx hb dL_law_723 (by decide) (fun hc => ?_) (fun hc => ?_)
  · rw [if_pos hc] at hf
    refine lv_iinc (v := v4 + 5) (lv' := [(4, .int (v4 + 5)), (0, .ref b), (1, .ref h0), (2, .ref a0), (3, .ref c0)]) hx hb dL_law_1476 hl (k := 4) rfl rfl (by decide) rfl (fun ls hl => ?_)
    refine lv_goto (tgt := 23) hx hb dL_law_1479 (by decide) ?_
    exact hk23 (v4 + 5) x z53.2 w hf H locs ad _ _ (by omega) (by omega) hw _ (lv_sub hl [1, 2, 3, 4, 0] rfl)
  · rw [if_neg hc] at hf
    refine lv_iconst (v := 0) hx hb dL_law_726 (by decide) ?_
    exact absurd (Option.some.inj hf) (by decide)
set_option maxRecDepth 100000 in
set_option maxHeartbeats 4000000 in
theorem k_L_law_728 {p : Program} {l : Launch} {e : Env} {s : State} {m : MethodId} {below : List Frame} {meth : Method} {c : Code} {D : va_G} {I J O : ClassId} {b L : Nat} {xs : Fn} {h0 b0 b1 hh : Nat} {a0 a1 a2 a3 a4 a5 c0 : Nat} (E : fx p s m #[Value.ref b] meth c cL_law RL 9 ret D I J O) (hfl : l.stackTraces = false) (hXE : XE s) (hXs : va_X b L xs s s.heap) (hbl : b < s.heap.size) (n t : Nat → Nat) (ha : Nat) {fu : Nat} (k23 : Int32 → ClC → MdC → FnL → Option Int32) (hk23 : ∀ (v4 : Int32) (x : ClC) (o : MdC) (w : FnL), k23 v4 x o w = some 1 → ∀ (H : Heap) (locs : List Loc) (ad : Nat → Nat → Nat) (cells slots : Nat), cells + (fu) ≤ 601024 → slots + 6 * (fu) ≤ 7293034 → fy D (fun q : Nat => s.heap.size ≤ q) s.heap H locs (wCl I h0 n t b0 b1 hh x ++ wMd I a0 a1 a2 a3 a4 a5 o ++ wLo J c0 1 w ++ wHi I O hh ha ad x.2.2.1) → ∀ ls : Array Slot, lv_has ls 9 [(0, .ref b), (1, .ref h0), (2, .ref a0), (3, .ref c0), (4, .int v4)] → W p l e room_1 s m #[Value.ref b] below meth c H locs cells slots (lw_Z below #[Value.ref b] s) (F0 m 23 ls [])) : ∀ (v4 : Int32) (x : ClC) (o : MdC) (w : FnL), f_L_law_728 L xs k23 v4 x o w = some 1 → ∀ (H : Heap) (locs : List Loc) (ad : Nat → Nat → Nat) (cells slots : Nat), cells + (fu + 1) ≤ 601024 → slots + 6 * (fu + 1) ≤ 7293034 → fy D (fun q : Nat => s.heap.size ≤ q) s.heap H locs (wCl I h0 n t b0 b1 hh x ++ wMd I a0 a1 a2 a3 a4 a5 o ++ wLo J c0 1 w ++ wHi I O hh ha ad x.2.2.1) → ∀ ls : Array Slot, lv_has ls 9 [(0, .ref b), (1, .ref h0), (2, .ref a0), (3, .ref c0), (4, .int v4)] → W p l e room_1 s m #[Value.ref b] below meth c H locs cells slots (lw_Z below #[Value.ref b] s) (F0 m 728 ls []) := by
  have hx := E.1
  have hb := E.2.1
  have hbA : ¬ (fun q : Nat => s.heap.size ≤ q) b := Nat.not_le.mpr hbl
  intro v4 x o w hf H locs ad cells slots hcs hss hw ls hl
  unfold f_L_law_728 at hf
  refine lv_aload_n hx hb dL_law_728 rfl (lv_at hl 1 rfl) ?_
  refine lv_aload_n hx hb dL_law_729 rfl (lv_at hl 3 rfl) ?_
  obtain ⟨z48, h, hf⟩ := bd_s hf
  have hw : fy D (fun q : Nat => s.heap.size ≤ q) s.heap H locs ((wCl I h0 n t b0 b1 hh x ++ wLo J c0 1 w) ++ (wMd I a0 a1 a2 a3 a4 a5 o) ++ wHi I O hh ha ad x.2.2.1) := hw.part [0, 1, 2, 3, 4, 5, 6, 7, 8, 9, 10, 11, 12, 13, 14, 15, 16, 17, 18, 19, 20, 21, 22, 23, 24, 25, 26, 33, 27, 28, 29, 30, 31, 32] rfl rfl
  refine x_miFP hw (x_rW E (As := [.ref h0, .ref c0]) (rest := []) (mt_L_putAll l hfl D I J O h0 n t b0 b1 hh ha ad c0 H.size x w z48.1 z48.2.1 z48.2.2 h) blW (x_pcWPF E hXE hw) ok_L_putAll q716 rfl hl.1 rfl (Nat.le_of_ble_eq_true rfl) ⟨Nat.le_of_ble_eq_true rfl, Nat.le_of_ble_eq_true rfl⟩ ⟨(show cells + 1 ≤ 601024 by omega), (show slots + 6 ≤ 7293034 by omega)⟩ dL_law_730) (fun _ => rfl) (fun ad49 H locs hw => ?_)
  have hw : fy D (fun q : Nat => s.heap.size ≤ q) s.heap H locs ((wCl I h0 n t b0 b1 hh z48.2.1 ++ wLo J c0 1 z48.2.2) ++ (wMd I a0 a1 a2 a3 a4 a5 o) ++ wHi I O hh ha ad49 z48.2.1.2.2.1) := hw
  have hw : fy D (fun q : Nat => s.heap.size ≤ q) s.heap H locs (wCl I h0 n t b0 b1 hh z48.2.1 ++ wMd I a0 a1 a2 a3 a4 a5 o ++ wLo J c0 1 z48.2.2 ++ wHi I O hh ha ad49 z48.2.1.2.2.1) := hw.part [0, 1, 2, 3, 4, 5, 6, 7, 8, 9, 10, 11, 12, 13, 14, 15, 16, 17, 18, 19, 20, 21, 22, 23, 24, 25, 26, 28, 29, 30, 31, 32, 33, 27] rfl rfl
  have hw : fy D (fun q : Nat => s.heap.size ≤ q) s.heap H locs (wCl I h0 n t b0 b1 hh z48.2.1 ++ wMd I a0 a1 a2 a3 a4 a5 o ++ wLo J c0 1 z48.2.2 ++ wHi I O hh ha ad49 z48.2.1.2.2.1) := hw
  refine lv_istore (lv' := [(5, .int z48.1), (0, .ref b), (1, .ref h0), (2, .ref a0), (3, .ref c0), (4, .int v4)]) hx hb dL_law_733 hl (by decide) rfl (fun ls hl => ?_)
  refine lv_aload_n hx hb dL_law_735 rfl (lv_at hl 3 rfl) ?_
  obtain ⟨z50, h, hf⟩ := bd_s hf
  refine x_mi hw [27, 28, 29, 30, 31, 32] rfl rfl (x_rV E (As := []) (rest := []) (mt_X6_putAll l D I J O a0 a1 a2 a3 a4 a5 H.size o z50.1 z50.2 h) blM (x_recv E hw.1 27 6 rfl rfl rfl) (x_pcMQ E hw [27, 28, 29, 30, 31, 32] rfl rfl) ok_X6_putAll q991 rfl hl.1 rfl (Nat.le_of_ble_eq_true rfl) ⟨Nat.le_of_ble_eq_true rfl, Nat.le_of_ble_eq_true rfl⟩ ⟨(show cells + 1 + 0 ≤ 601024 by omega), (show slots + 6 + 0 ≤ 7293034 by omega)⟩ dL_law_736) (fun _ => rfl) (fun _ H locs hw => ?_)
  have hw : fy D (fun q : Nat => s.heap.size ≤ q) s.heap H locs (wCl I h0 n t b0 b1 hh z48.2.1 ++ wMd I a0 a1 a2 a3 a4 a5 z50.2 ++ wLo J c0 1 z48.2.2 ++ wHi I O hh ha ad49 z48.2.1.2.2.1) := hw
  refine lv_istore (lv' := [(6, .int z50.1), (5, .int z48.1), (0, .ref b), (1, .ref h0), (2, .ref a0), (3, .ref c0), (4, .int v4)]) hx hb dL_law_739 hl (by decide) rfl (fun ls hl => ?_)
  refine lv_aload_n hx hb dL_law_741 rfl (lv_at hl 4 rfl) ?_
  obtain ⟨z51, h, hf⟩ := bd_s hf
  refine x_ci (x_rV E (As := []) (rest := []) (mt_X6_thrown l D I J O a0 a1 a2 a3 a4 a5 z50.2 z51 h) blR (x_recv E hw.1 27 6 rfl rfl rfl) (x_pcR E (x_pick hw.1 [27, 28, 29, 30, 31, 32] rfl)) ok_X6_thrown q835 rfl hl.1 rfl (Nat.le_of_ble_eq_true rfl) ⟨Nat.le_of_ble_eq_true rfl, Nat.le_of_ble_eq_true rfl⟩ ⟨(show cells + 1 + 0 + 0 ≤ 601024 by omega), (show slots + 6 + 0 + 0 ≤ 7293034 by omega)⟩ dL_law_742) ?_
  refine lv_iload hx hb dL_law_745 (lv_at hl 1 rfl) ?_
  refine lv_icmp_eq (tgt := 752) hx hb dL_law_747 (by decide) (fun hc => ?_) (fun hc => ?_)
  · rw [if_pos hc] at hf
    refine lv_iload hx hb dL_law_752 (lv_at hl 1 rfl) ?_
    refine lv_if_ne (tgt := 769) hx hb dL_law_754 (by decide) (fun hc => ?_) (fun hc => ?_)
    · rw [if_neg hc] at hf
      refine lv_goto (tgt := 1476) hx hb dL_law_769 (by decide) ?_
      refine lv_iinc (v := v4 + 5) (lv' := [(4, .int (v4 + 5)), (6, .int z50.1), (5, .int z48.1), (0, .ref b), (1, .ref h0), (2, .ref a0), (3, .ref c0)]) hx hb dL_law_1476 hl (k := 6) rfl rfl (by decide) rfl (fun ls hl => ?_)
      refine lv_goto (tgt := 23) hx hb dL_law_1479 (by decide) ?_
      exact hk23 (v4 + 5) z48.2.1 z50.2 z48.2.2 hf H locs ad49 _ _ (by omega) (by omega) hw _ (lv_sub hl [3, 4, 5, 6, 0] rfl)
    · rw [if_pos hc] at hf
      refine lv_aload_n hx hb dL_law_757 rfl (lv_at hl 5 rfl) ?_
      refine lv_iconst (v := 0) hx hb dL_law_758 (by decide) ?_
      obtain ⟨g, hf⟩ := gi_s hf
      refine x_lald E hw.1 33 rfl g dL_law_759 ?_
      refine lv_iload hx hb dL_law_760 (lv_at hl 0 rfl) ?_
      refine lv_i2l (v := z50.1.toInt64) hx hb dL_law_762 rfl ?_
      refine W.lcmp hx hb dL_law_763 ?_
      refine lv_if_eq (tgt := 769) hx hb dL_law_764 (by decide) (fun hc => ?_) (fun hc => ?_)
      · rw [if_pos hc] at hf
        refine lv_goto (tgt := 1476) hx hb dL_law_769 (by decide) ?_
        refine lv_iinc (v := v4 + 5) (lv' := [(4, .int (v4 + 5)), (6, .int z50.1), (5, .int z48.1), (0, .ref b), (1, .ref h0), (2, .ref a0), (3, .ref c0)]) hx hb dL_law_1476 hl (k := 6) rfl rfl (by decide) rfl (fun ls hl => ?_)
        refine lv_goto (tgt := 23) hx hb dL_law_1479 (by decide) ?_
        exact hk23 (v4 + 5) z48.2.1 z50.2 z48.2.2 hf H locs ad49 _ _ (by omega) (by omega) hw _ (lv_sub hl [3, 4, 5, 6, 0] rfl)
      · rw [if_neg hc] at hf
        refine lv_iconst (v := 0) hx hb dL_law_767 (by decide) ?_
        exact absurd (Option.some.inj hf) (by decide)
  · rw [if_neg hc] at hf
    refine lv_iconst (v := 0) hx hb dL_law_750 (by decide) ?_
    exact absurd (Option.some.inj hf) (by decide)
set_option maxRecDepth 100000 in
set_option maxHeartbeats 4000000 in
theorem k_L_law_772 {p : Program} {l : Launch} {e : Env} {s : State} {m : MethodId} {below : List Frame} {meth : Method} {c : Code} {D : va_G} {I J O : ClassId} {b L : Nat} {xs : Fn} {h0 b0 b1 hh : Nat} {a0 a1 a2 a3 a4 a5 c0 : Nat} (E : fx p s m #[Value.ref b] meth c cL_law RL 9 ret D I J O) (hfl : l.stackTraces = false) (hXE : XE s) (hXs : va_X b L xs s s.heap) (hbl : b < s.heap.size) (n t : Nat → Nat) (ha : Nat) {fu : Nat} (k23 : Int32 → ClC → MdC → FnL → Option Int32) (hk23 : ∀ (v4 : Int32) (x : ClC) (o : MdC) (w : FnL), k23 v4 x o w = some 1 → ∀ (H : Heap) (locs : List Loc) (ad : Nat → Nat → Nat) (cells slots : Nat), cells + (fu) ≤ 601024 → slots + 6 * (fu) ≤ 7293034 → fy D (fun q : Nat => s.heap.size ≤ q) s.heap H locs (wCl I h0 n t b0 b1 hh x ++ wMd I a0 a1 a2 a3 a4 a5 o ++ wLo J c0 1 w ++ wHi I O hh ha ad x.2.2.1) → ∀ ls : Array Slot, lv_has ls 9 [(0, .ref b), (1, .ref h0), (2, .ref a0), (3, .ref c0), (4, .int v4)] → W p l e room_1 s m #[Value.ref b] below meth c H locs cells slots (lw_Z below #[Value.ref b] s) (F0 m 23 ls [])) : ∀ (v4 : Int32) (x : ClC) (o : MdC) (w : FnL), f_L_law_772 L xs k23 v4 x o w = some 1 → ∀ (H : Heap) (locs : List Loc) (ad : Nat → Nat → Nat) (cells slots : Nat), cells + (fu + 1) ≤ 601024 → slots + 6 * (fu + 1) ≤ 7293034 → fy D (fun q : Nat => s.heap.size ≤ q) s.heap H locs (wCl I h0 n t b0 b1 hh x ++ wMd I a0 a1 a2 a3 a4 a5 o ++ wLo J c0 1 w ++ wHi I O hh ha ad x.2.2.1) → ∀ ls : Array Slot, lv_has ls 9 [(0, .ref b), (1, .ref h0), (2, .ref a0), (3, .ref c0), (4, .int v4)] → W p l e room_1 s m #[Value.ref b] below meth c H locs cells slots (lw_Z below #[Value.ref b] s) (F0 m 772 ls []) := by
  have hx := E.1
  have hb := E.2.1
  have hbA : ¬ (fun q : Nat => s.heap.size ≤ q) b := Nat.not_le.mpr hbl
  intro v4 x o w hf H locs ad cells slots hcs hss hw ls hl
  unfold f_L_law_772 at hf
  refine lv_aload_n hx hb dL_law_772 rfl (lv_at hl 1 rfl) ?_
  refine lv_aload_n hx hb dL_law_773 rfl (lv_at hl 3 rfl) ?_
  obtain ⟨z44, h, hf⟩ := bd_s hf
  have hw : fy D (fun q : Nat => s.heap.size ≤ q) s.heap H locs ((wCl I h0 n t b0 b1 hh x ++ wLo J c0 1 w) ++ (wMd I a0 a1 a2 a3 a4 a5 o) ++ wHi I O hh ha ad x.2.2.1) := hw.part [0, 1, 2, 3, 4, 5, 6, 7, 8, 9, 10, 11, 12, 13, 14, 15, 16, 17, 18, 19, 20, 21, 22, 23, 24, 25, 26, 33, 27, 28, 29, 30, 31, 32] rfl rfl
  refine x_miFP hw (x_rW E (As := [.ref h0, .ref c0]) (rest := []) (mt_L_undo l hfl D I J O h0 n t b0 b1 hh ha ad c0 H.size x w z44.1 z44.2.1 z44.2.2 h) blW (x_pcWPF E hXE hw) ok_L_undo q743 rfl hl.1 rfl (Nat.le_of_ble_eq_true rfl) ⟨Nat.le_of_ble_eq_true rfl, Nat.le_of_ble_eq_true rfl⟩ ⟨(show cells + 1 ≤ 601024 by omega), (show slots + 6 ≤ 7293034 by omega)⟩ dL_law_774) (fun _ => rfl) (fun ad45 H locs hw => ?_)
  have hw : fy D (fun q : Nat => s.heap.size ≤ q) s.heap H locs ((wCl I h0 n t b0 b1 hh z44.2.1 ++ wLo J c0 1 z44.2.2) ++ (wMd I a0 a1 a2 a3 a4 a5 o) ++ wHi I O hh ha ad45 z44.2.1.2.2.1) := hw
  have hw : fy D (fun q : Nat => s.heap.size ≤ q) s.heap H locs (wCl I h0 n t b0 b1 hh z44.2.1 ++ wMd I a0 a1 a2 a3 a4 a5 o ++ wLo J c0 1 z44.2.2 ++ wHi I O hh ha ad45 z44.2.1.2.2.1) := hw.part [0, 1, 2, 3, 4, 5, 6, 7, 8, 9, 10, 11, 12, 13, 14, 15, 16, 17, 18, 19, 20, 21, 22, 23, 24, 25, 26, 28, 29, 30, 31, 32, 33, 27] rfl rfl
  have hw : fy D (fun q : Nat => s.heap.size ≤ q) s.heap H locs (wCl I h0 n t b0 b1 hh z44.2.1 ++ wMd I a0 a1 a2 a3 a4 a5 o ++ wLo J c0 1 z44.2.2 ++ wHi I O hh ha ad45 z44.2.1.2.2.1) := hw
  refine lv_istore (lv' := [(5, .int z44.1), (0, .ref b), (1, .ref h0), (2, .ref a0), (3, .ref c0), (4, .int v4)]) hx hb dL_law_777 hl (by decide) rfl (fun ls hl => ?_)
  refine lv_aload_n hx hb dL_law_779 rfl (lv_at hl 3 rfl) ?_
  obtain ⟨z46, h, hf⟩ := bd_s hf
  refine x_mi hw [27, 28, 29, 30, 31, 32] rfl rfl (x_rV E (As := []) (rest := []) (mt_X6_undo l D I J O a0 a1 a2 a3 a4 a5 H.size o z46.1 z46.2 h) blM (x_recv E hw.1 27 6 rfl rfl rfl) (x_pcMQ E hw [27, 28, 29, 30, 31, 32] rfl rfl) ok_X6_undo q995 rfl hl.1 rfl (Nat.le_of_ble_eq_true rfl) ⟨Nat.le_of_ble_eq_true rfl, Nat.le_of_ble_eq_true rfl⟩ ⟨(show cells + 1 + 0 ≤ 601024 by omega), (show slots + 6 + 0 ≤ 7293034 by omega)⟩ dL_law_780) (fun _ => rfl) (fun _ H locs hw => ?_)
  have hw : fy D (fun q : Nat => s.heap.size ≤ q) s.heap H locs (wCl I h0 n t b0 b1 hh z44.2.1 ++ wMd I a0 a1 a2 a3 a4 a5 z46.2 ++ wLo J c0 1 z44.2.2 ++ wHi I O hh ha ad45 z44.2.1.2.2.1) := hw
  refine lv_istore (lv' := [(6, .int z46.1), (5, .int z44.1), (0, .ref b), (1, .ref h0), (2, .ref a0), (3, .ref c0), (4, .int v4)]) hx hb dL_law_783 hl (by decide) rfl (fun ls hl => ?_)
  refine lv_aload_n hx hb dL_law_785 rfl (lv_at hl 4 rfl) ?_
  obtain ⟨z47, h, hf⟩ := bd_s hf
  refine x_ci (x_rV E (As := []) (rest := []) (mt_X6_thrown l D I J O a0 a1 a2 a3 a4 a5 z46.2 z47 h) blR (x_recv E hw.1 27 6 rfl rfl rfl) (x_pcR E (x_pick hw.1 [27, 28, 29, 30, 31, 32] rfl)) ok_X6_thrown q835 rfl hl.1 rfl (Nat.le_of_ble_eq_true rfl) ⟨Nat.le_of_ble_eq_true rfl, Nat.le_of_ble_eq_true rfl⟩ ⟨(show cells + 1 + 0 + 0 ≤ 601024 by omega), (show slots + 6 + 0 + 0 ≤ 7293034 by omega)⟩ dL_law_786) ?_
  refine lv_iload hx hb dL_law_789 (lv_at hl 1 rfl) ?_
  refine lv_icmp_eq (tgt := 796) hx hb dL_law_791 (by decide) (fun hc => ?_) (fun hc => ?_)
  · rw [if_pos hc] at hf
    refine lv_iload hx hb dL_law_796 (lv_at hl 1 rfl) ?_
    refine lv_if_ne (tgt := 813) hx hb dL_law_798 (by decide) (fun hc => ?_) (fun hc => ?_)
    · rw [if_neg hc] at hf
      refine lv_goto (tgt := 1476) hx hb dL_law_813 (by decide) ?_
      refine lv_iinc (v := v4 + 5) (lv' := [(4, .int (v4 + 5)), (6, .int z46.1), (5, .int z44.1), (0, .ref b), (1, .ref h0), (2, .ref a0), (3, .ref c0)]) hx hb dL_law_1476 hl (k := 6) rfl rfl (by decide) rfl (fun ls hl => ?_)
      refine lv_goto (tgt := 23) hx hb dL_law_1479 (by decide) ?_
      exact hk23 (v4 + 5) z44.2.1 z46.2 z44.2.2 hf H locs ad45 _ _ (by omega) (by omega) hw _ (lv_sub hl [3, 4, 5, 6, 0] rfl)
    · rw [if_pos hc] at hf
      refine lv_aload_n hx hb dL_law_801 rfl (lv_at hl 5 rfl) ?_
      refine lv_iconst (v := 0) hx hb dL_law_802 (by decide) ?_
      obtain ⟨g, hf⟩ := gi_s hf
      refine x_lald E hw.1 33 rfl g dL_law_803 ?_
      refine lv_iload hx hb dL_law_804 (lv_at hl 0 rfl) ?_
      refine lv_i2l (v := z46.1.toInt64) hx hb dL_law_806 rfl ?_
      refine W.lcmp hx hb dL_law_807 ?_
      refine lv_if_eq (tgt := 813) hx hb dL_law_808 (by decide) (fun hc => ?_) (fun hc => ?_)
      · rw [if_pos hc] at hf
        refine lv_goto (tgt := 1476) hx hb dL_law_813 (by decide) ?_
        refine lv_iinc (v := v4 + 5) (lv' := [(4, .int (v4 + 5)), (6, .int z46.1), (5, .int z44.1), (0, .ref b), (1, .ref h0), (2, .ref a0), (3, .ref c0)]) hx hb dL_law_1476 hl (k := 6) rfl rfl (by decide) rfl (fun ls hl => ?_)
        refine lv_goto (tgt := 23) hx hb dL_law_1479 (by decide) ?_
        exact hk23 (v4 + 5) z44.2.1 z46.2 z44.2.2 hf H locs ad45 _ _ (by omega) (by omega) hw _ (lv_sub hl [3, 4, 5, 6, 0] rfl)
      · rw [if_neg hc] at hf
        refine lv_iconst (v := 0) hx hb dL_law_811 (by decide) ?_
        exact absurd (Option.some.inj hf) (by decide)
  · rw [if_neg hc] at hf
    refine lv_iconst (v := 0) hx hb dL_law_794 (by decide) ?_
    exact absurd (Option.some.inj hf) (by decide)
set_option maxRecDepth 100000 in
set_option maxHeartbeats 4000000 in
theorem k_L_law_816 {p : Program} {l : Launch} {e : Env} {s : State} {m : MethodId} {below : List Frame} {meth : Method} {c : Code} {D : va_G} {I J O : ClassId} {b L : Nat} {xs : Fn} {h0 b0 b1 hh : Nat} {a0 a1 a2 a3 a4 a5 c0 : Nat} (E : fx p s m #[Value.ref b] meth c cL_law RL 9 ret D I J O) (hfl : l.stackTraces = false) (hXE : XE s) (hXs : va_X b L xs s s.heap) (hbl : b < s.heap.size) (n t : Nat → Nat) (ha : Nat) {fu : Nat} (k23 : Int32 → ClC → MdC → FnL → Option Int32) (hk23 : ∀ (v4 : Int32) (x : ClC) (o : MdC) (w : FnL), k23 v4 x o w = some 1 → ∀ (H : Heap) (locs : List Loc) (ad : Nat → Nat → Nat) (cells slots : Nat), cells + (fu) ≤ 601024 → slots + 6 * (fu) ≤ 7293034 → fy D (fun q : Nat => s.heap.size ≤ q) s.heap H locs (wCl I h0 n t b0 b1 hh x ++ wMd I a0 a1 a2 a3 a4 a5 o ++ wLo J c0 1 w ++ wHi I O hh ha ad x.2.2.1) → ∀ ls : Array Slot, lv_has ls 9 [(0, .ref b), (1, .ref h0), (2, .ref a0), (3, .ref c0), (4, .int v4)] → W p l e room_1 s m #[Value.ref b] below meth c H locs cells slots (lw_Z below #[Value.ref b] s) (F0 m 23 ls [])) : ∀ (v4 : Int32) (x : ClC) (o : MdC) (w : FnL), f_L_law_816 L xs k23 v4 x o w = some 1 → ∀ (H : Heap) (locs : List Loc) (ad : Nat → Nat → Nat) (cells slots : Nat), cells + (fu + 1) ≤ 601024 → slots + 6 * (fu + 1) ≤ 7293034 → fy D (fun q : Nat => s.heap.size ≤ q) s.heap H locs (wCl I h0 n t b0 b1 hh x ++ wMd I a0 a1 a2 a3 a4 a5 o ++ wLo J c0 1 w ++ wHi I O hh ha ad x.2.2.1) → ∀ ls : Array Slot, lv_has ls 9 [(0, .ref b), (1, .ref h0), (2, .ref a0), (3, .ref c0), (4, .int v4)] → W p l e room_1 s m #[Value.ref b] below meth c H locs cells slots (lw_Z below #[Value.ref b] s) (F0 m 816 ls []) := by
  have hx := E.1
  have hb := E.2.1
  have hbA : ¬ (fun q : Nat => s.heap.size ≤ q) b := Nat.not_le.mpr hbl
  intro v4 x o w hf H locs ad cells slots hcs hss hw ls hl
  unfold f_L_law_816 at hf
  refine lv_aload_n hx hb dL_law_816 rfl (lv_at hl 1 rfl) ?_
  refine lv_aload_n hx hb dL_law_817 rfl (lv_at hl 0 rfl) ?_
  refine lv_iload hx hb dL_law_818 (lv_at hl 4 rfl) ?_
  refine lv_iconst (v := 1) hx hb dL_law_820 (by decide) ?_
  refine lv_iadd hx hb dL_law_821 ?_
  obtain ⟨g, hf⟩ := gi_s hf
  refine va_sld hx hb hXs hbl hbA hw.2.2.1 g dL_law_822 ?_
  obtain ⟨z42, h, hf⟩ := bd_s hf
  refine x_ci (x_rV E (As := [.int (xs (v4 + 1).toNatClampNeg)]) (rest := []) (mt_X5_refusal l D I J O h0 n t b0 b1 hh ha ad (xs (v4 + 1).toNatClampNeg) x z42 h) blR (x_recv E hw.1 0 5 rfl rfl rfl) (x_pcR E (va_P.part hw.1 [0, 1, 2, 3, 4, 5, 6, 7, 8, 9, 10, 11, 12, 13, 14, 15, 16, 17, 18, 19, 20, 21, 22, 23, 24, 25, 26] rfl)) ok_X5_refusal q329 rfl hl.1 rfl (Nat.le_of_ble_eq_true rfl) ⟨Nat.le_of_ble_eq_true rfl, Nat.le_of_ble_eq_true rfl⟩ ⟨(show cells + 0 ≤ 601024 by omega), (show slots + 0 ≤ 7293034 by omega)⟩ dL_law_823) ?_
  refine lv_aload_n hx hb dL_law_826 rfl (lv_at hl 2 rfl) ?_
  refine lv_aload_n hx hb dL_law_827 rfl (lv_at hl 0 rfl) ?_
  refine lv_iload hx hb dL_law_828 (lv_at hl 4 rfl) ?_
  refine lv_iconst (v := 1) hx hb dL_law_830 (by decide) ?_
  refine lv_iadd hx hb dL_law_831 ?_
  obtain ⟨g, hf⟩ := gi_s hf
  refine va_sld hx hb hXs hbl hbA hw.2.2.1 g dL_law_832 ?_
  obtain ⟨z43, h, hf⟩ := bd_s hf
  refine x_mi hw [27, 28, 29, 30, 31, 32] rfl rfl (x_rV E (As := [.int (xs (v4 + 1).toNatClampNeg)]) (rest := [.int z42]) (mt_X6_refusal l D I J O a0 a1 a2 a3 a4 a5 H.size (xs (v4 + 1).toNatClampNeg) o z43.1 z43.2 h) blM (x_recv E hw.1 27 6 rfl rfl rfl) (x_pcMQ E hw [27, 28, 29, 30, 31, 32] rfl rfl) ok_X6_refusal q999 rfl hl.1 rfl (Nat.le_of_ble_eq_true rfl) ⟨Nat.le_of_ble_eq_true rfl, Nat.le_of_ble_eq_true rfl⟩ ⟨(show cells + 0 ≤ 601024 by omega), (show slots + 0 ≤ 7293034 by omega)⟩ dL_law_833) (fun _ => rfl) (fun _ H locs hw => ?_)
  have hw : fy D (fun q : Nat => s.heap.size ≤ q) s.heap H locs (wCl I h0 n t b0 b1 hh x ++ wMd I a0 a1 a2 a3 a4 a5 z43.2 ++ wLo J c0 1 w ++ wHi I O hh ha ad x.2.2.1) := hw
  refine lv_icmp_eq (tgt := 1476) hx hb dL_law_836 (by decide) (fun hc => ?_) (fun hc => ?_)
  · rw [if_pos hc] at hf
    refine lv_iinc (v := v4 + 5) (lv' := [(4, .int (v4 + 5)), (0, .ref b), (1, .ref h0), (2, .ref a0), (3, .ref c0)]) hx hb dL_law_1476 hl (k := 4) rfl rfl (by decide) rfl (fun ls hl => ?_)
    refine lv_goto (tgt := 23) hx hb dL_law_1479 (by decide) ?_
    exact hk23 (v4 + 5) x z43.2 w hf H locs ad _ _ (by omega) (by omega) hw _ (lv_sub hl [1, 2, 3, 4, 0] rfl)
  · rw [if_neg hc] at hf
    refine lv_iconst (v := 0) hx hb dL_law_839 (by decide) ?_
    exact absurd (Option.some.inj hf) (by decide)
set_option maxRecDepth 100000 in
set_option maxHeartbeats 4000000 in
theorem k_L_law_841 {p : Program} {l : Launch} {e : Env} {s : State} {m : MethodId} {below : List Frame} {meth : Method} {c : Code} {D : va_G} {I J O : ClassId} {b L : Nat} {xs : Fn} {h0 b0 b1 hh : Nat} {a0 a1 a2 a3 a4 a5 c0 : Nat} (E : fx p s m #[Value.ref b] meth c cL_law RL 9 ret D I J O) (hfl : l.stackTraces = false) (hXE : XE s) (hXs : va_X b L xs s s.heap) (hbl : b < s.heap.size) (n t : Nat → Nat) (ha : Nat) {fu : Nat} (k23 : Int32 → ClC → MdC → FnL → Option Int32) (hk23 : ∀ (v4 : Int32) (x : ClC) (o : MdC) (w : FnL), k23 v4 x o w = some 1 → ∀ (H : Heap) (locs : List Loc) (ad : Nat → Nat → Nat) (cells slots : Nat), cells + (fu) ≤ 601024 → slots + 6 * (fu) ≤ 7293034 → fy D (fun q : Nat => s.heap.size ≤ q) s.heap H locs (wCl I h0 n t b0 b1 hh x ++ wMd I a0 a1 a2 a3 a4 a5 o ++ wLo J c0 1 w ++ wHi I O hh ha ad x.2.2.1) → ∀ ls : Array Slot, lv_has ls 9 [(0, .ref b), (1, .ref h0), (2, .ref a0), (3, .ref c0), (4, .int v4)] → W p l e room_1 s m #[Value.ref b] below meth c H locs cells slots (lw_Z below #[Value.ref b] s) (F0 m 23 ls [])) : ∀ (v4 : Int32) (x : ClC) (o : MdC) (w : FnL), f_L_law_841 L xs k23 v4 x o w = some 1 → ∀ (H : Heap) (locs : List Loc) (ad : Nat → Nat → Nat) (cells slots : Nat), cells + (fu + 1) ≤ 601024 → slots + 6 * (fu + 1) ≤ 7293034 → fy D (fun q : Nat => s.heap.size ≤ q) s.heap H locs (wCl I h0 n t b0 b1 hh x ++ wMd I a0 a1 a2 a3 a4 a5 o ++ wLo J c0 1 w ++ wHi I O hh ha ad x.2.2.1) → ∀ ls : Array Slot, lv_has ls 9 [(0, .ref b), (1, .ref h0), (2, .ref a0), (3, .ref c0), (4, .int v4)] → W p l e room_1 s m #[Value.ref b] below meth c H locs cells slots (lw_Z below #[Value.ref b] s) (F0 m 841 ls []) := by
  have hx := E.1
  have hb := E.2.1
  have hbA : ¬ (fun q : Nat => s.heap.size ≤ q) b := Nat.not_le.mpr hbl
  intro v4 x o w hf H locs ad cells slots hcs hss hw ls hl
  unfold f_L_law_841 at hf
  refine lv_aload_n hx hb dL_law_841 rfl (lv_at hl 1 rfl) ?_
  refine lv_aload_n hx hb dL_law_842 rfl (lv_at hl 0 rfl) ?_
  refine lv_iload hx hb dL_law_843 (lv_at hl 4 rfl) ?_
  refine lv_iconst (v := 1) hx hb dL_law_845 (by decide) ?_
  refine lv_iadd hx hb dL_law_846 ?_
  obtain ⟨g, hf⟩ := gi_s hf
  refine va_sld hx hb hXs hbl hbA hw.2.2.1 g dL_law_847 ?_
  refine lv_aload_n hx hb dL_law_848 rfl (lv_at hl 0 rfl) ?_
  refine lv_iload hx hb dL_law_849 (lv_at hl 4 rfl) ?_
  refine lv_iconst (v := 2) hx hb dL_law_851 (by decide) ?_
  refine lv_iadd hx hb dL_law_852 ?_
  obtain ⟨g, hf⟩ := gi_s hf
  refine va_sld hx hb hXs hbl hbA hw.2.2.1 g dL_law_853 ?_
  refine lv_aload_n hx hb dL_law_854 rfl (lv_at hl 3 rfl) ?_
  obtain ⟨z38, h, hf⟩ := bd_s hf
  have hw : fy D (fun q : Nat => s.heap.size ≤ q) s.heap H locs ((wCl I h0 n t b0 b1 hh x ++ wLo J c0 1 w) ++ (wMd I a0 a1 a2 a3 a4 a5 o) ++ wHi I O hh ha ad x.2.2.1) := hw.part [0, 1, 2, 3, 4, 5, 6, 7, 8, 9, 10, 11, 12, 13, 14, 15, 16, 17, 18, 19, 20, 21, 22, 23, 24, 25, 26, 33, 27, 28, 29, 30, 31, 32] rfl rfl
  refine x_miFP hw (x_rW E (As := [.ref h0, .int (xs (v4 + 1).toNatClampNeg), .int (xs (v4 + 2).toNatClampNeg), .ref c0]) (rest := []) (mt_L_thing l hfl D I J O h0 n t b0 b1 hh ha ad c0 H.size (xs (v4 + 1).toNatClampNeg) (xs (v4 + 2).toNatClampNeg) x w z38.1 z38.2 h) blW (x_pcWPF E hXE hw) ok_L_thing q755 rfl hl.1 rfl (Nat.le_of_ble_eq_true rfl) ⟨Nat.le_of_ble_eq_true rfl, Nat.le_of_ble_eq_true rfl⟩ ⟨(show cells + 1 ≤ 601024 by omega), (show slots + 6 ≤ 7293034 by omega)⟩ dL_law_855) (fun _ => rfl) (fun ad39 H locs hw => ?_)
  have hw : fy D (fun q : Nat => s.heap.size ≤ q) s.heap H locs ((wCl I h0 n t b0 b1 hh x ++ wLo J c0 1 z38.2) ++ (wMd I a0 a1 a2 a3 a4 a5 o) ++ wHi I O hh ha ad39 x.2.2.1) := hw
  have hw : fy D (fun q : Nat => s.heap.size ≤ q) s.heap H locs (wCl I h0 n t b0 b1 hh x ++ wMd I a0 a1 a2 a3 a4 a5 o ++ wLo J c0 1 z38.2 ++ wHi I O hh ha ad39 x.2.2.1) := hw.part [0, 1, 2, 3, 4, 5, 6, 7, 8, 9, 10, 11, 12, 13, 14, 15, 16, 17, 18, 19, 20, 21, 22, 23, 24, 25, 26, 28, 29, 30, 31, 32, 33, 27] rfl rfl
  have hw : fy D (fun q : Nat => s.heap.size ≤ q) s.heap H locs (wCl I h0 n t b0 b1 hh x ++ wMd I a0 a1 a2 a3 a4 a5 o ++ wLo J c0 1 z38.2 ++ wHi I O hh ha ad39 x.2.2.1) := hw
  refine lv_istore (lv' := [(5, .int z38.1), (0, .ref b), (1, .ref h0), (2, .ref a0), (3, .ref c0), (4, .int v4)]) hx hb dL_law_858 hl (by decide) rfl (fun ls hl => ?_)
  refine lv_aload_n hx hb dL_law_860 rfl (lv_at hl 3 rfl) ?_
  refine lv_aload_n hx hb dL_law_861 rfl (lv_at hl 1 rfl) ?_
  refine lv_iload hx hb dL_law_862 (lv_at hl 5 rfl) ?_
  refine lv_iconst (v := 1) hx hb dL_law_864 (by decide) ?_
  refine lv_iadd hx hb dL_law_865 ?_
  obtain ⟨g, hf⟩ := gi_s hf
  refine va_sld hx hb hXs hbl hbA hw.2.2.1 g dL_law_866 ?_
  refine lv_aload_n hx hb dL_law_867 rfl (lv_at hl 1 rfl) ?_
  refine lv_iload hx hb dL_law_868 (lv_at hl 5 rfl) ?_
  refine lv_iconst (v := 2) hx hb dL_law_870 (by decide) ?_
  refine lv_iadd hx hb dL_law_871 ?_
  obtain ⟨g, hf⟩ := gi_s hf
  refine va_sld hx hb hXs hbl hbA hw.2.2.1 g dL_law_872 ?_
  obtain ⟨z40, h, hf⟩ := bd_s hf
  refine x_mi hw [27, 28, 29, 30, 31, 32] rfl rfl (x_rV E (As := [.int (xs (v4 + 1).toNatClampNeg), .int (xs (v4 + 2).toNatClampNeg)]) (rest := []) (mt_X6_thing l D I J O a0 a1 a2 a3 a4 a5 H.size (xs (v4 + 1).toNatClampNeg) (xs (v4 + 2).toNatClampNeg) o z40.1 z40.2 h) blM (x_recv E hw.1 27 6 rfl rfl rfl) (x_pcMQ E hw [27, 28, 29, 30, 31, 32] rfl rfl) ok_X6_thing q1003 rfl hl.1 rfl (Nat.le_of_ble_eq_true rfl) ⟨Nat.le_of_ble_eq_true rfl, Nat.le_of_ble_eq_true rfl⟩ ⟨(show cells + 1 + 0 ≤ 601024 by omega), (show slots + 6 + 0 ≤ 7293034 by omega)⟩ dL_law_873) (fun _ => rfl) (fun _ H locs hw => ?_)
  have hw : fy D (fun q : Nat => s.heap.size ≤ q) s.heap H locs (wCl I h0 n t b0 b1 hh x ++ wMd I a0 a1 a2 a3 a4 a5 z40.2 ++ wLo J c0 1 z38.2 ++ wHi I O hh ha ad39 x.2.2.1) := hw
  refine lv_istore (lv' := [(6, .int z40.1), (5, .int z38.1), (0, .ref b), (1, .ref h0), (2, .ref a0), (3, .ref c0), (4, .int v4)]) hx hb dL_law_876 hl (by decide) rfl (fun ls hl => ?_)
  refine lv_aload_n hx hb dL_law_878 rfl (lv_at hl 4 rfl) ?_
  obtain ⟨z41, h, hf⟩ := bd_s hf
  refine x_ci (x_rV E (As := []) (rest := []) (mt_X6_thrown l D I J O a0 a1 a2 a3 a4 a5 z40.2 z41 h) blR (x_recv E hw.1 27 6 rfl rfl rfl) (x_pcR E (x_pick hw.1 [27, 28, 29, 30, 31, 32] rfl)) ok_X6_thrown q835 rfl hl.1 rfl (Nat.le_of_ble_eq_true rfl) ⟨Nat.le_of_ble_eq_true rfl, Nat.le_of_ble_eq_true rfl⟩ ⟨(show cells + 1 + 0 + 0 ≤ 601024 by omega), (show slots + 6 + 0 + 0 ≤ 7293034 by omega)⟩ dL_law_879) ?_
  refine lv_iload hx hb dL_law_882 (lv_at hl 1 rfl) ?_
  refine lv_icmp_eq (tgt := 889) hx hb dL_law_884 (by decide) (fun hc => ?_) (fun hc => ?_)
  · rw [if_pos hc] at hf
    refine lv_iload hx hb dL_law_889 (lv_at hl 1 rfl) ?_
    refine lv_if_ne (tgt := 906) hx hb dL_law_891 (by decide) (fun hc => ?_) (fun hc => ?_)
    · rw [if_neg hc] at hf
      refine lv_goto (tgt := 1476) hx hb dL_law_906 (by decide) ?_
      refine lv_iinc (v := v4 + 5) (lv' := [(4, .int (v4 + 5)), (6, .int z40.1), (5, .int z38.1), (0, .ref b), (1, .ref h0), (2, .ref a0), (3, .ref c0)]) hx hb dL_law_1476 hl (k := 6) rfl rfl (by decide) rfl (fun ls hl => ?_)
      refine lv_goto (tgt := 23) hx hb dL_law_1479 (by decide) ?_
      exact hk23 (v4 + 5) x z40.2 z38.2 hf H locs ad39 _ _ (by omega) (by omega) hw _ (lv_sub hl [3, 4, 5, 6, 0] rfl)
    · rw [if_pos hc] at hf
      refine lv_aload_n hx hb dL_law_894 rfl (lv_at hl 5 rfl) ?_
      refine lv_iconst (v := 0) hx hb dL_law_895 (by decide) ?_
      obtain ⟨g, hf⟩ := gi_s hf
      refine x_lald E hw.1 33 rfl g dL_law_896 ?_
      refine lv_iload hx hb dL_law_897 (lv_at hl 0 rfl) ?_
      refine lv_i2l (v := z40.1.toInt64) hx hb dL_law_899 rfl ?_
      refine W.lcmp hx hb dL_law_900 ?_
      refine lv_if_eq (tgt := 906) hx hb dL_law_901 (by decide) (fun hc => ?_) (fun hc => ?_)
      · rw [if_pos hc] at hf
        refine lv_goto (tgt := 1476) hx hb dL_law_906 (by decide) ?_
        refine lv_iinc (v := v4 + 5) (lv' := [(4, .int (v4 + 5)), (6, .int z40.1), (5, .int z38.1), (0, .ref b), (1, .ref h0), (2, .ref a0), (3, .ref c0)]) hx hb dL_law_1476 hl (k := 6) rfl rfl (by decide) rfl (fun ls hl => ?_)
        refine lv_goto (tgt := 23) hx hb dL_law_1479 (by decide) ?_
        exact hk23 (v4 + 5) x z40.2 z38.2 hf H locs ad39 _ _ (by omega) (by omega) hw _ (lv_sub hl [3, 4, 5, 6, 0] rfl)
      · rw [if_neg hc] at hf
        refine lv_iconst (v := 0) hx hb dL_law_904 (by decide) ?_
        exact absurd (Option.some.inj hf) (by decide)
  · rw [if_neg hc] at hf
    refine lv_iconst (v := 0) hx hb dL_law_887 (by decide) ?_
    exact absurd (Option.some.inj hf) (by decide)
set_option maxRecDepth 100000 in
set_option maxHeartbeats 4000000 in
theorem k_L_law_909 {p : Program} {l : Launch} {e : Env} {s : State} {m : MethodId} {below : List Frame} {meth : Method} {c : Code} {D : va_G} {I J O : ClassId} {b L : Nat} {xs : Fn} {h0 b0 b1 hh : Nat} {a0 a1 a2 a3 a4 a5 c0 : Nat} (E : fx p s m #[Value.ref b] meth c cL_law RL 9 ret D I J O) (hfl : l.stackTraces = false) (hXE : XE s) (hXs : va_X b L xs s s.heap) (hbl : b < s.heap.size) (n t : Nat → Nat) (ha : Nat) {fu : Nat} (k23 : Int32 → ClC → MdC → FnL → Option Int32) (hk23 : ∀ (v4 : Int32) (x : ClC) (o : MdC) (w : FnL), k23 v4 x o w = some 1 → ∀ (H : Heap) (locs : List Loc) (ad : Nat → Nat → Nat) (cells slots : Nat), cells + (fu) ≤ 601024 → slots + 6 * (fu) ≤ 7293034 → fy D (fun q : Nat => s.heap.size ≤ q) s.heap H locs (wCl I h0 n t b0 b1 hh x ++ wMd I a0 a1 a2 a3 a4 a5 o ++ wLo J c0 1 w ++ wHi I O hh ha ad x.2.2.1) → ∀ ls : Array Slot, lv_has ls 9 [(0, .ref b), (1, .ref h0), (2, .ref a0), (3, .ref c0), (4, .int v4)] → W p l e room_1 s m #[Value.ref b] below meth c H locs cells slots (lw_Z below #[Value.ref b] s) (F0 m 23 ls [])) : ∀ (v4 : Int32) (x : ClC) (o : MdC) (w : FnL), f_L_law_909 L xs k23 v4 x o w = some 1 → ∀ (H : Heap) (locs : List Loc) (ad : Nat → Nat → Nat) (cells slots : Nat), cells + (fu + 1) ≤ 601024 → slots + 6 * (fu + 1) ≤ 7293034 → fy D (fun q : Nat => s.heap.size ≤ q) s.heap H locs (wCl I h0 n t b0 b1 hh x ++ wMd I a0 a1 a2 a3 a4 a5 o ++ wLo J c0 1 w ++ wHi I O hh ha ad x.2.2.1) → ∀ ls : Array Slot, lv_has ls 9 [(0, .ref b), (1, .ref h0), (2, .ref a0), (3, .ref c0), (4, .int v4)] → W p l e room_1 s m #[Value.ref b] below meth c H locs cells slots (lw_Z below #[Value.ref b] s) (F0 m 909 ls []) := by
  have hx := E.1
  have hb := E.2.1
  have hbA : ¬ (fun q : Nat => s.heap.size ≤ q) b := Nat.not_le.mpr hbl
  intro v4 x o w hf H locs ad cells slots hcs hss hw ls hl
  unfold f_L_law_909 at hf
  refine lv_aload_n hx hb dL_law_909 rfl (lv_at hl 1 rfl) ?_
  refine lv_aload_n hx hb dL_law_910 rfl (lv_at hl 0 rfl) ?_
  refine lv_iload hx hb dL_law_911 (lv_at hl 4 rfl) ?_
  refine lv_iconst (v := 1) hx hb dL_law_913 (by decide) ?_
  refine lv_iadd hx hb dL_law_914 ?_
  obtain ⟨g, hf⟩ := gi_s hf
  refine va_sld hx hb hXs hbl hbA hw.2.2.1 g dL_law_915 ?_
  refine lv_aload_n hx hb dL_law_916 rfl (lv_at hl 3 rfl) ?_
  obtain ⟨z34, h, hf⟩ := bd_s hf
  have hw : fy D (fun q : Nat => s.heap.size ≤ q) s.heap H locs ((wCl I h0 n t b0 b1 hh x ++ wLo J c0 1 w) ++ (wMd I a0 a1 a2 a3 a4 a5 o) ++ wHi I O hh ha ad x.2.2.1) := hw.part [0, 1, 2, 3, 4, 5, 6, 7, 8, 9, 10, 11, 12, 13, 14, 15, 16, 17, 18, 19, 20, 21, 22, 23, 24, 25, 26, 33, 27, 28, 29, 30, 31, 32] rfl rfl
  refine x_miFP hw (x_rW E (As := [.ref h0, .int (xs (v4 + 1).toNatClampNeg), .ref c0]) (rest := []) (mt_L_at l hfl D I J O h0 n t b0 b1 hh ha ad c0 H.size (xs (v4 + 1).toNatClampNeg) x w z34.1 z34.2 h) blW (x_pcWPF E hXE hw) ok_L_at q759 rfl hl.1 rfl (Nat.le_of_ble_eq_true rfl) ⟨Nat.le_of_ble_eq_true rfl, Nat.le_of_ble_eq_true rfl⟩ ⟨(show cells + 1 ≤ 601024 by omega), (show slots + 6 ≤ 7293034 by omega)⟩ dL_law_917) (fun _ => rfl) (fun ad35 H locs hw => ?_)
  have hw : fy D (fun q : Nat => s.heap.size ≤ q) s.heap H locs ((wCl I h0 n t b0 b1 hh x ++ wLo J c0 1 z34.2) ++ (wMd I a0 a1 a2 a3 a4 a5 o) ++ wHi I O hh ha ad35 x.2.2.1) := hw
  have hw : fy D (fun q : Nat => s.heap.size ≤ q) s.heap H locs (wCl I h0 n t b0 b1 hh x ++ wMd I a0 a1 a2 a3 a4 a5 o ++ wLo J c0 1 z34.2 ++ wHi I O hh ha ad35 x.2.2.1) := hw.part [0, 1, 2, 3, 4, 5, 6, 7, 8, 9, 10, 11, 12, 13, 14, 15, 16, 17, 18, 19, 20, 21, 22, 23, 24, 25, 26, 28, 29, 30, 31, 32, 33, 27] rfl rfl
  have hw : fy D (fun q : Nat => s.heap.size ≤ q) s.heap H locs (wCl I h0 n t b0 b1 hh x ++ wMd I a0 a1 a2 a3 a4 a5 o ++ wLo J c0 1 z34.2 ++ wHi I O hh ha ad35 x.2.2.1) := hw
  refine lv_istore (lv' := [(5, .int z34.1), (0, .ref b), (1, .ref h0), (2, .ref a0), (3, .ref c0), (4, .int v4)]) hx hb dL_law_920 hl (by decide) rfl (fun ls hl => ?_)
  refine lv_aload_n hx hb dL_law_922 rfl (lv_at hl 3 rfl) ?_
  refine lv_aload_n hx hb dL_law_923 rfl (lv_at hl 1 rfl) ?_
  refine lv_iload hx hb dL_law_924 (lv_at hl 5 rfl) ?_
  refine lv_iconst (v := 1) hx hb dL_law_926 (by decide) ?_
  refine lv_iadd hx hb dL_law_927 ?_
  obtain ⟨g, hf⟩ := gi_s hf
  refine va_sld hx hb hXs hbl hbA hw.2.2.1 g dL_law_928 ?_
  obtain ⟨z36, h, hf⟩ := bd_s hf
  refine x_mi hw [27, 28, 29, 30, 31, 32] rfl rfl (x_rV E (As := [.int (xs (v4 + 1).toNatClampNeg)]) (rest := []) (mt_X6_at l D I J O a0 a1 a2 a3 a4 a5 H.size (xs (v4 + 1).toNatClampNeg) o z36.1 z36.2 h) blM (x_recv E hw.1 27 6 rfl rfl rfl) (x_pcMQ E hw [27, 28, 29, 30, 31, 32] rfl rfl) ok_X6_at q1015 rfl hl.1 rfl (Nat.le_of_ble_eq_true rfl) ⟨Nat.le_of_ble_eq_true rfl, Nat.le_of_ble_eq_true rfl⟩ ⟨(show cells + 1 + 0 ≤ 601024 by omega), (show slots + 6 + 0 ≤ 7293034 by omega)⟩ dL_law_929) (fun _ => rfl) (fun _ H locs hw => ?_)
  have hw : fy D (fun q : Nat => s.heap.size ≤ q) s.heap H locs (wCl I h0 n t b0 b1 hh x ++ wMd I a0 a1 a2 a3 a4 a5 z36.2 ++ wLo J c0 1 z34.2 ++ wHi I O hh ha ad35 x.2.2.1) := hw
  refine lv_istore (lv' := [(6, .int z36.1), (5, .int z34.1), (0, .ref b), (1, .ref h0), (2, .ref a0), (3, .ref c0), (4, .int v4)]) hx hb dL_law_932 hl (by decide) rfl (fun ls hl => ?_)
  refine lv_aload_n hx hb dL_law_934 rfl (lv_at hl 4 rfl) ?_
  obtain ⟨z37, h, hf⟩ := bd_s hf
  refine x_ci (x_rV E (As := []) (rest := []) (mt_X6_thrown l D I J O a0 a1 a2 a3 a4 a5 z36.2 z37 h) blR (x_recv E hw.1 27 6 rfl rfl rfl) (x_pcR E (x_pick hw.1 [27, 28, 29, 30, 31, 32] rfl)) ok_X6_thrown q835 rfl hl.1 rfl (Nat.le_of_ble_eq_true rfl) ⟨Nat.le_of_ble_eq_true rfl, Nat.le_of_ble_eq_true rfl⟩ ⟨(show cells + 1 + 0 + 0 ≤ 601024 by omega), (show slots + 6 + 0 + 0 ≤ 7293034 by omega)⟩ dL_law_935) ?_
  refine lv_iload hx hb dL_law_938 (lv_at hl 1 rfl) ?_
  refine lv_icmp_eq (tgt := 945) hx hb dL_law_940 (by decide) (fun hc => ?_) (fun hc => ?_)
  · rw [if_pos hc] at hf
    refine lv_iload hx hb dL_law_945 (lv_at hl 1 rfl) ?_
    refine lv_if_ne (tgt := 962) hx hb dL_law_947 (by decide) (fun hc => ?_) (fun hc => ?_)
    · rw [if_neg hc] at hf
      refine lv_goto (tgt := 1476) hx hb dL_law_962 (by decide) ?_
      refine lv_iinc (v := v4 + 5) (lv' := [(4, .int (v4 + 5)), (6, .int z36.1), (5, .int z34.1), (0, .ref b), (1, .ref h0), (2, .ref a0), (3, .ref c0)]) hx hb dL_law_1476 hl (k := 6) rfl rfl (by decide) rfl (fun ls hl => ?_)
      refine lv_goto (tgt := 23) hx hb dL_law_1479 (by decide) ?_
      exact hk23 (v4 + 5) x z36.2 z34.2 hf H locs ad35 _ _ (by omega) (by omega) hw _ (lv_sub hl [3, 4, 5, 6, 0] rfl)
    · rw [if_pos hc] at hf
      refine lv_aload_n hx hb dL_law_950 rfl (lv_at hl 5 rfl) ?_
      refine lv_iconst (v := 0) hx hb dL_law_951 (by decide) ?_
      obtain ⟨g, hf⟩ := gi_s hf
      refine x_lald E hw.1 33 rfl g dL_law_952 ?_
      refine lv_iload hx hb dL_law_953 (lv_at hl 0 rfl) ?_
      refine lv_i2l (v := z36.1.toInt64) hx hb dL_law_955 rfl ?_
      refine W.lcmp hx hb dL_law_956 ?_
      refine lv_if_eq (tgt := 962) hx hb dL_law_957 (by decide) (fun hc => ?_) (fun hc => ?_)
      · rw [if_pos hc] at hf
        refine lv_goto (tgt := 1476) hx hb dL_law_962 (by decide) ?_
        refine lv_iinc (v := v4 + 5) (lv' := [(4, .int (v4 + 5)), (6, .int z36.1), (5, .int z34.1), (0, .ref b), (1, .ref h0), (2, .ref a0), (3, .ref c0)]) hx hb dL_law_1476 hl (k := 6) rfl rfl (by decide) rfl (fun ls hl => ?_)
        refine lv_goto (tgt := 23) hx hb dL_law_1479 (by decide) ?_
        exact hk23 (v4 + 5) x z36.2 z34.2 hf H locs ad35 _ _ (by omega) (by omega) hw _ (lv_sub hl [3, 4, 5, 6, 0] rfl)
      · rw [if_neg hc] at hf
        refine lv_iconst (v := 0) hx hb dL_law_960 (by decide) ?_
        exact absurd (Option.some.inj hf) (by decide)
  · rw [if_neg hc] at hf
    refine lv_iconst (v := 0) hx hb dL_law_943 (by decide) ?_
    exact absurd (Option.some.inj hf) (by decide)
set_option maxRecDepth 100000 in
set_option maxHeartbeats 4000000 in
theorem k_L_law_965 {p : Program} {l : Launch} {e : Env} {s : State} {m : MethodId} {below : List Frame} {meth : Method} {c : Code} {D : va_G} {I J O : ClassId} {b L : Nat} {xs : Fn} {h0 b0 b1 hh : Nat} {a0 a1 a2 a3 a4 a5 c0 : Nat} (E : fx p s m #[Value.ref b] meth c cL_law RL 9 ret D I J O) (hfl : l.stackTraces = false) (hXE : XE s) (hXs : va_X b L xs s s.heap) (hbl : b < s.heap.size) (n t : Nat → Nat) (ha : Nat) {fu : Nat} (k23 : Int32 → ClC → MdC → FnL → Option Int32) (hk23 : ∀ (v4 : Int32) (x : ClC) (o : MdC) (w : FnL), k23 v4 x o w = some 1 → ∀ (H : Heap) (locs : List Loc) (ad : Nat → Nat → Nat) (cells slots : Nat), cells + (fu) ≤ 601024 → slots + 6 * (fu) ≤ 7293034 → fy D (fun q : Nat => s.heap.size ≤ q) s.heap H locs (wCl I h0 n t b0 b1 hh x ++ wMd I a0 a1 a2 a3 a4 a5 o ++ wLo J c0 1 w ++ wHi I O hh ha ad x.2.2.1) → ∀ ls : Array Slot, lv_has ls 9 [(0, .ref b), (1, .ref h0), (2, .ref a0), (3, .ref c0), (4, .int v4)] → W p l e room_1 s m #[Value.ref b] below meth c H locs cells slots (lw_Z below #[Value.ref b] s) (F0 m 23 ls [])) : ∀ (v4 : Int32) (x : ClC) (o : MdC) (w : FnL), f_L_law_965 L xs k23 v4 x o w = some 1 → ∀ (H : Heap) (locs : List Loc) (ad : Nat → Nat → Nat) (cells slots : Nat), cells + (fu + 1) ≤ 601024 → slots + 6 * (fu + 1) ≤ 7293034 → fy D (fun q : Nat => s.heap.size ≤ q) s.heap H locs (wCl I h0 n t b0 b1 hh x ++ wMd I a0 a1 a2 a3 a4 a5 o ++ wLo J c0 1 w ++ wHi I O hh ha ad x.2.2.1) → ∀ ls : Array Slot, lv_has ls 9 [(0, .ref b), (1, .ref h0), (2, .ref a0), (3, .ref c0), (4, .int v4)] → W p l e room_1 s m #[Value.ref b] below meth c H locs cells slots (lw_Z below #[Value.ref b] s) (F0 m 965 ls []) := by
  have hx := E.1
  have hb := E.2.1
  have hbA : ¬ (fun q : Nat => s.heap.size ≤ q) b := Nat.not_le.mpr hbl
  intro v4 x o w hf H locs ad cells slots hcs hss hw ls hl
  unfold f_L_law_965 at hf
  refine lv_aload_n hx hb dL_law_965 rfl (lv_at hl 1 rfl) ?_
  refine lv_aload_n hx hb dL_law_966 rfl (lv_at hl 0 rfl) ?_
  refine lv_iload hx hb dL_law_967 (lv_at hl 4 rfl) ?_
  refine lv_iconst (v := 1) hx hb dL_law_969 (by decide) ?_
  refine lv_iadd hx hb dL_law_970 ?_
  obtain ⟨g, hf⟩ := gi_s hf
  refine va_sld hx hb hXs hbl hbA hw.2.2.1 g dL_law_971 ?_
  refine lv_aload_n hx hb dL_law_972 rfl (lv_at hl 0 rfl) ?_
  refine lv_iload hx hb dL_law_973 (lv_at hl 4 rfl) ?_
  refine lv_iconst (v := 2) hx hb dL_law_975 (by decide) ?_
  refine lv_iadd hx hb dL_law_976 ?_
  obtain ⟨g, hf⟩ := gi_s hf
  refine va_sld hx hb hXs hbl hbA hw.2.2.1 g dL_law_977 ?_
  refine lv_aload_n hx hb dL_law_978 rfl (lv_at hl 3 rfl) ?_
  obtain ⟨z30, h, hf⟩ := bd_s hf
  have hw : fy D (fun q : Nat => s.heap.size ≤ q) s.heap H locs ((wCl I h0 n t b0 b1 hh x ++ wLo J c0 1 w) ++ (wMd I a0 a1 a2 a3 a4 a5 o) ++ wHi I O hh ha ad x.2.2.1) := hw.part [0, 1, 2, 3, 4, 5, 6, 7, 8, 9, 10, 11, 12, 13, 14, 15, 16, 17, 18, 19, 20, 21, 22, 23, 24, 25, 26, 33, 27, 28, 29, 30, 31, 32] rfl rfl
  refine x_miFP hw (x_rW E (As := [.ref h0, .int (xs (v4 + 1).toNatClampNeg), .int (xs (v4 + 2).toNatClampNeg), .ref c0]) (rest := []) (mt_L_cell l hfl D I J O h0 n t b0 b1 hh ha ad c0 H.size (xs (v4 + 1).toNatClampNeg) (xs (v4 + 2).toNatClampNeg) x w z30.1 z30.2 h) blW (x_pcWPF E hXE hw) ok_L_cell q763 rfl hl.1 rfl (Nat.le_of_ble_eq_true rfl) ⟨Nat.le_of_ble_eq_true rfl, Nat.le_of_ble_eq_true rfl⟩ ⟨(show cells + 1 ≤ 601024 by omega), (show slots + 6 ≤ 7293034 by omega)⟩ dL_law_979) (fun _ => rfl) (fun ad31 H locs hw => ?_)
  have hw : fy D (fun q : Nat => s.heap.size ≤ q) s.heap H locs ((wCl I h0 n t b0 b1 hh x ++ wLo J c0 1 z30.2) ++ (wMd I a0 a1 a2 a3 a4 a5 o) ++ wHi I O hh ha ad31 x.2.2.1) := hw
  have hw : fy D (fun q : Nat => s.heap.size ≤ q) s.heap H locs (wCl I h0 n t b0 b1 hh x ++ wMd I a0 a1 a2 a3 a4 a5 o ++ wLo J c0 1 z30.2 ++ wHi I O hh ha ad31 x.2.2.1) := hw.part [0, 1, 2, 3, 4, 5, 6, 7, 8, 9, 10, 11, 12, 13, 14, 15, 16, 17, 18, 19, 20, 21, 22, 23, 24, 25, 26, 28, 29, 30, 31, 32, 33, 27] rfl rfl
  have hw : fy D (fun q : Nat => s.heap.size ≤ q) s.heap H locs (wCl I h0 n t b0 b1 hh x ++ wMd I a0 a1 a2 a3 a4 a5 o ++ wLo J c0 1 z30.2 ++ wHi I O hh ha ad31 x.2.2.1) := hw
  refine lv_istore (lv' := [(5, .int z30.1), (0, .ref b), (1, .ref h0), (2, .ref a0), (3, .ref c0), (4, .int v4)]) hx hb dL_law_982 hl (by decide) rfl (fun ls hl => ?_)
  refine lv_aload_n hx hb dL_law_984 rfl (lv_at hl 3 rfl) ?_
  refine lv_aload_n hx hb dL_law_985 rfl (lv_at hl 1 rfl) ?_
  refine lv_iload hx hb dL_law_986 (lv_at hl 5 rfl) ?_
  refine lv_iconst (v := 1) hx hb dL_law_988 (by decide) ?_
  refine lv_iadd hx hb dL_law_989 ?_
  obtain ⟨g, hf⟩ := gi_s hf
  refine va_sld hx hb hXs hbl hbA hw.2.2.1 g dL_law_990 ?_
  refine lv_aload_n hx hb dL_law_991 rfl (lv_at hl 1 rfl) ?_
  refine lv_iload hx hb dL_law_992 (lv_at hl 5 rfl) ?_
  refine lv_iconst (v := 2) hx hb dL_law_994 (by decide) ?_
  refine lv_iadd hx hb dL_law_995 ?_
  obtain ⟨g, hf⟩ := gi_s hf
  refine va_sld hx hb hXs hbl hbA hw.2.2.1 g dL_law_996 ?_
  obtain ⟨z32, h, hf⟩ := bd_s hf
  refine x_mi hw [27, 28, 29, 30, 31, 32] rfl rfl (x_rV E (As := [.int (xs (v4 + 1).toNatClampNeg), .int (xs (v4 + 2).toNatClampNeg)]) (rest := []) (mt_X6_cell l D I J O a0 a1 a2 a3 a4 a5 H.size (xs (v4 + 1).toNatClampNeg) (xs (v4 + 2).toNatClampNeg) o z32.1 z32.2 h) blM (x_recv E hw.1 27 6 rfl rfl rfl) (x_pcMQ E hw [27, 28, 29, 30, 31, 32] rfl rfl) ok_X6_cell q1019 rfl hl.1 rfl (Nat.le_of_ble_eq_true rfl) ⟨Nat.le_of_ble_eq_true rfl, Nat.le_of_ble_eq_true rfl⟩ ⟨(show cells + 1 + 0 ≤ 601024 by omega), (show slots + 6 + 0 ≤ 7293034 by omega)⟩ dL_law_997) (fun _ => rfl) (fun _ H locs hw => ?_)
  have hw : fy D (fun q : Nat => s.heap.size ≤ q) s.heap H locs (wCl I h0 n t b0 b1 hh x ++ wMd I a0 a1 a2 a3 a4 a5 z32.2 ++ wLo J c0 1 z30.2 ++ wHi I O hh ha ad31 x.2.2.1) := hw
  refine lv_istore (lv' := [(6, .int z32.1), (5, .int z30.1), (0, .ref b), (1, .ref h0), (2, .ref a0), (3, .ref c0), (4, .int v4)]) hx hb dL_law_1000 hl (by decide) rfl (fun ls hl => ?_)
  refine lv_aload_n hx hb dL_law_1002 rfl (lv_at hl 4 rfl) ?_
  obtain ⟨z33, h, hf⟩ := bd_s hf
  refine x_ci (x_rV E (As := []) (rest := []) (mt_X6_thrown l D I J O a0 a1 a2 a3 a4 a5 z32.2 z33 h) blR (x_recv E hw.1 27 6 rfl rfl rfl) (x_pcR E (x_pick hw.1 [27, 28, 29, 30, 31, 32] rfl)) ok_X6_thrown q835 rfl hl.1 rfl (Nat.le_of_ble_eq_true rfl) ⟨Nat.le_of_ble_eq_true rfl, Nat.le_of_ble_eq_true rfl⟩ ⟨(show cells + 1 + 0 + 0 ≤ 601024 by omega), (show slots + 6 + 0 + 0 ≤ 7293034 by omega)⟩ dL_law_1003) ?_
  refine lv_iload hx hb dL_law_1006 (lv_at hl 1 rfl) ?_
  refine lv_icmp_eq (tgt := 1013) hx hb dL_law_1008 (by decide) (fun hc => ?_) (fun hc => ?_)
  · rw [if_pos hc] at hf
    refine lv_iload hx hb dL_law_1013 (lv_at hl 1 rfl) ?_
    refine lv_if_ne (tgt := 1030) hx hb dL_law_1015 (by decide) (fun hc => ?_) (fun hc => ?_)
    · rw [if_neg hc] at hf
      refine lv_goto (tgt := 1476) hx hb dL_law_1030 (by decide) ?_
      refine lv_iinc (v := v4 + 5) (lv' := [(4, .int (v4 + 5)), (6, .int z32.1), (5, .int z30.1), (0, .ref b), (1, .ref h0), (2, .ref a0), (3, .ref c0)]) hx hb dL_law_1476 hl (k := 6) rfl rfl (by decide) rfl (fun ls hl => ?_)
      refine lv_goto (tgt := 23) hx hb dL_law_1479 (by decide) ?_
      exact hk23 (v4 + 5) x z32.2 z30.2 hf H locs ad31 _ _ (by omega) (by omega) hw _ (lv_sub hl [3, 4, 5, 6, 0] rfl)
    · rw [if_pos hc] at hf
      refine lv_aload_n hx hb dL_law_1018 rfl (lv_at hl 5 rfl) ?_
      refine lv_iconst (v := 0) hx hb dL_law_1019 (by decide) ?_
      obtain ⟨g, hf⟩ := gi_s hf
      refine x_lald E hw.1 33 rfl g dL_law_1020 ?_
      refine lv_iload hx hb dL_law_1021 (lv_at hl 0 rfl) ?_
      refine lv_i2l (v := z32.1.toInt64) hx hb dL_law_1023 rfl ?_
      refine W.lcmp hx hb dL_law_1024 ?_
      refine lv_if_eq (tgt := 1030) hx hb dL_law_1025 (by decide) (fun hc => ?_) (fun hc => ?_)
      · rw [if_pos hc] at hf
        refine lv_goto (tgt := 1476) hx hb dL_law_1030 (by decide) ?_
        refine lv_iinc (v := v4 + 5) (lv' := [(4, .int (v4 + 5)), (6, .int z32.1), (5, .int z30.1), (0, .ref b), (1, .ref h0), (2, .ref a0), (3, .ref c0)]) hx hb dL_law_1476 hl (k := 6) rfl rfl (by decide) rfl (fun ls hl => ?_)
        refine lv_goto (tgt := 23) hx hb dL_law_1479 (by decide) ?_
        exact hk23 (v4 + 5) x z32.2 z30.2 hf H locs ad31 _ _ (by omega) (by omega) hw _ (lv_sub hl [3, 4, 5, 6, 0] rfl)
      · rw [if_neg hc] at hf
        refine lv_iconst (v := 0) hx hb dL_law_1028 (by decide) ?_
        exact absurd (Option.some.inj hf) (by decide)
  · rw [if_neg hc] at hf
    refine lv_iconst (v := 0) hx hb dL_law_1011 (by decide) ?_
    exact absurd (Option.some.inj hf) (by decide)
set_option maxRecDepth 100000 in
set_option maxHeartbeats 4000000 in
theorem k_L_law_1033 {p : Program} {l : Launch} {e : Env} {s : State} {m : MethodId} {below : List Frame} {meth : Method} {c : Code} {D : va_G} {I J O : ClassId} {b L : Nat} {xs : Fn} {h0 b0 b1 hh : Nat} {a0 a1 a2 a3 a4 a5 c0 : Nat} (E : fx p s m #[Value.ref b] meth c cL_law RL 9 ret D I J O) (hfl : l.stackTraces = false) (hXE : XE s) (hXs : va_X b L xs s s.heap) (hbl : b < s.heap.size) (n t : Nat → Nat) (ha : Nat) {fu : Nat} (k23 : Int32 → ClC → MdC → FnL → Option Int32) (hk23 : ∀ (v4 : Int32) (x : ClC) (o : MdC) (w : FnL), k23 v4 x o w = some 1 → ∀ (H : Heap) (locs : List Loc) (ad : Nat → Nat → Nat) (cells slots : Nat), cells + (fu) ≤ 601024 → slots + 6 * (fu) ≤ 7293034 → fy D (fun q : Nat => s.heap.size ≤ q) s.heap H locs (wCl I h0 n t b0 b1 hh x ++ wMd I a0 a1 a2 a3 a4 a5 o ++ wLo J c0 1 w ++ wHi I O hh ha ad x.2.2.1) → ∀ ls : Array Slot, lv_has ls 9 [(0, .ref b), (1, .ref h0), (2, .ref a0), (3, .ref c0), (4, .int v4)] → W p l e room_1 s m #[Value.ref b] below meth c H locs cells slots (lw_Z below #[Value.ref b] s) (F0 m 23 ls [])) : ∀ (v4 : Int32) (x : ClC) (o : MdC) (w : FnL), f_L_law_1033 L xs k23 v4 x o w = some 1 → ∀ (H : Heap) (locs : List Loc) (ad : Nat → Nat → Nat) (cells slots : Nat), cells + (fu + 1) ≤ 601024 → slots + 6 * (fu + 1) ≤ 7293034 → fy D (fun q : Nat => s.heap.size ≤ q) s.heap H locs (wCl I h0 n t b0 b1 hh x ++ wMd I a0 a1 a2 a3 a4 a5 o ++ wLo J c0 1 w ++ wHi I O hh ha ad x.2.2.1) → ∀ ls : Array Slot, lv_has ls 9 [(0, .ref b), (1, .ref h0), (2, .ref a0), (3, .ref c0), (4, .int v4)] → W p l e room_1 s m #[Value.ref b] below meth c H locs cells slots (lw_Z below #[Value.ref b] s) (F0 m 1033 ls []) := by
  have hx := E.1
  have hb := E.2.1
  have hbA : ¬ (fun q : Nat => s.heap.size ≤ q) b := Nat.not_le.mpr hbl
  intro v4 x o w hf H locs ad cells slots hcs hss hw ls hl
  unfold f_L_law_1033 at hf
  refine lv_aload_n hx hb dL_law_1033 rfl (lv_at hl 1 rfl) ?_
  refine lv_aload_n hx hb dL_law_1034 rfl (lv_at hl 0 rfl) ?_
  refine lv_iload hx hb dL_law_1035 (lv_at hl 4 rfl) ?_
  refine lv_iconst (v := 1) hx hb dL_law_1037 (by decide) ?_
  refine lv_iadd hx hb dL_law_1038 ?_
  obtain ⟨g, hf⟩ := gi_s hf
  refine va_sld hx hb hXs hbl hbA hw.2.2.1 g dL_law_1039 ?_
  refine lv_aload_n hx hb dL_law_1040 rfl (lv_at hl 0 rfl) ?_
  refine lv_iload hx hb dL_law_1041 (lv_at hl 4 rfl) ?_
  refine lv_iconst (v := 2) hx hb dL_law_1043 (by decide) ?_
  refine lv_iadd hx hb dL_law_1044 ?_
  obtain ⟨g, hf⟩ := gi_s hf
  refine va_sld hx hb hXs hbl hbA hw.2.2.1 g dL_law_1045 ?_
  refine lv_aload_n hx hb dL_law_1046 rfl (lv_at hl 3 rfl) ?_
  obtain ⟨z26, h, hf⟩ := bd_s hf
  have hw : fy D (fun q : Nat => s.heap.size ≤ q) s.heap H locs ((wCl I h0 n t b0 b1 hh x ++ wLo J c0 1 w) ++ (wMd I a0 a1 a2 a3 a4 a5 o) ++ wHi I O hh ha ad x.2.2.1) := hw.part [0, 1, 2, 3, 4, 5, 6, 7, 8, 9, 10, 11, 12, 13, 14, 15, 16, 17, 18, 19, 20, 21, 22, 23, 24, 25, 26, 33, 27, 28, 29, 30, 31, 32] rfl rfl
  refine x_miFP hw (x_rW E (As := [.ref h0, .int (xs (v4 + 1).toNatClampNeg), .int (xs (v4 + 2).toNatClampNeg), .ref c0]) (rest := []) (mt_L_walker l hfl D I J O h0 n t b0 b1 hh ha ad c0 H.size (xs (v4 + 1).toNatClampNeg) (xs (v4 + 2).toNatClampNeg) x w z26.1 z26.2 h) blW (x_pcWPF E hXE hw) ok_L_walker q767 rfl hl.1 rfl (Nat.le_of_ble_eq_true rfl) ⟨Nat.le_of_ble_eq_true rfl, Nat.le_of_ble_eq_true rfl⟩ ⟨(show cells + 1 ≤ 601024 by omega), (show slots + 6 ≤ 7293034 by omega)⟩ dL_law_1047) (fun _ => rfl) (fun ad27 H locs hw => ?_)
  have hw : fy D (fun q : Nat => s.heap.size ≤ q) s.heap H locs ((wCl I h0 n t b0 b1 hh x ++ wLo J c0 1 z26.2) ++ (wMd I a0 a1 a2 a3 a4 a5 o) ++ wHi I O hh ha ad27 x.2.2.1) := hw
  have hw : fy D (fun q : Nat => s.heap.size ≤ q) s.heap H locs (wCl I h0 n t b0 b1 hh x ++ wMd I a0 a1 a2 a3 a4 a5 o ++ wLo J c0 1 z26.2 ++ wHi I O hh ha ad27 x.2.2.1) := hw.part [0, 1, 2, 3, 4, 5, 6, 7, 8, 9, 10, 11, 12, 13, 14, 15, 16, 17, 18, 19, 20, 21, 22, 23, 24, 25, 26, 28, 29, 30, 31, 32, 33, 27] rfl rfl
  have hw : fy D (fun q : Nat => s.heap.size ≤ q) s.heap H locs (wCl I h0 n t b0 b1 hh x ++ wMd I a0 a1 a2 a3 a4 a5 o ++ wLo J c0 1 z26.2 ++ wHi I O hh ha ad27 x.2.2.1) := hw
  refine lv_istore (lv' := [(5, .int z26.1), (0, .ref b), (1, .ref h0), (2, .ref a0), (3, .ref c0), (4, .int v4)]) hx hb dL_law_1050 hl (by decide) rfl (fun ls hl => ?_)
  refine lv_aload_n hx hb dL_law_1052 rfl (lv_at hl 3 rfl) ?_
  refine lv_aload_n hx hb dL_law_1053 rfl (lv_at hl 1 rfl) ?_
  refine lv_iload hx hb dL_law_1054 (lv_at hl 5 rfl) ?_
  refine lv_iconst (v := 1) hx hb dL_law_1056 (by decide) ?_
  refine lv_iadd hx hb dL_law_1057 ?_
  obtain ⟨g, hf⟩ := gi_s hf
  refine va_sld hx hb hXs hbl hbA hw.2.2.1 g dL_law_1058 ?_
  refine lv_aload_n hx hb dL_law_1059 rfl (lv_at hl 1 rfl) ?_
  refine lv_iload hx hb dL_law_1060 (lv_at hl 5 rfl) ?_
  refine lv_iconst (v := 2) hx hb dL_law_1062 (by decide) ?_
  refine lv_iadd hx hb dL_law_1063 ?_
  obtain ⟨g, hf⟩ := gi_s hf
  refine va_sld hx hb hXs hbl hbA hw.2.2.1 g dL_law_1064 ?_
  obtain ⟨z28, h, hf⟩ := bd_s hf
  refine x_mi hw [27, 28, 29, 30, 31, 32] rfl rfl (x_rV E (As := [.int (xs (v4 + 1).toNatClampNeg), .int (xs (v4 + 2).toNatClampNeg)]) (rest := []) (mt_X6_walker l D I J O a0 a1 a2 a3 a4 a5 H.size (xs (v4 + 1).toNatClampNeg) (xs (v4 + 2).toNatClampNeg) o z28.1 z28.2 h) blM (x_recv E hw.1 27 6 rfl rfl rfl) (x_pcMQ E hw [27, 28, 29, 30, 31, 32] rfl rfl) ok_X6_walker q1027 rfl hl.1 rfl (Nat.le_of_ble_eq_true rfl) ⟨Nat.le_of_ble_eq_true rfl, Nat.le_of_ble_eq_true rfl⟩ ⟨(show cells + 1 + 0 ≤ 601024 by omega), (show slots + 6 + 0 ≤ 7293034 by omega)⟩ dL_law_1065) (fun _ => rfl) (fun _ H locs hw => ?_)
  have hw : fy D (fun q : Nat => s.heap.size ≤ q) s.heap H locs (wCl I h0 n t b0 b1 hh x ++ wMd I a0 a1 a2 a3 a4 a5 z28.2 ++ wLo J c0 1 z26.2 ++ wHi I O hh ha ad27 x.2.2.1) := hw
  refine lv_istore (lv' := [(6, .int z28.1), (5, .int z26.1), (0, .ref b), (1, .ref h0), (2, .ref a0), (3, .ref c0), (4, .int v4)]) hx hb dL_law_1068 hl (by decide) rfl (fun ls hl => ?_)
  refine lv_aload_n hx hb dL_law_1070 rfl (lv_at hl 4 rfl) ?_
  obtain ⟨z29, h, hf⟩ := bd_s hf
  refine x_ci (x_rV E (As := []) (rest := []) (mt_X6_thrown l D I J O a0 a1 a2 a3 a4 a5 z28.2 z29 h) blR (x_recv E hw.1 27 6 rfl rfl rfl) (x_pcR E (x_pick hw.1 [27, 28, 29, 30, 31, 32] rfl)) ok_X6_thrown q835 rfl hl.1 rfl (Nat.le_of_ble_eq_true rfl) ⟨Nat.le_of_ble_eq_true rfl, Nat.le_of_ble_eq_true rfl⟩ ⟨(show cells + 1 + 0 + 0 ≤ 601024 by omega), (show slots + 6 + 0 + 0 ≤ 7293034 by omega)⟩ dL_law_1071) ?_
  refine lv_iload hx hb dL_law_1074 (lv_at hl 1 rfl) ?_
  refine lv_icmp_eq (tgt := 1081) hx hb dL_law_1076 (by decide) (fun hc => ?_) (fun hc => ?_)
  · rw [if_pos hc] at hf
    refine lv_iload hx hb dL_law_1081 (lv_at hl 1 rfl) ?_
    refine lv_if_ne (tgt := 1098) hx hb dL_law_1083 (by decide) (fun hc => ?_) (fun hc => ?_)
    · rw [if_neg hc] at hf
      refine lv_goto (tgt := 1476) hx hb dL_law_1098 (by decide) ?_
      refine lv_iinc (v := v4 + 5) (lv' := [(4, .int (v4 + 5)), (6, .int z28.1), (5, .int z26.1), (0, .ref b), (1, .ref h0), (2, .ref a0), (3, .ref c0)]) hx hb dL_law_1476 hl (k := 6) rfl rfl (by decide) rfl (fun ls hl => ?_)
      refine lv_goto (tgt := 23) hx hb dL_law_1479 (by decide) ?_
      exact hk23 (v4 + 5) x z28.2 z26.2 hf H locs ad27 _ _ (by omega) (by omega) hw _ (lv_sub hl [3, 4, 5, 6, 0] rfl)
    · rw [if_pos hc] at hf
      refine lv_aload_n hx hb dL_law_1086 rfl (lv_at hl 5 rfl) ?_
      refine lv_iconst (v := 0) hx hb dL_law_1087 (by decide) ?_
      obtain ⟨g, hf⟩ := gi_s hf
      refine x_lald E hw.1 33 rfl g dL_law_1088 ?_
      refine lv_iload hx hb dL_law_1089 (lv_at hl 0 rfl) ?_
      refine lv_i2l (v := z28.1.toInt64) hx hb dL_law_1091 rfl ?_
      refine W.lcmp hx hb dL_law_1092 ?_
      refine lv_if_eq (tgt := 1098) hx hb dL_law_1093 (by decide) (fun hc => ?_) (fun hc => ?_)
      · rw [if_pos hc] at hf
        refine lv_goto (tgt := 1476) hx hb dL_law_1098 (by decide) ?_
        refine lv_iinc (v := v4 + 5) (lv' := [(4, .int (v4 + 5)), (6, .int z28.1), (5, .int z26.1), (0, .ref b), (1, .ref h0), (2, .ref a0), (3, .ref c0)]) hx hb dL_law_1476 hl (k := 6) rfl rfl (by decide) rfl (fun ls hl => ?_)
        refine lv_goto (tgt := 23) hx hb dL_law_1479 (by decide) ?_
        exact hk23 (v4 + 5) x z28.2 z26.2 hf H locs ad27 _ _ (by omega) (by omega) hw _ (lv_sub hl [3, 4, 5, 6, 0] rfl)
      · rw [if_neg hc] at hf
        refine lv_iconst (v := 0) hx hb dL_law_1096 (by decide) ?_
        exact absurd (Option.some.inj hf) (by decide)
  · rw [if_neg hc] at hf
    refine lv_iconst (v := 0) hx hb dL_law_1079 (by decide) ?_
    exact absurd (Option.some.inj hf) (by decide)
set_option maxRecDepth 100000 in
set_option maxHeartbeats 4000000 in
theorem k_L_law_1101 {p : Program} {l : Launch} {e : Env} {s : State} {m : MethodId} {below : List Frame} {meth : Method} {c : Code} {D : va_G} {I J O : ClassId} {b L : Nat} {xs : Fn} {h0 b0 b1 hh : Nat} {a0 a1 a2 a3 a4 a5 c0 : Nat} (E : fx p s m #[Value.ref b] meth c cL_law RL 9 ret D I J O) (hfl : l.stackTraces = false) (hXE : XE s) (hXs : va_X b L xs s s.heap) (hbl : b < s.heap.size) (n t : Nat → Nat) (ha : Nat) {fu : Nat} (k23 : Int32 → ClC → MdC → FnL → Option Int32) (hk23 : ∀ (v4 : Int32) (x : ClC) (o : MdC) (w : FnL), k23 v4 x o w = some 1 → ∀ (H : Heap) (locs : List Loc) (ad : Nat → Nat → Nat) (cells slots : Nat), cells + (fu) ≤ 601024 → slots + 6 * (fu) ≤ 7293034 → fy D (fun q : Nat => s.heap.size ≤ q) s.heap H locs (wCl I h0 n t b0 b1 hh x ++ wMd I a0 a1 a2 a3 a4 a5 o ++ wLo J c0 1 w ++ wHi I O hh ha ad x.2.2.1) → ∀ ls : Array Slot, lv_has ls 9 [(0, .ref b), (1, .ref h0), (2, .ref a0), (3, .ref c0), (4, .int v4)] → W p l e room_1 s m #[Value.ref b] below meth c H locs cells slots (lw_Z below #[Value.ref b] s) (F0 m 23 ls [])) : ∀ (v4 : Int32) (x : ClC) (o : MdC) (w : FnL), f_L_law_1101 L xs k23 v4 x o w = some 1 → ∀ (H : Heap) (locs : List Loc) (ad : Nat → Nat → Nat) (cells slots : Nat), cells + (fu + 1) ≤ 601024 → slots + 6 * (fu + 1) ≤ 7293034 → fy D (fun q : Nat => s.heap.size ≤ q) s.heap H locs (wCl I h0 n t b0 b1 hh x ++ wMd I a0 a1 a2 a3 a4 a5 o ++ wLo J c0 1 w ++ wHi I O hh ha ad x.2.2.1) → ∀ ls : Array Slot, lv_has ls 9 [(0, .ref b), (1, .ref h0), (2, .ref a0), (3, .ref c0), (4, .int v4)] → W p l e room_1 s m #[Value.ref b] below meth c H locs cells slots (lw_Z below #[Value.ref b] s) (F0 m 1101 ls []) := by
  have hx := E.1
  have hb := E.2.1
  have hbA : ¬ (fun q : Nat => s.heap.size ≤ q) b := Nat.not_le.mpr hbl
  intro v4 x o w hf H locs ad cells slots hcs hss hw ls hl
  unfold f_L_law_1101 at hf
  refine lv_aload_n hx hb dL_law_1101 rfl (lv_at hl 1 rfl) ?_
  refine lv_aload_n hx hb dL_law_1102 rfl (lv_at hl 0 rfl) ?_
  refine lv_iload hx hb dL_law_1103 (lv_at hl 4 rfl) ?_
  refine lv_iconst (v := 1) hx hb dL_law_1105 (by decide) ?_
  refine lv_iadd hx hb dL_law_1106 ?_
  obtain ⟨g, hf⟩ := gi_s hf
  refine va_sld hx hb hXs hbl hbA hw.2.2.1 g dL_law_1107 ?_
  refine lv_aload_n hx hb dL_law_1108 rfl (lv_at hl 3 rfl) ?_
  obtain ⟨z22, h, hf⟩ := bd_s hf
  have hw : fy D (fun q : Nat => s.heap.size ≤ q) s.heap H locs ((wCl I h0 n t b0 b1 hh x ++ wLo J c0 1 w) ++ (wMd I a0 a1 a2 a3 a4 a5 o) ++ wHi I O hh ha ad x.2.2.1) := hw.part [0, 1, 2, 3, 4, 5, 6, 7, 8, 9, 10, 11, 12, 13, 14, 15, 16, 17, 18, 19, 20, 21, 22, 23, 24, 25, 26, 33, 27, 28, 29, 30, 31, 32] rfl rfl
  refine x_miFP hw (x_rW E (As := [.ref h0, .int (xs (v4 + 1).toNatClampNeg), .ref c0]) (rest := []) (mt_L_count l hfl D I J O h0 n t b0 b1 hh ha ad c0 H.size (xs (v4 + 1).toNatClampNeg) x w z22.1 z22.2 h) blW (x_pcWPF E hXE hw) ok_L_count q771 rfl hl.1 rfl (Nat.le_of_ble_eq_true rfl) ⟨Nat.le_of_ble_eq_true rfl, Nat.le_of_ble_eq_true rfl⟩ ⟨(show cells + 1 ≤ 601024 by omega), (show slots + 6 ≤ 7293034 by omega)⟩ dL_law_1109) (fun _ => rfl) (fun ad23 H locs hw => ?_)
  have hw : fy D (fun q : Nat => s.heap.size ≤ q) s.heap H locs ((wCl I h0 n t b0 b1 hh x ++ wLo J c0 1 z22.2) ++ (wMd I a0 a1 a2 a3 a4 a5 o) ++ wHi I O hh ha ad23 x.2.2.1) := hw
  have hw : fy D (fun q : Nat => s.heap.size ≤ q) s.heap H locs (wCl I h0 n t b0 b1 hh x ++ wMd I a0 a1 a2 a3 a4 a5 o ++ wLo J c0 1 z22.2 ++ wHi I O hh ha ad23 x.2.2.1) := hw.part [0, 1, 2, 3, 4, 5, 6, 7, 8, 9, 10, 11, 12, 13, 14, 15, 16, 17, 18, 19, 20, 21, 22, 23, 24, 25, 26, 28, 29, 30, 31, 32, 33, 27] rfl rfl
  have hw : fy D (fun q : Nat => s.heap.size ≤ q) s.heap H locs (wCl I h0 n t b0 b1 hh x ++ wMd I a0 a1 a2 a3 a4 a5 o ++ wLo J c0 1 z22.2 ++ wHi I O hh ha ad23 x.2.2.1) := hw
  refine lv_istore (lv' := [(5, .int z22.1), (0, .ref b), (1, .ref h0), (2, .ref a0), (3, .ref c0), (4, .int v4)]) hx hb dL_law_1112 hl (by decide) rfl (fun ls hl => ?_)
  refine lv_aload_n hx hb dL_law_1114 rfl (lv_at hl 3 rfl) ?_
  refine lv_aload_n hx hb dL_law_1115 rfl (lv_at hl 1 rfl) ?_
  refine lv_iload hx hb dL_law_1116 (lv_at hl 5 rfl) ?_
  refine lv_iconst (v := 1) hx hb dL_law_1118 (by decide) ?_
  refine lv_iadd hx hb dL_law_1119 ?_
  obtain ⟨g, hf⟩ := gi_s hf
  refine va_sld hx hb hXs hbl hbA hw.2.2.1 g dL_law_1120 ?_
  obtain ⟨z24, h, hf⟩ := bd_s hf
  refine x_mi hw [27, 28, 29, 30, 31, 32] rfl rfl (x_rV E (As := [.int (xs (v4 + 1).toNatClampNeg)]) (rest := []) (mt_X6_count l D I J O a0 a1 a2 a3 a4 a5 H.size (xs (v4 + 1).toNatClampNeg) o z24.1 z24.2 h) blM (x_recv E hw.1 27 6 rfl rfl rfl) (x_pcMQ E hw [27, 28, 29, 30, 31, 32] rfl rfl) ok_X6_count q1039 rfl hl.1 rfl (Nat.le_of_ble_eq_true rfl) ⟨Nat.le_of_ble_eq_true rfl, Nat.le_of_ble_eq_true rfl⟩ ⟨(show cells + 1 + 0 ≤ 601024 by omega), (show slots + 6 + 0 ≤ 7293034 by omega)⟩ dL_law_1121) (fun _ => rfl) (fun _ H locs hw => ?_)
  have hw : fy D (fun q : Nat => s.heap.size ≤ q) s.heap H locs (wCl I h0 n t b0 b1 hh x ++ wMd I a0 a1 a2 a3 a4 a5 z24.2 ++ wLo J c0 1 z22.2 ++ wHi I O hh ha ad23 x.2.2.1) := hw
  refine lv_istore (lv' := [(6, .int z24.1), (5, .int z22.1), (0, .ref b), (1, .ref h0), (2, .ref a0), (3, .ref c0), (4, .int v4)]) hx hb dL_law_1124 hl (by decide) rfl (fun ls hl => ?_)
  refine lv_aload_n hx hb dL_law_1126 rfl (lv_at hl 4 rfl) ?_
  obtain ⟨z25, h, hf⟩ := bd_s hf
  refine x_ci (x_rV E (As := []) (rest := []) (mt_X6_thrown l D I J O a0 a1 a2 a3 a4 a5 z24.2 z25 h) blR (x_recv E hw.1 27 6 rfl rfl rfl) (x_pcR E (x_pick hw.1 [27, 28, 29, 30, 31, 32] rfl)) ok_X6_thrown q835 rfl hl.1 rfl (Nat.le_of_ble_eq_true rfl) ⟨Nat.le_of_ble_eq_true rfl, Nat.le_of_ble_eq_true rfl⟩ ⟨(show cells + 1 + 0 + 0 ≤ 601024 by omega), (show slots + 6 + 0 + 0 ≤ 7293034 by omega)⟩ dL_law_1127) ?_
  refine lv_iload hx hb dL_law_1130 (lv_at hl 1 rfl) ?_
  refine lv_icmp_eq (tgt := 1137) hx hb dL_law_1132 (by decide) (fun hc => ?_) (fun hc => ?_)
  · rw [if_pos hc] at hf
    refine lv_iload hx hb dL_law_1137 (lv_at hl 1 rfl) ?_
    refine lv_if_ne (tgt := 1154) hx hb dL_law_1139 (by decide) (fun hc => ?_) (fun hc => ?_)
    · rw [if_neg hc] at hf
      refine lv_goto (tgt := 1476) hx hb dL_law_1154 (by decide) ?_
      refine lv_iinc (v := v4 + 5) (lv' := [(4, .int (v4 + 5)), (6, .int z24.1), (5, .int z22.1), (0, .ref b), (1, .ref h0), (2, .ref a0), (3, .ref c0)]) hx hb dL_law_1476 hl (k := 6) rfl rfl (by decide) rfl (fun ls hl => ?_)
      refine lv_goto (tgt := 23) hx hb dL_law_1479 (by decide) ?_
      exact hk23 (v4 + 5) x z24.2 z22.2 hf H locs ad23 _ _ (by omega) (by omega) hw _ (lv_sub hl [3, 4, 5, 6, 0] rfl)
    · rw [if_pos hc] at hf
      refine lv_aload_n hx hb dL_law_1142 rfl (lv_at hl 5 rfl) ?_
      refine lv_iconst (v := 0) hx hb dL_law_1143 (by decide) ?_
      obtain ⟨g, hf⟩ := gi_s hf
      refine x_lald E hw.1 33 rfl g dL_law_1144 ?_
      refine lv_iload hx hb dL_law_1145 (lv_at hl 0 rfl) ?_
      refine lv_i2l (v := z24.1.toInt64) hx hb dL_law_1147 rfl ?_
      refine W.lcmp hx hb dL_law_1148 ?_
      refine lv_if_eq (tgt := 1154) hx hb dL_law_1149 (by decide) (fun hc => ?_) (fun hc => ?_)
      · rw [if_pos hc] at hf
        refine lv_goto (tgt := 1476) hx hb dL_law_1154 (by decide) ?_
        refine lv_iinc (v := v4 + 5) (lv' := [(4, .int (v4 + 5)), (6, .int z24.1), (5, .int z22.1), (0, .ref b), (1, .ref h0), (2, .ref a0), (3, .ref c0)]) hx hb dL_law_1476 hl (k := 6) rfl rfl (by decide) rfl (fun ls hl => ?_)
        refine lv_goto (tgt := 23) hx hb dL_law_1479 (by decide) ?_
        exact hk23 (v4 + 5) x z24.2 z22.2 hf H locs ad23 _ _ (by omega) (by omega) hw _ (lv_sub hl [3, 4, 5, 6, 0] rfl)
      · rw [if_neg hc] at hf
        refine lv_iconst (v := 0) hx hb dL_law_1152 (by decide) ?_
        exact absurd (Option.some.inj hf) (by decide)
  · rw [if_neg hc] at hf
    refine lv_iconst (v := 0) hx hb dL_law_1135 (by decide) ?_
    exact absurd (Option.some.inj hf) (by decide)
set_option maxRecDepth 100000 in
set_option maxHeartbeats 4000000 in
theorem k_L_law_1157 {p : Program} {l : Launch} {e : Env} {s : State} {m : MethodId} {below : List Frame} {meth : Method} {c : Code} {D : va_G} {I J O : ClassId} {b L : Nat} {xs : Fn} {h0 b0 b1 hh : Nat} {a0 a1 a2 a3 a4 a5 c0 : Nat} (E : fx p s m #[Value.ref b] meth c cL_law RL 9 ret D I J O) (hfl : l.stackTraces = false) (hXE : XE s) (hXs : va_X b L xs s s.heap) (hbl : b < s.heap.size) (n t : Nat → Nat) (ha : Nat) {fu : Nat} (k23 : Int32 → ClC → MdC → FnL → Option Int32) (hk23 : ∀ (v4 : Int32) (x : ClC) (o : MdC) (w : FnL), k23 v4 x o w = some 1 → ∀ (H : Heap) (locs : List Loc) (ad : Nat → Nat → Nat) (cells slots : Nat), cells + (fu) ≤ 601024 → slots + 6 * (fu) ≤ 7293034 → fy D (fun q : Nat => s.heap.size ≤ q) s.heap H locs (wCl I h0 n t b0 b1 hh x ++ wMd I a0 a1 a2 a3 a4 a5 o ++ wLo J c0 1 w ++ wHi I O hh ha ad x.2.2.1) → ∀ ls : Array Slot, lv_has ls 9 [(0, .ref b), (1, .ref h0), (2, .ref a0), (3, .ref c0), (4, .int v4)] → W p l e room_1 s m #[Value.ref b] below meth c H locs cells slots (lw_Z below #[Value.ref b] s) (F0 m 23 ls [])) : ∀ (v4 : Int32) (x : ClC) (o : MdC) (w : FnL), f_L_law_1157 L xs k23 v4 x o w = some 1 → ∀ (H : Heap) (locs : List Loc) (ad : Nat → Nat → Nat) (cells slots : Nat), cells + (fu + 1) ≤ 601024 → slots + 6 * (fu + 1) ≤ 7293034 → fy D (fun q : Nat => s.heap.size ≤ q) s.heap H locs (wCl I h0 n t b0 b1 hh x ++ wMd I a0 a1 a2 a3 a4 a5 o ++ wLo J c0 1 w ++ wHi I O hh ha ad x.2.2.1) → ∀ ls : Array Slot, lv_has ls 9 [(0, .ref b), (1, .ref h0), (2, .ref a0), (3, .ref c0), (4, .int v4)] → W p l e room_1 s m #[Value.ref b] below meth c H locs cells slots (lw_Z below #[Value.ref b] s) (F0 m 1157 ls []) := by
  have hx := E.1
  have hb := E.2.1
  have hbA : ¬ (fun q : Nat => s.heap.size ≤ q) b := Nat.not_le.mpr hbl
  intro v4 x o w hf H locs ad cells slots hcs hss hw ls hl
  unfold f_L_law_1157 at hf
  refine lv_aload_n hx hb dL_law_1157 rfl (lv_at hl 1 rfl) ?_
  refine lv_aload_n hx hb dL_law_1158 rfl (lv_at hl 0 rfl) ?_
  refine lv_iload hx hb dL_law_1159 (lv_at hl 4 rfl) ?_
  refine lv_iconst (v := 1) hx hb dL_law_1161 (by decide) ?_
  refine lv_iadd hx hb dL_law_1162 ?_
  obtain ⟨g, hf⟩ := gi_s hf
  refine va_sld hx hb hXs hbl hbA hw.2.2.1 g dL_law_1163 ?_
  refine lv_aload_n hx hb dL_law_1164 rfl (lv_at hl 3 rfl) ?_
  obtain ⟨z18, h, hf⟩ := bd_s hf
  have hw : fy D (fun q : Nat => s.heap.size ≤ q) s.heap H locs ((wCl I h0 n t b0 b1 hh x ++ wLo J c0 1 w) ++ (wMd I a0 a1 a2 a3 a4 a5 o) ++ wHi I O hh ha ad x.2.2.1) := hw.part [0, 1, 2, 3, 4, 5, 6, 7, 8, 9, 10, 11, 12, 13, 14, 15, 16, 17, 18, 19, 20, 21, 22, 23, 24, 25, 26, 33, 27, 28, 29, 30, 31, 32] rfl rfl
  refine x_miFP hw (x_rW E (As := [.ref h0, .int (xs (v4 + 1).toNatClampNeg), .ref c0]) (rest := []) (mt_L_begins l hfl D I J O h0 n t b0 b1 hh ha ad c0 H.size (xs (v4 + 1).toNatClampNeg) x w z18.1 z18.2 h) blW (x_pcWPF E hXE hw) ok_L_begins q775 rfl hl.1 rfl (Nat.le_of_ble_eq_true rfl) ⟨Nat.le_of_ble_eq_true rfl, Nat.le_of_ble_eq_true rfl⟩ ⟨(show cells + 1 ≤ 601024 by omega), (show slots + 6 ≤ 7293034 by omega)⟩ dL_law_1165) (fun _ => rfl) (fun ad19 H locs hw => ?_)
  have hw : fy D (fun q : Nat => s.heap.size ≤ q) s.heap H locs ((wCl I h0 n t b0 b1 hh x ++ wLo J c0 1 z18.2) ++ (wMd I a0 a1 a2 a3 a4 a5 o) ++ wHi I O hh ha ad19 x.2.2.1) := hw
  have hw : fy D (fun q : Nat => s.heap.size ≤ q) s.heap H locs (wCl I h0 n t b0 b1 hh x ++ wMd I a0 a1 a2 a3 a4 a5 o ++ wLo J c0 1 z18.2 ++ wHi I O hh ha ad19 x.2.2.1) := hw.part [0, 1, 2, 3, 4, 5, 6, 7, 8, 9, 10, 11, 12, 13, 14, 15, 16, 17, 18, 19, 20, 21, 22, 23, 24, 25, 26, 28, 29, 30, 31, 32, 33, 27] rfl rfl
  have hw : fy D (fun q : Nat => s.heap.size ≤ q) s.heap H locs (wCl I h0 n t b0 b1 hh x ++ wMd I a0 a1 a2 a3 a4 a5 o ++ wLo J c0 1 z18.2 ++ wHi I O hh ha ad19 x.2.2.1) := hw
  refine lv_istore (lv' := [(5, .int z18.1), (0, .ref b), (1, .ref h0), (2, .ref a0), (3, .ref c0), (4, .int v4)]) hx hb dL_law_1168 hl (by decide) rfl (fun ls hl => ?_)
  refine lv_aload_n hx hb dL_law_1170 rfl (lv_at hl 3 rfl) ?_
  refine lv_aload_n hx hb dL_law_1171 rfl (lv_at hl 1 rfl) ?_
  refine lv_iload hx hb dL_law_1172 (lv_at hl 5 rfl) ?_
  refine lv_iconst (v := 1) hx hb dL_law_1174 (by decide) ?_
  refine lv_iadd hx hb dL_law_1175 ?_
  obtain ⟨g, hf⟩ := gi_s hf
  refine va_sld hx hb hXs hbl hbA hw.2.2.1 g dL_law_1176 ?_
  obtain ⟨z20, h, hf⟩ := bd_s hf
  refine x_mi hw [27, 28, 29, 30, 31, 32] rfl rfl (x_rV E (As := [.int (xs (v4 + 1).toNatClampNeg)]) (rest := []) (mt_X6_begins l D I J O a0 a1 a2 a3 a4 a5 H.size (xs (v4 + 1).toNatClampNeg) o z20.1 z20.2 h) blM (x_recv E hw.1 27 6 rfl rfl rfl) (x_pcMQ E hw [27, 28, 29, 30, 31, 32] rfl rfl) ok_X6_begins q1055 rfl hl.1 rfl (Nat.le_of_ble_eq_true rfl) ⟨Nat.le_of_ble_eq_true rfl, Nat.le_of_ble_eq_true rfl⟩ ⟨(show cells + 1 + 0 ≤ 601024 by omega), (show slots + 6 + 0 ≤ 7293034 by omega)⟩ dL_law_1177) (fun _ => rfl) (fun _ H locs hw => ?_)
  have hw : fy D (fun q : Nat => s.heap.size ≤ q) s.heap H locs (wCl I h0 n t b0 b1 hh x ++ wMd I a0 a1 a2 a3 a4 a5 z20.2 ++ wLo J c0 1 z18.2 ++ wHi I O hh ha ad19 x.2.2.1) := hw
  refine lv_istore (lv' := [(6, .int z20.1), (5, .int z18.1), (0, .ref b), (1, .ref h0), (2, .ref a0), (3, .ref c0), (4, .int v4)]) hx hb dL_law_1180 hl (by decide) rfl (fun ls hl => ?_)
  refine lv_aload_n hx hb dL_law_1182 rfl (lv_at hl 4 rfl) ?_
  obtain ⟨z21, h, hf⟩ := bd_s hf
  refine x_ci (x_rV E (As := []) (rest := []) (mt_X6_thrown l D I J O a0 a1 a2 a3 a4 a5 z20.2 z21 h) blR (x_recv E hw.1 27 6 rfl rfl rfl) (x_pcR E (x_pick hw.1 [27, 28, 29, 30, 31, 32] rfl)) ok_X6_thrown q835 rfl hl.1 rfl (Nat.le_of_ble_eq_true rfl) ⟨Nat.le_of_ble_eq_true rfl, Nat.le_of_ble_eq_true rfl⟩ ⟨(show cells + 1 + 0 + 0 ≤ 601024 by omega), (show slots + 6 + 0 + 0 ≤ 7293034 by omega)⟩ dL_law_1183) ?_
  refine lv_iload hx hb dL_law_1186 (lv_at hl 1 rfl) ?_
  refine lv_icmp_eq (tgt := 1193) hx hb dL_law_1188 (by decide) (fun hc => ?_) (fun hc => ?_)
  · rw [if_pos hc] at hf
    refine lv_iload hx hb dL_law_1193 (lv_at hl 1 rfl) ?_
    refine lv_if_ne (tgt := 1210) hx hb dL_law_1195 (by decide) (fun hc => ?_) (fun hc => ?_)
    · rw [if_neg hc] at hf
      refine lv_goto (tgt := 1476) hx hb dL_law_1210 (by decide) ?_
      refine lv_iinc (v := v4 + 5) (lv' := [(4, .int (v4 + 5)), (6, .int z20.1), (5, .int z18.1), (0, .ref b), (1, .ref h0), (2, .ref a0), (3, .ref c0)]) hx hb dL_law_1476 hl (k := 6) rfl rfl (by decide) rfl (fun ls hl => ?_)
      refine lv_goto (tgt := 23) hx hb dL_law_1479 (by decide) ?_
      exact hk23 (v4 + 5) x z20.2 z18.2 hf H locs ad19 _ _ (by omega) (by omega) hw _ (lv_sub hl [3, 4, 5, 6, 0] rfl)
    · rw [if_pos hc] at hf
      refine lv_aload_n hx hb dL_law_1198 rfl (lv_at hl 5 rfl) ?_
      refine lv_iconst (v := 0) hx hb dL_law_1199 (by decide) ?_
      obtain ⟨g, hf⟩ := gi_s hf
      refine x_lald E hw.1 33 rfl g dL_law_1200 ?_
      refine lv_iload hx hb dL_law_1201 (lv_at hl 0 rfl) ?_
      refine lv_i2l (v := z20.1.toInt64) hx hb dL_law_1203 rfl ?_
      refine W.lcmp hx hb dL_law_1204 ?_
      refine lv_if_eq (tgt := 1210) hx hb dL_law_1205 (by decide) (fun hc => ?_) (fun hc => ?_)
      · rw [if_pos hc] at hf
        refine lv_goto (tgt := 1476) hx hb dL_law_1210 (by decide) ?_
        refine lv_iinc (v := v4 + 5) (lv' := [(4, .int (v4 + 5)), (6, .int z20.1), (5, .int z18.1), (0, .ref b), (1, .ref h0), (2, .ref a0), (3, .ref c0)]) hx hb dL_law_1476 hl (k := 6) rfl rfl (by decide) rfl (fun ls hl => ?_)
        refine lv_goto (tgt := 23) hx hb dL_law_1479 (by decide) ?_
        exact hk23 (v4 + 5) x z20.2 z18.2 hf H locs ad19 _ _ (by omega) (by omega) hw _ (lv_sub hl [3, 4, 5, 6, 0] rfl)
      · rw [if_neg hc] at hf
        refine lv_iconst (v := 0) hx hb dL_law_1208 (by decide) ?_
        exact absurd (Option.some.inj hf) (by decide)
  · rw [if_neg hc] at hf
    refine lv_iconst (v := 0) hx hb dL_law_1191 (by decide) ?_
    exact absurd (Option.some.inj hf) (by decide)
set_option maxRecDepth 100000 in
set_option maxHeartbeats 4000000 in
theorem k_L_law_1213 {p : Program} {l : Launch} {e : Env} {s : State} {m : MethodId} {below : List Frame} {meth : Method} {c : Code} {D : va_G} {I J O : ClassId} {b L : Nat} {xs : Fn} {h0 b0 b1 hh : Nat} {a0 a1 a2 a3 a4 a5 c0 : Nat} (E : fx p s m #[Value.ref b] meth c cL_law RL 9 ret D I J O) (hfl : l.stackTraces = false) (hXE : XE s) (hXs : va_X b L xs s s.heap) (hbl : b < s.heap.size) (n t : Nat → Nat) (ha : Nat) {fu : Nat} (k23 : Int32 → ClC → MdC → FnL → Option Int32) (hk23 : ∀ (v4 : Int32) (x : ClC) (o : MdC) (w : FnL), k23 v4 x o w = some 1 → ∀ (H : Heap) (locs : List Loc) (ad : Nat → Nat → Nat) (cells slots : Nat), cells + (fu) ≤ 601024 → slots + 6 * (fu) ≤ 7293034 → fy D (fun q : Nat => s.heap.size ≤ q) s.heap H locs (wCl I h0 n t b0 b1 hh x ++ wMd I a0 a1 a2 a3 a4 a5 o ++ wLo J c0 1 w ++ wHi I O hh ha ad x.2.2.1) → ∀ ls : Array Slot, lv_has ls 9 [(0, .ref b), (1, .ref h0), (2, .ref a0), (3, .ref c0), (4, .int v4)] → W p l e room_1 s m #[Value.ref b] below meth c H locs cells slots (lw_Z below #[Value.ref b] s) (F0 m 23 ls [])) : ∀ (v4 : Int32) (x : ClC) (o : MdC) (w : FnL), f_L_law_1213 L xs k23 v4 x o w = some 1 → ∀ (H : Heap) (locs : List Loc) (ad : Nat → Nat → Nat) (cells slots : Nat), cells + (fu + 1) ≤ 601024 → slots + 6 * (fu + 1) ≤ 7293034 → fy D (fun q : Nat => s.heap.size ≤ q) s.heap H locs (wCl I h0 n t b0 b1 hh x ++ wMd I a0 a1 a2 a3 a4 a5 o ++ wLo J c0 1 w ++ wHi I O hh ha ad x.2.2.1) → ∀ ls : Array Slot, lv_has ls 9 [(0, .ref b), (1, .ref h0), (2, .ref a0), (3, .ref c0), (4, .int v4)] → W p l e room_1 s m #[Value.ref b] below meth c H locs cells slots (lw_Z below #[Value.ref b] s) (F0 m 1213 ls []) := by
  have hx := E.1
  have hb := E.2.1
  have hbA : ¬ (fun q : Nat => s.heap.size ≤ q) b := Nat.not_le.mpr hbl
  intro v4 x o w hf H locs ad cells slots hcs hss hw ls hl
  unfold f_L_law_1213 at hf
  refine lv_aload_n hx hb dL_law_1213 rfl (lv_at hl 1 rfl) ?_
  refine lv_aload_n hx hb dL_law_1214 rfl (lv_at hl 0 rfl) ?_
  refine lv_iload hx hb dL_law_1215 (lv_at hl 4 rfl) ?_
  refine lv_iconst (v := 1) hx hb dL_law_1217 (by decide) ?_
  refine lv_iadd hx hb dL_law_1218 ?_
  obtain ⟨g, hf⟩ := gi_s hf
  refine va_sld hx hb hXs hbl hbA hw.2.2.1 g dL_law_1219 ?_
  refine lv_aload_n hx hb dL_law_1220 rfl (lv_at hl 3 rfl) ?_
  obtain ⟨z14, h, hf⟩ := bd_s hf
  have hw : fy D (fun q : Nat => s.heap.size ≤ q) s.heap H locs ((wCl I h0 n t b0 b1 hh x ++ wLo J c0 1 w) ++ (wMd I a0 a1 a2 a3 a4 a5 o) ++ wHi I O hh ha ad x.2.2.1) := hw.part [0, 1, 2, 3, 4, 5, 6, 7, 8, 9, 10, 11, 12, 13, 14, 15, 16, 17, 18, 19, 20, 21, 22, 23, 24, 25, 26, 33, 27, 28, 29, 30, 31, 32] rfl rfl
  refine x_miFP hw (x_rW E (As := [.ref h0, .int (xs (v4 + 1).toNatClampNeg), .ref c0]) (rest := []) (mt_L_gap l hfl D I J O h0 n t b0 b1 hh ha ad c0 H.size (xs (v4 + 1).toNatClampNeg) x w z14.1 z14.2 h) blW (x_pcWPF E hXE hw) ok_L_gap q779 rfl hl.1 rfl (Nat.le_of_ble_eq_true rfl) ⟨Nat.le_of_ble_eq_true rfl, Nat.le_of_ble_eq_true rfl⟩ ⟨(show cells + 1 ≤ 601024 by omega), (show slots + 6 ≤ 7293034 by omega)⟩ dL_law_1221) (fun _ => rfl) (fun ad15 H locs hw => ?_)
  have hw : fy D (fun q : Nat => s.heap.size ≤ q) s.heap H locs ((wCl I h0 n t b0 b1 hh x ++ wLo J c0 1 z14.2) ++ (wMd I a0 a1 a2 a3 a4 a5 o) ++ wHi I O hh ha ad15 x.2.2.1) := hw
  have hw : fy D (fun q : Nat => s.heap.size ≤ q) s.heap H locs (wCl I h0 n t b0 b1 hh x ++ wMd I a0 a1 a2 a3 a4 a5 o ++ wLo J c0 1 z14.2 ++ wHi I O hh ha ad15 x.2.2.1) := hw.part [0, 1, 2, 3, 4, 5, 6, 7, 8, 9, 10, 11, 12, 13, 14, 15, 16, 17, 18, 19, 20, 21, 22, 23, 24, 25, 26, 28, 29, 30, 31, 32, 33, 27] rfl rfl
  have hw : fy D (fun q : Nat => s.heap.size ≤ q) s.heap H locs (wCl I h0 n t b0 b1 hh x ++ wMd I a0 a1 a2 a3 a4 a5 o ++ wLo J c0 1 z14.2 ++ wHi I O hh ha ad15 x.2.2.1) := hw
  refine lv_istore (lv' := [(5, .int z14.1), (0, .ref b), (1, .ref h0), (2, .ref a0), (3, .ref c0), (4, .int v4)]) hx hb dL_law_1224 hl (by decide) rfl (fun ls hl => ?_)
  refine lv_aload_n hx hb dL_law_1226 rfl (lv_at hl 3 rfl) ?_
  refine lv_aload_n hx hb dL_law_1227 rfl (lv_at hl 1 rfl) ?_
  refine lv_iload hx hb dL_law_1228 (lv_at hl 5 rfl) ?_
  refine lv_iconst (v := 1) hx hb dL_law_1230 (by decide) ?_
  refine lv_iadd hx hb dL_law_1231 ?_
  obtain ⟨g, hf⟩ := gi_s hf
  refine va_sld hx hb hXs hbl hbA hw.2.2.1 g dL_law_1232 ?_
  obtain ⟨z16, h, hf⟩ := bd_s hf
  refine x_mi hw [27, 28, 29, 30, 31, 32] rfl rfl (x_rV E (As := [.int (xs (v4 + 1).toNatClampNeg)]) (rest := []) (mt_X6_gap l D I J O a0 a1 a2 a3 a4 a5 H.size (xs (v4 + 1).toNatClampNeg) o z16.1 z16.2 h) blM (x_recv E hw.1 27 6 rfl rfl rfl) (x_pcMQ E hw [27, 28, 29, 30, 31, 32] rfl rfl) ok_X6_gap q1063 rfl hl.1 rfl (Nat.le_of_ble_eq_true rfl) ⟨Nat.le_of_ble_eq_true rfl, Nat.le_of_ble_eq_true rfl⟩ ⟨(show cells + 1 + 0 ≤ 601024 by omega), (show slots + 6 + 0 ≤ 7293034 by omega)⟩ dL_law_1233) (fun _ => rfl) (fun _ H locs hw => ?_)
  have hw : fy D (fun q : Nat => s.heap.size ≤ q) s.heap H locs (wCl I h0 n t b0 b1 hh x ++ wMd I a0 a1 a2 a3 a4 a5 z16.2 ++ wLo J c0 1 z14.2 ++ wHi I O hh ha ad15 x.2.2.1) := hw
  refine lv_istore (lv' := [(6, .int z16.1), (5, .int z14.1), (0, .ref b), (1, .ref h0), (2, .ref a0), (3, .ref c0), (4, .int v4)]) hx hb dL_law_1236 hl (by decide) rfl (fun ls hl => ?_)
  refine lv_aload_n hx hb dL_law_1238 rfl (lv_at hl 4 rfl) ?_
  obtain ⟨z17, h, hf⟩ := bd_s hf
  refine x_ci (x_rV E (As := []) (rest := []) (mt_X6_thrown l D I J O a0 a1 a2 a3 a4 a5 z16.2 z17 h) blR (x_recv E hw.1 27 6 rfl rfl rfl) (x_pcR E (x_pick hw.1 [27, 28, 29, 30, 31, 32] rfl)) ok_X6_thrown q835 rfl hl.1 rfl (Nat.le_of_ble_eq_true rfl) ⟨Nat.le_of_ble_eq_true rfl, Nat.le_of_ble_eq_true rfl⟩ ⟨(show cells + 1 + 0 + 0 ≤ 601024 by omega), (show slots + 6 + 0 + 0 ≤ 7293034 by omega)⟩ dL_law_1239) ?_
  refine lv_iload hx hb dL_law_1242 (lv_at hl 1 rfl) ?_
  refine lv_icmp_eq (tgt := 1249) hx hb dL_law_1244 (by decide) (fun hc => ?_) (fun hc => ?_)
  · rw [if_pos hc] at hf
    refine lv_iload hx hb dL_law_1249 (lv_at hl 1 rfl) ?_
    refine lv_if_ne (tgt := 1266) hx hb dL_law_1251 (by decide) (fun hc => ?_) (fun hc => ?_)
    · rw [if_neg hc] at hf
      refine lv_goto (tgt := 1476) hx hb dL_law_1266 (by decide) ?_
      refine lv_iinc (v := v4 + 5) (lv' := [(4, .int (v4 + 5)), (6, .int z16.1), (5, .int z14.1), (0, .ref b), (1, .ref h0), (2, .ref a0), (3, .ref c0)]) hx hb dL_law_1476 hl (k := 6) rfl rfl (by decide) rfl (fun ls hl => ?_)
      refine lv_goto (tgt := 23) hx hb dL_law_1479 (by decide) ?_
      exact hk23 (v4 + 5) x z16.2 z14.2 hf H locs ad15 _ _ (by omega) (by omega) hw _ (lv_sub hl [3, 4, 5, 6, 0] rfl)
    · rw [if_pos hc] at hf
      refine lv_aload_n hx hb dL_law_1254 rfl (lv_at hl 5 rfl) ?_
      refine lv_iconst (v := 0) hx hb dL_law_1255 (by decide) ?_
      obtain ⟨g, hf⟩ := gi_s hf
      refine x_lald E hw.1 33 rfl g dL_law_1256 ?_
      refine lv_iload hx hb dL_law_1257 (lv_at hl 0 rfl) ?_
      refine lv_i2l (v := z16.1.toInt64) hx hb dL_law_1259 rfl ?_
      refine W.lcmp hx hb dL_law_1260 ?_
      refine lv_if_eq (tgt := 1266) hx hb dL_law_1261 (by decide) (fun hc => ?_) (fun hc => ?_)
      · rw [if_pos hc] at hf
        refine lv_goto (tgt := 1476) hx hb dL_law_1266 (by decide) ?_
        refine lv_iinc (v := v4 + 5) (lv' := [(4, .int (v4 + 5)), (6, .int z16.1), (5, .int z14.1), (0, .ref b), (1, .ref h0), (2, .ref a0), (3, .ref c0)]) hx hb dL_law_1476 hl (k := 6) rfl rfl (by decide) rfl (fun ls hl => ?_)
        refine lv_goto (tgt := 23) hx hb dL_law_1479 (by decide) ?_
        exact hk23 (v4 + 5) x z16.2 z14.2 hf H locs ad15 _ _ (by omega) (by omega) hw _ (lv_sub hl [3, 4, 5, 6, 0] rfl)
      · rw [if_neg hc] at hf
        refine lv_iconst (v := 0) hx hb dL_law_1264 (by decide) ?_
        exact absurd (Option.some.inj hf) (by decide)
  · rw [if_neg hc] at hf
    refine lv_iconst (v := 0) hx hb dL_law_1247 (by decide) ?_
    exact absurd (Option.some.inj hf) (by decide)
set_option maxRecDepth 100000 in
set_option maxHeartbeats 4000000 in
theorem k_L_law_1269 {p : Program} {l : Launch} {e : Env} {s : State} {m : MethodId} {below : List Frame} {meth : Method} {c : Code} {D : va_G} {I J O : ClassId} {b L : Nat} {xs : Fn} {h0 b0 b1 hh : Nat} {a0 a1 a2 a3 a4 a5 c0 : Nat} (E : fx p s m #[Value.ref b] meth c cL_law RL 9 ret D I J O) (hfl : l.stackTraces = false) (hXE : XE s) (hXs : va_X b L xs s s.heap) (hbl : b < s.heap.size) (n t : Nat → Nat) (ha : Nat) {fu : Nat} (k23 : Int32 → ClC → MdC → FnL → Option Int32) (hk23 : ∀ (v4 : Int32) (x : ClC) (o : MdC) (w : FnL), k23 v4 x o w = some 1 → ∀ (H : Heap) (locs : List Loc) (ad : Nat → Nat → Nat) (cells slots : Nat), cells + (fu) ≤ 601024 → slots + 6 * (fu) ≤ 7293034 → fy D (fun q : Nat => s.heap.size ≤ q) s.heap H locs (wCl I h0 n t b0 b1 hh x ++ wMd I a0 a1 a2 a3 a4 a5 o ++ wLo J c0 1 w ++ wHi I O hh ha ad x.2.2.1) → ∀ ls : Array Slot, lv_has ls 9 [(0, .ref b), (1, .ref h0), (2, .ref a0), (3, .ref c0), (4, .int v4)] → W p l e room_1 s m #[Value.ref b] below meth c H locs cells slots (lw_Z below #[Value.ref b] s) (F0 m 23 ls [])) : ∀ (v4 : Int32) (x : ClC) (o : MdC) (w : FnL), f_L_law_1269 L xs k23 v4 x o w = some 1 → ∀ (H : Heap) (locs : List Loc) (ad : Nat → Nat → Nat) (cells slots : Nat), cells + (fu + 1) ≤ 601024 → slots + 6 * (fu + 1) ≤ 7293034 → fy D (fun q : Nat => s.heap.size ≤ q) s.heap H locs (wCl I h0 n t b0 b1 hh x ++ wMd I a0 a1 a2 a3 a4 a5 o ++ wLo J c0 1 w ++ wHi I O hh ha ad x.2.2.1) → ∀ ls : Array Slot, lv_has ls 9 [(0, .ref b), (1, .ref h0), (2, .ref a0), (3, .ref c0), (4, .int v4)] → W p l e room_1 s m #[Value.ref b] below meth c H locs cells slots (lw_Z below #[Value.ref b] s) (F0 m 1269 ls []) := by
  have hx := E.1
  have hb := E.2.1
  have hbA : ¬ (fun q : Nat => s.heap.size ≤ q) b := Nat.not_le.mpr hbl
  intro v4 x o w hf H locs ad cells slots hcs hss hw ls hl
  unfold f_L_law_1269 at hf
  refine lv_aload_n hx hb dL_law_1269 rfl (lv_at hl 1 rfl) ?_
  refine lv_aload_n hx hb dL_law_1270 rfl (lv_at hl 0 rfl) ?_
  refine lv_iload hx hb dL_law_1271 (lv_at hl 4 rfl) ?_
  refine lv_iconst (v := 1) hx hb dL_law_1273 (by decide) ?_
  refine lv_iadd hx hb dL_law_1274 ?_
  obtain ⟨g, hf⟩ := gi_s hf
  refine va_sld hx hb hXs hbl hbA hw.2.2.1 g dL_law_1275 ?_
  refine lv_aload_n hx hb dL_law_1276 rfl (lv_at hl 0 rfl) ?_
  refine lv_iload hx hb dL_law_1277 (lv_at hl 4 rfl) ?_
  refine lv_iconst (v := 2) hx hb dL_law_1279 (by decide) ?_
  refine lv_iadd hx hb dL_law_1280 ?_
  obtain ⟨g, hf⟩ := gi_s hf
  refine va_sld hx hb hXs hbl hbA hw.2.2.1 g dL_law_1281 ?_
  refine lv_aload_n hx hb dL_law_1282 rfl (lv_at hl 3 rfl) ?_
  obtain ⟨z10, h, hf⟩ := bd_s hf
  have hw : fy D (fun q : Nat => s.heap.size ≤ q) s.heap H locs ((wCl I h0 n t b0 b1 hh x ++ wLo J c0 1 w) ++ (wMd I a0 a1 a2 a3 a4 a5 o) ++ wHi I O hh ha ad x.2.2.1) := hw.part [0, 1, 2, 3, 4, 5, 6, 7, 8, 9, 10, 11, 12, 13, 14, 15, 16, 17, 18, 19, 20, 21, 22, 23, 24, 25, 26, 33, 27, 28, 29, 30, 31, 32] rfl rfl
  refine x_miFP hw (x_rW E (As := [.ref h0, .int (xs (v4 + 1).toNatClampNeg), .int (xs (v4 + 2).toNatClampNeg), .ref c0]) (rest := []) (mt_L_ifFired l hfl D I J O h0 n t b0 b1 hh ha ad c0 H.size (xs (v4 + 1).toNatClampNeg) (xs (v4 + 2).toNatClampNeg) x w z10.1 z10.2.1 z10.2.2 h) blW (x_pcWPF E hXE hw) ok_L_ifFired q783 rfl hl.1 rfl (Nat.le_of_ble_eq_true rfl) ⟨Nat.le_of_ble_eq_true rfl, Nat.le_of_ble_eq_true rfl⟩ ⟨(show cells + 1 ≤ 601024 by omega), (show slots + 6 ≤ 7293034 by omega)⟩ dL_law_1283) (fun _ => rfl) (fun ad11 H locs hw => ?_)
  have hw : fy D (fun q : Nat => s.heap.size ≤ q) s.heap H locs ((wCl I h0 n t b0 b1 hh z10.2.1 ++ wLo J c0 1 z10.2.2) ++ (wMd I a0 a1 a2 a3 a4 a5 o) ++ wHi I O hh ha ad11 z10.2.1.2.2.1) := hw
  have hw : fy D (fun q : Nat => s.heap.size ≤ q) s.heap H locs (wCl I h0 n t b0 b1 hh z10.2.1 ++ wMd I a0 a1 a2 a3 a4 a5 o ++ wLo J c0 1 z10.2.2 ++ wHi I O hh ha ad11 z10.2.1.2.2.1) := hw.part [0, 1, 2, 3, 4, 5, 6, 7, 8, 9, 10, 11, 12, 13, 14, 15, 16, 17, 18, 19, 20, 21, 22, 23, 24, 25, 26, 28, 29, 30, 31, 32, 33, 27] rfl rfl
  have hw : fy D (fun q : Nat => s.heap.size ≤ q) s.heap H locs (wCl I h0 n t b0 b1 hh z10.2.1 ++ wMd I a0 a1 a2 a3 a4 a5 o ++ wLo J c0 1 z10.2.2 ++ wHi I O hh ha ad11 z10.2.1.2.2.1) := hw
  refine lv_istore (lv' := [(5, .int z10.1), (0, .ref b), (1, .ref h0), (2, .ref a0), (3, .ref c0), (4, .int v4)]) hx hb dL_law_1286 hl (by decide) rfl (fun ls hl => ?_)
  refine lv_aload_n hx hb dL_law_1288 rfl (lv_at hl 3 rfl) ?_
  refine lv_aload_n hx hb dL_law_1289 rfl (lv_at hl 1 rfl) ?_
  refine lv_iload hx hb dL_law_1290 (lv_at hl 5 rfl) ?_
  refine lv_iconst (v := 1) hx hb dL_law_1292 (by decide) ?_
  refine lv_iadd hx hb dL_law_1293 ?_
  obtain ⟨g, hf⟩ := gi_s hf
  refine va_sld hx hb hXs hbl hbA hw.2.2.1 g dL_law_1294 ?_
  refine lv_aload_n hx hb dL_law_1295 rfl (lv_at hl 1 rfl) ?_
  refine lv_iload hx hb dL_law_1296 (lv_at hl 5 rfl) ?_
  refine lv_iconst (v := 2) hx hb dL_law_1298 (by decide) ?_
  refine lv_iadd hx hb dL_law_1299 ?_
  obtain ⟨g, hf⟩ := gi_s hf
  refine va_sld hx hb hXs hbl hbA hw.2.2.1 g dL_law_1300 ?_
  obtain ⟨z12, h, hf⟩ := bd_s hf
  refine x_mi hw [27, 28, 29, 30, 31, 32] rfl rfl (x_rV E (As := [.int (xs (v4 + 1).toNatClampNeg), .int (xs (v4 + 2).toNatClampNeg)]) (rest := []) (mt_X6_ifFired l D I J O a0 a1 a2 a3 a4 a5 H.size (xs (v4 + 1).toNatClampNeg) (xs (v4 + 2).toNatClampNeg) o z12.1 z12.2 h) blM (x_recv E hw.1 27 6 rfl rfl rfl) (x_pcMQ E hw [27, 28, 29, 30, 31, 32] rfl rfl) ok_X6_ifFired q1071 rfl hl.1 rfl (Nat.le_of_ble_eq_true rfl) ⟨Nat.le_of_ble_eq_true rfl, Nat.le_of_ble_eq_true rfl⟩ ⟨(show cells + 1 + 0 ≤ 601024 by omega), (show slots + 6 + 0 ≤ 7293034 by omega)⟩ dL_law_1301) (fun _ => rfl) (fun _ H locs hw => ?_)
  have hw : fy D (fun q : Nat => s.heap.size ≤ q) s.heap H locs (wCl I h0 n t b0 b1 hh z10.2.1 ++ wMd I a0 a1 a2 a3 a4 a5 z12.2 ++ wLo J c0 1 z10.2.2 ++ wHi I O hh ha ad11 z10.2.1.2.2.1) := hw
  refine lv_istore (lv' := [(6, .int z12.1), (5, .int z10.1), (0, .ref b), (1, .ref h0), (2, .ref a0), (3, .ref c0), (4, .int v4)]) hx hb dL_law_1304 hl (by decide) rfl (fun ls hl => ?_)
  refine lv_aload_n hx hb dL_law_1306 rfl (lv_at hl 4 rfl) ?_
  obtain ⟨z13, h, hf⟩ := bd_s hf
  refine x_ci (x_rV E (As := []) (rest := []) (mt_X6_thrown l D I J O a0 a1 a2 a3 a4 a5 z12.2 z13 h) blR (x_recv E hw.1 27 6 rfl rfl rfl) (x_pcR E (x_pick hw.1 [27, 28, 29, 30, 31, 32] rfl)) ok_X6_thrown q835 rfl hl.1 rfl (Nat.le_of_ble_eq_true rfl) ⟨Nat.le_of_ble_eq_true rfl, Nat.le_of_ble_eq_true rfl⟩ ⟨(show cells + 1 + 0 + 0 ≤ 601024 by omega), (show slots + 6 + 0 + 0 ≤ 7293034 by omega)⟩ dL_law_1307) ?_
  refine lv_iload hx hb dL_law_1310 (lv_at hl 1 rfl) ?_
  refine lv_icmp_eq (tgt := 1317) hx hb dL_law_1312 (by decide) (fun hc => ?_) (fun hc => ?_)
  · rw [if_pos hc] at hf
    refine lv_iload hx hb dL_law_1317 (lv_at hl 1 rfl) ?_
    refine lv_if_ne (tgt := 1334) hx hb dL_law_1319 (by decide) (fun hc => ?_) (fun hc => ?_)
    · rw [if_neg hc] at hf
      refine lv_goto (tgt := 1476) hx hb dL_law_1334 (by decide) ?_
      refine lv_iinc (v := v4 + 5) (lv' := [(4, .int (v4 + 5)), (6, .int z12.1), (5, .int z10.1), (0, .ref b), (1, .ref h0), (2, .ref a0), (3, .ref c0)]) hx hb dL_law_1476 hl (k := 6) rfl rfl (by decide) rfl (fun ls hl => ?_)
      refine lv_goto (tgt := 23) hx hb dL_law_1479 (by decide) ?_
      exact hk23 (v4 + 5) z10.2.1 z12.2 z10.2.2 hf H locs ad11 _ _ (by omega) (by omega) hw _ (lv_sub hl [3, 4, 5, 6, 0] rfl)
    · rw [if_pos hc] at hf
      refine lv_aload_n hx hb dL_law_1322 rfl (lv_at hl 5 rfl) ?_
      refine lv_iconst (v := 0) hx hb dL_law_1323 (by decide) ?_
      obtain ⟨g, hf⟩ := gi_s hf
      refine x_lald E hw.1 33 rfl g dL_law_1324 ?_
      refine lv_iload hx hb dL_law_1325 (lv_at hl 0 rfl) ?_
      refine lv_i2l (v := z12.1.toInt64) hx hb dL_law_1327 rfl ?_
      refine W.lcmp hx hb dL_law_1328 ?_
      refine lv_if_eq (tgt := 1334) hx hb dL_law_1329 (by decide) (fun hc => ?_) (fun hc => ?_)
      · rw [if_pos hc] at hf
        refine lv_goto (tgt := 1476) hx hb dL_law_1334 (by decide) ?_
        refine lv_iinc (v := v4 + 5) (lv' := [(4, .int (v4 + 5)), (6, .int z12.1), (5, .int z10.1), (0, .ref b), (1, .ref h0), (2, .ref a0), (3, .ref c0)]) hx hb dL_law_1476 hl (k := 6) rfl rfl (by decide) rfl (fun ls hl => ?_)
        refine lv_goto (tgt := 23) hx hb dL_law_1479 (by decide) ?_
        exact hk23 (v4 + 5) z10.2.1 z12.2 z10.2.2 hf H locs ad11 _ _ (by omega) (by omega) hw _ (lv_sub hl [3, 4, 5, 6, 0] rfl)
      · rw [if_neg hc] at hf
        refine lv_iconst (v := 0) hx hb dL_law_1332 (by decide) ?_
        exact absurd (Option.some.inj hf) (by decide)
  · rw [if_neg hc] at hf
    refine lv_iconst (v := 0) hx hb dL_law_1315 (by decide) ?_
    exact absurd (Option.some.inj hf) (by decide)
set_option maxRecDepth 100000 in
set_option maxHeartbeats 4000000 in
theorem k_L_law_1385 {p : Program} {l : Launch} {e : Env} {s : State} {m : MethodId} {below : List Frame} {meth : Method} {c : Code} {D : va_G} {I J O : ClassId} {b L : Nat} {xs : Fn} {h0 b0 b1 hh : Nat} {a0 a1 a2 a3 a4 a5 c0 : Nat} (E : fx p s m #[Value.ref b] meth c cL_law RL 9 ret D I J O) (hfl : l.stackTraces = false) (hXE : XE s) (hXs : va_X b L xs s s.heap) (hbl : b < s.heap.size) (n t : Nat → Nat) (ha : Nat) {fu : Nat} (k23 : Int32 → ClC → MdC → FnL → Option Int32) (hk23 : ∀ (v4 : Int32) (x : ClC) (o : MdC) (w : FnL), k23 v4 x o w = some 1 → ∀ (H : Heap) (locs : List Loc) (ad : Nat → Nat → Nat) (cells slots : Nat), cells + (fu) ≤ 601024 → slots + 6 * (fu) ≤ 7293034 → fy D (fun q : Nat => s.heap.size ≤ q) s.heap H locs (wCl I h0 n t b0 b1 hh x ++ wMd I a0 a1 a2 a3 a4 a5 o ++ wLo J c0 1 w ++ wHi I O hh ha ad x.2.2.1) → ∀ ls : Array Slot, lv_has ls 9 [(0, .ref b), (1, .ref h0), (2, .ref a0), (3, .ref c0), (4, .int v4)] → W p l e room_1 s m #[Value.ref b] below meth c H locs cells slots (lw_Z below #[Value.ref b] s) (F0 m 23 ls [])) : ∀ (v4 : Int32) (v5 : Int32) (t1 : Int32) (t2 : Int32) (x : ClC) (o : MdC) (w : FnL), f_L_law_1385 L xs k23 v4 v5 t1 t2 x o w = some 1 → ∀ (H : Heap) (locs : List Loc) (ad : Nat → Nat → Nat) (cells slots : Nat), cells + (fu) ≤ 601024 → slots + 6 * (fu) ≤ 7293034 → fy D (fun q : Nat => s.heap.size ≤ q) s.heap H locs (wCl I h0 n t b0 b1 hh x ++ wMd I a0 a1 a2 a3 a4 a5 o ++ wLo J c0 1 w ++ wHi I O hh ha ad x.2.2.1) → ∀ ls : Array Slot, lv_has ls 9 [(0, .ref b), (1, .ref h0), (2, .ref a0), (3, .ref c0), (4, .int v4), (5, .int v5)] → W p l e room_1 s m #[Value.ref b] below meth c H locs cells slots (lw_Z below #[Value.ref b] s) (F0 m 1385 ls [.int t2, .int t1, .ref a0]) := by
  have hx := E.1
  have hb := E.2.1
  have hbA : ¬ (fun q : Nat => s.heap.size ≤ q) b := Nat.not_le.mpr hbl
  intro v4 v5 t1 t2 x o w hf H locs ad cells slots hcs hss hw ls hl
  unfold f_L_law_1385 at hf
  obtain ⟨z8, h, hf⟩ := bd_s hf
  refine x_mi hw [27, 28, 29, 30, 31, 32] rfl rfl (x_rV E (As := [.int t1, .int t2]) (rest := []) (mt_X6_room l D I J O a0 a1 a2 a3 a4 a5 H.size t1 t2 o z8.1 z8.2 h) blM (x_recv E hw.1 27 6 rfl rfl rfl) (x_pcMQ E hw [27, 28, 29, 30, 31, 32] rfl rfl) ok_X6_room q1079 rfl hl.1 rfl (Nat.le_of_ble_eq_true rfl) ⟨Nat.le_of_ble_eq_true rfl, Nat.le_of_ble_eq_true rfl⟩ ⟨(show cells + 0 ≤ 601024 by omega), (show slots + 0 ≤ 7293034 by omega)⟩ dL_law_1385) (fun _ => rfl) (fun _ H locs hw => ?_)
  have hw : fy D (fun q : Nat => s.heap.size ≤ q) s.heap H locs (wCl I h0 n t b0 b1 hh x ++ wMd I a0 a1 a2 a3 a4 a5 z8.2 ++ wLo J c0 1 w ++ wHi I O hh ha ad x.2.2.1) := hw
  refine lv_istore (lv' := [(6, .int z8.1), (0, .ref b), (1, .ref h0), (2, .ref a0), (3, .ref c0), (4, .int v4), (5, .int v5)]) hx hb dL_law_1388 hl (by decide) rfl (fun ls hl => ?_)
  refine lv_aload_n hx hb dL_law_1390 rfl (lv_at hl 3 rfl) ?_
  obtain ⟨z9, h, hf⟩ := bd_s hf
  refine x_ci (x_rV E (As := []) (rest := []) (mt_X6_thrown l D I J O a0 a1 a2 a3 a4 a5 z8.2 z9 h) blR (x_recv E hw.1 27 6 rfl rfl rfl) (x_pcR E (x_pick hw.1 [27, 28, 29, 30, 31, 32] rfl)) ok_X6_thrown q835 rfl hl.1 rfl (Nat.le_of_ble_eq_true rfl) ⟨Nat.le_of_ble_eq_true rfl, Nat.le_of_ble_eq_true rfl⟩ ⟨(show cells + 0 + 0 ≤ 601024 by omega), (show slots + 0 + 0 ≤ 7293034 by omega)⟩ dL_law_1391) ?_
  refine lv_iload hx hb dL_law_1394 (lv_at hl 6 rfl) ?_
  refine lv_icmp_eq (tgt := 1401) hx hb dL_law_1396 (by decide) (fun hc => ?_) (fun hc => ?_)
  · rw [if_pos hc] at hf
    refine lv_iload hx hb dL_law_1401 (lv_at hl 6 rfl) ?_
    refine lv_if_ne (tgt := 1418) hx hb dL_law_1403 (by decide) (fun hc => ?_) (fun hc => ?_)
    · rw [if_neg hc] at hf
      refine lv_goto (tgt := 1476) hx hb dL_law_1418 (by decide) ?_
      refine lv_iinc (v := v4 + 5) (lv' := [(4, .int (v4 + 5)), (6, .int z8.1), (0, .ref b), (1, .ref h0), (2, .ref a0), (3, .ref c0), (5, .int v5)]) hx hb dL_law_1476 hl (k := 5) rfl rfl (by decide) rfl (fun ls hl => ?_)
      refine lv_goto (tgt := 23) hx hb dL_law_1479 (by decide) ?_
      exact hk23 (v4 + 5) x z8.2 w hf H locs ad _ _ (by omega) (by omega) hw _ (lv_sub hl [2, 3, 4, 5, 0] rfl)
    · rw [if_pos hc] at hf
      refine lv_aload_n hx hb dL_law_1406 rfl (lv_at hl 4 rfl) ?_
      refine lv_iconst (v := 0) hx hb dL_law_1407 (by decide) ?_
      obtain ⟨g, hf⟩ := gi_s hf
      refine x_lald E hw.1 33 rfl g dL_law_1408 ?_
      refine lv_iload hx hb dL_law_1409 (lv_at hl 0 rfl) ?_
      refine lv_i2l (v := z8.1.toInt64) hx hb dL_law_1411 rfl ?_
      refine W.lcmp hx hb dL_law_1412 ?_
      refine lv_if_eq (tgt := 1418) hx hb dL_law_1413 (by decide) (fun hc => ?_) (fun hc => ?_)
      · rw [if_pos hc] at hf
        refine lv_goto (tgt := 1476) hx hb dL_law_1418 (by decide) ?_
        refine lv_iinc (v := v4 + 5) (lv' := [(4, .int (v4 + 5)), (6, .int z8.1), (0, .ref b), (1, .ref h0), (2, .ref a0), (3, .ref c0), (5, .int v5)]) hx hb dL_law_1476 hl (k := 5) rfl rfl (by decide) rfl (fun ls hl => ?_)
        refine lv_goto (tgt := 23) hx hb dL_law_1479 (by decide) ?_
        exact hk23 (v4 + 5) x z8.2 w hf H locs ad _ _ (by omega) (by omega) hw _ (lv_sub hl [2, 3, 4, 5, 0] rfl)
      · rw [if_neg hc] at hf
        refine lv_iconst (v := 0) hx hb dL_law_1416 (by decide) ?_
        exact absurd (Option.some.inj hf) (by decide)
  · rw [if_neg hc] at hf
    refine lv_iconst (v := 0) hx hb dL_law_1399 (by decide) ?_
    exact absurd (Option.some.inj hf) (by decide)
set_option maxRecDepth 100000 in
set_option maxHeartbeats 4000000 in
theorem k_L_law_1358 {p : Program} {l : Launch} {e : Env} {s : State} {m : MethodId} {below : List Frame} {meth : Method} {c : Code} {D : va_G} {I J O : ClassId} {b L : Nat} {xs : Fn} {h0 b0 b1 hh : Nat} {a0 a1 a2 a3 a4 a5 c0 : Nat} (E : fx p s m #[Value.ref b] meth c cL_law RL 9 ret D I J O) (hfl : l.stackTraces = false) (hXE : XE s) (hXs : va_X b L xs s s.heap) (hbl : b < s.heap.size) (n t : Nat → Nat) (ha : Nat) {fu : Nat} (k23 : Int32 → ClC → MdC → FnL → Option Int32) (hk23 : ∀ (v4 : Int32) (x : ClC) (o : MdC) (w : FnL), k23 v4 x o w = some 1 → ∀ (H : Heap) (locs : List Loc) (ad : Nat → Nat → Nat) (cells slots : Nat), cells + (fu) ≤ 601024 → slots + 6 * (fu) ≤ 7293034 → fy D (fun q : Nat => s.heap.size ≤ q) s.heap H locs (wCl I h0 n t b0 b1 hh x ++ wMd I a0 a1 a2 a3 a4 a5 o ++ wLo J c0 1 w ++ wHi I O hh ha ad x.2.2.1) → ∀ ls : Array Slot, lv_has ls 9 [(0, .ref b), (1, .ref h0), (2, .ref a0), (3, .ref c0), (4, .int v4)] → W p l e room_1 s m #[Value.ref b] below meth c H locs cells slots (lw_Z below #[Value.ref b] s) (F0 m 23 ls [])) : ∀ (v4 : Int32) (t1 : Int32) (t2 : Int32) (x : ClC) (o : MdC) (w : FnL), f_L_law_1358 L xs k23 v4 t1 t2 x o w = some 1 → ∀ (H : Heap) (locs : List Loc) (ad : Nat → Nat → Nat) (cells slots : Nat), cells + (fu + 1) ≤ 601024 → slots + 6 * (fu + 1) ≤ 7293034 → fy D (fun q : Nat => s.heap.size ≤ q) s.heap H locs (wCl I h0 n t b0 b1 hh x ++ wMd I a0 a1 a2 a3 a4 a5 o ++ wLo J c0 1 w ++ wHi I O hh ha ad x.2.2.1) → ∀ ls : Array Slot, lv_has ls 9 [(0, .ref b), (1, .ref h0), (2, .ref a0), (3, .ref c0), (4, .int v4)] → W p l e room_1 s m #[Value.ref b] below meth c H locs cells slots (lw_Z below #[Value.ref b] s) (F0 m 1358 ls [.int t2, .int t1, .ref h0]) := by
  have hx := E.1
  have hb := E.2.1
  have hbA : ¬ (fun q : Nat => s.heap.size ≤ q) b := Nat.not_le.mpr hbl
  intro v4 t1 t2 x o w hf H locs ad cells slots hcs hss hw ls hl
  unfold f_L_law_1358 at hf
  refine lv_aload_n hx hb dL_law_1358 rfl (lv_at hl 3 rfl) ?_
  obtain ⟨z6, h, hf⟩ := bd_s hf
  have hw : fy D (fun q : Nat => s.heap.size ≤ q) s.heap H locs ((wCl I h0 n t b0 b1 hh x ++ wLo J c0 1 w) ++ (wMd I a0 a1 a2 a3 a4 a5 o) ++ wHi I O hh ha ad x.2.2.1) := hw.part [0, 1, 2, 3, 4, 5, 6, 7, 8, 9, 10, 11, 12, 13, 14, 15, 16, 17, 18, 19, 20, 21, 22, 23, 24, 25, 26, 33, 27, 28, 29, 30, 31, 32] rfl rfl
  refine x_miFP hw (x_rW E (As := [.ref h0, .int t1, .int t2, .ref c0]) (rest := []) (mt_L_room l hfl D I J O h0 n t b0 b1 hh ha ad c0 H.size t1 t2 x w z6.1 z6.2 h) blW (x_pcWPF E hXE hw) ok_L_room q791 rfl hl.1 rfl (Nat.le_of_ble_eq_true rfl) ⟨Nat.le_of_ble_eq_true rfl, Nat.le_of_ble_eq_true rfl⟩ ⟨(show cells + 1 ≤ 601024 by omega), (show slots + 6 ≤ 7293034 by omega)⟩ dL_law_1359) (fun _ => rfl) (fun ad7 H locs hw => ?_)
  have hw : fy D (fun q : Nat => s.heap.size ≤ q) s.heap H locs ((wCl I h0 n t b0 b1 hh x ++ wLo J c0 1 z6.2) ++ (wMd I a0 a1 a2 a3 a4 a5 o) ++ wHi I O hh ha ad7 x.2.2.1) := hw
  have hw : fy D (fun q : Nat => s.heap.size ≤ q) s.heap H locs (wCl I h0 n t b0 b1 hh x ++ wMd I a0 a1 a2 a3 a4 a5 o ++ wLo J c0 1 z6.2 ++ wHi I O hh ha ad7 x.2.2.1) := hw.part [0, 1, 2, 3, 4, 5, 6, 7, 8, 9, 10, 11, 12, 13, 14, 15, 16, 17, 18, 19, 20, 21, 22, 23, 24, 25, 26, 28, 29, 30, 31, 32, 33, 27] rfl rfl
  have hw : fy D (fun q : Nat => s.heap.size ≤ q) s.heap H locs (wCl I h0 n t b0 b1 hh x ++ wMd I a0 a1 a2 a3 a4 a5 o ++ wLo J c0 1 z6.2 ++ wHi I O hh ha ad7 x.2.2.1) := hw
  refine lv_istore (lv' := [(5, .int z6.1), (0, .ref b), (1, .ref h0), (2, .ref a0), (3, .ref c0), (4, .int v4)]) hx hb dL_law_1362 hl (by decide) rfl (fun ls hl => ?_)
  refine lv_aload_n hx hb dL_law_1364 rfl (lv_at hl 3 rfl) ?_
  refine lv_aload_n hx hb dL_law_1365 rfl (lv_at hl 1 rfl) ?_
  refine lv_iload hx hb dL_law_1366 (lv_at hl 5 rfl) ?_
  refine lv_iconst (v := 1) hx hb dL_law_1368 (by decide) ?_
  refine lv_iadd hx hb dL_law_1369 ?_
  obtain ⟨g, hf⟩ := gi_s hf
  refine va_sld hx hb hXs hbl hbA hw.2.2.1 g dL_law_1370 ?_
  refine lv_aload_n hx hb dL_law_1371 rfl (lv_at hl 1 rfl) ?_
  refine lv_iload hx hb dL_law_1372 (lv_at hl 5 rfl) ?_
  refine lv_iconst (v := 2) hx hb dL_law_1374 (by decide) ?_
  refine lv_iadd hx hb dL_law_1375 ?_
  obtain ⟨g, hf⟩ := gi_s hf
  refine va_sld hx hb hXs hbl hbA hw.2.2.1 g dL_law_1376 ?_
  refine lv_if_eq (tgt := 1384) hx hb dL_law_1377 (by decide) (fun hc => ?_) (fun hc => ?_)
  · rw [if_pos hc] at hf
    refine lv_iconst (v := 0) hx hb dL_law_1384 (by decide) ?_
    exact k_L_law_1385 E hfl hXE hXs hbl n t ha _ hk23 v4 z6.1 (xs (v4 + 1).toNatClampNeg) 0 x o z6.2 hf H locs ad7 _ _ (by omega) (by omega) hw _ (lv_sub hl [1, 2, 3, 4, 5, 0] rfl)
  · rw [if_neg hc] at hf
    refine lv_iconst (v := 1) hx hb dL_law_1380 (by decide) ?_
    refine lv_goto (tgt := 1385) hx hb dL_law_1381 (by decide) ?_
    exact k_L_law_1385 E hfl hXE hXs hbl n t ha _ hk23 v4 z6.1 (xs (v4 + 1).toNatClampNeg) 1 x o z6.2 hf H locs ad7 _ _ (by omega) (by omega) hw _ (lv_sub hl [1, 2, 3, 4, 5, 0] rfl)
set_option maxRecDepth 100000 in
set_option maxHeartbeats 4000000 in
theorem k_L_law_1337 {p : Program} {l : Launch} {e : Env} {s : State} {m : MethodId} {below : List Frame} {meth : Method} {c : Code} {D : va_G} {I J O : ClassId} {b L : Nat} {xs : Fn} {h0 b0 b1 hh : Nat} {a0 a1 a2 a3 a4 a5 c0 : Nat} (E : fx p s m #[Value.ref b] meth c cL_law RL 9 ret D I J O) (hfl : l.stackTraces = false) (hXE : XE s) (hXs : va_X b L xs s s.heap) (hbl : b < s.heap.size) (n t : Nat → Nat) (ha : Nat) {fu : Nat} (k23 : Int32 → ClC → MdC → FnL → Option Int32) (hk23 : ∀ (v4 : Int32) (x : ClC) (o : MdC) (w : FnL), k23 v4 x o w = some 1 → ∀ (H : Heap) (locs : List Loc) (ad : Nat → Nat → Nat) (cells slots : Nat), cells + (fu) ≤ 601024 → slots + 6 * (fu) ≤ 7293034 → fy D (fun q : Nat => s.heap.size ≤ q) s.heap H locs (wCl I h0 n t b0 b1 hh x ++ wMd I a0 a1 a2 a3 a4 a5 o ++ wLo J c0 1 w ++ wHi I O hh ha ad x.2.2.1) → ∀ ls : Array Slot, lv_has ls 9 [(0, .ref b), (1, .ref h0), (2, .ref a0), (3, .ref c0), (4, .int v4)] → W p l e room_1 s m #[Value.ref b] below meth c H locs cells slots (lw_Z below #[Value.ref b] s) (F0 m 23 ls [])) : ∀ (v4 : Int32) (x : ClC) (o : MdC) (w : FnL), f_L_law_1337 L xs k23 v4 x o w = some 1 → ∀ (H : Heap) (locs : List Loc) (ad : Nat → Nat → Nat) (cells slots : Nat), cells + (fu + 1) ≤ 601024 → slots + 6 * (fu + 1) ≤ 7293034 → fy D (fun q : Nat => s.heap.size ≤ q) s.heap H locs (wCl I h0 n t b0 b1 hh x ++ wMd I a0 a1 a2 a3 a4 a5 o ++ wLo J c0 1 w ++ wHi I O hh ha ad x.2.2.1) → ∀ ls : Array Slot, lv_has ls 9 [(0, .ref b), (1, .ref h0), (2, .ref a0), (3, .ref c0), (4, .int v4)] → W p l e room_1 s m #[Value.ref b] below meth c H locs cells slots (lw_Z below #[Value.ref b] s) (F0 m 1337 ls []) := by
  have hx := E.1
  have hb := E.2.1
  have hbA : ¬ (fun q : Nat => s.heap.size ≤ q) b := Nat.not_le.mpr hbl
  intro v4 x o w hf H locs ad cells slots hcs hss hw ls hl
  unfold f_L_law_1337 at hf
  refine lv_aload_n hx hb dL_law_1337 rfl (lv_at hl 1 rfl) ?_
  refine lv_aload_n hx hb dL_law_1338 rfl (lv_at hl 0 rfl) ?_
  refine lv_iload hx hb dL_law_1339 (lv_at hl 4 rfl) ?_
  refine lv_iconst (v := 1) hx hb dL_law_1341 (by decide) ?_
  refine lv_iadd hx hb dL_law_1342 ?_
  obtain ⟨g, hf⟩ := gi_s hf
  refine va_sld hx hb hXs hbl hbA hw.2.2.1 g dL_law_1343 ?_
  refine lv_aload_n hx hb dL_law_1344 rfl (lv_at hl 0 rfl) ?_
  refine lv_iload hx hb dL_law_1345 (lv_at hl 4 rfl) ?_
  refine lv_iconst (v := 2) hx hb dL_law_1347 (by decide) ?_
  refine lv_iadd hx hb dL_law_1348 ?_
  obtain ⟨g, hf⟩ := gi_s hf
  refine va_sld hx hb hXs hbl hbA hw.2.2.1 g dL_law_1349 ?_
  refine lv_if_eq (tgt := 1357) hx hb dL_law_1350 (by decide) (fun hc => ?_) (fun hc => ?_)
  · rw [if_pos hc] at hf
    refine lv_iconst (v := 0) hx hb dL_law_1357 (by decide) ?_
    exact k_L_law_1358 E hfl hXE hXs hbl n t ha _ hk23 v4 (xs (v4 + 1).toNatClampNeg) 0 x o w hf H locs ad _ _ (by omega) (by omega) hw _ (lv_sub hl [0, 1, 2, 3, 4] rfl)
  · rw [if_neg hc] at hf
    refine lv_iconst (v := 1) hx hb dL_law_1353 (by decide) ?_
    refine lv_goto (tgt := 1358) hx hb dL_law_1354 (by decide) ?_
    exact k_L_law_1358 E hfl hXE hXs hbl n t ha _ hk23 v4 (xs (v4 + 1).toNatClampNeg) 1 x o w hf H locs ad _ _ (by omega) (by omega) hw _ (lv_sub hl [0, 1, 2, 3, 4] rfl)
set_option maxRecDepth 100000 in
set_option maxHeartbeats 4000000 in
theorem k_L_law_1421 {p : Program} {l : Launch} {e : Env} {s : State} {m : MethodId} {below : List Frame} {meth : Method} {c : Code} {D : va_G} {I J O : ClassId} {b L : Nat} {xs : Fn} {h0 b0 b1 hh : Nat} {a0 a1 a2 a3 a4 a5 c0 : Nat} (E : fx p s m #[Value.ref b] meth c cL_law RL 9 ret D I J O) (hfl : l.stackTraces = false) (hXE : XE s) (hXs : va_X b L xs s s.heap) (hbl : b < s.heap.size) (n t : Nat → Nat) (ha : Nat) {fu : Nat} (k23 : Int32 → ClC → MdC → FnL → Option Int32) (hk23 : ∀ (v4 : Int32) (x : ClC) (o : MdC) (w : FnL), k23 v4 x o w = some 1 → ∀ (H : Heap) (locs : List Loc) (ad : Nat → Nat → Nat) (cells slots : Nat), cells + (fu) ≤ 601024 → slots + 6 * (fu) ≤ 7293034 → fy D (fun q : Nat => s.heap.size ≤ q) s.heap H locs (wCl I h0 n t b0 b1 hh x ++ wMd I a0 a1 a2 a3 a4 a5 o ++ wLo J c0 1 w ++ wHi I O hh ha ad x.2.2.1) → ∀ ls : Array Slot, lv_has ls 9 [(0, .ref b), (1, .ref h0), (2, .ref a0), (3, .ref c0), (4, .int v4)] → W p l e room_1 s m #[Value.ref b] below meth c H locs cells slots (lw_Z below #[Value.ref b] s) (F0 m 23 ls [])) : ∀ (v4 : Int32) (x : ClC) (o : MdC) (w : FnL), f_L_law_1421 L xs k23 v4 x o w = some 1 → ∀ (H : Heap) (locs : List Loc) (ad : Nat → Nat → Nat) (cells slots : Nat), cells + (fu + 1) ≤ 601024 → slots + 6 * (fu + 1) ≤ 7293034 → fy D (fun q : Nat => s.heap.size ≤ q) s.heap H locs (wCl I h0 n t b0 b1 hh x ++ wMd I a0 a1 a2 a3 a4 a5 o ++ wLo J c0 1 w ++ wHi I O hh ha ad x.2.2.1) → ∀ ls : Array Slot, lv_has ls 9 [(0, .ref b), (1, .ref h0), (2, .ref a0), (3, .ref c0), (4, .int v4)] → W p l e room_1 s m #[Value.ref b] below meth c H locs cells slots (lw_Z below #[Value.ref b] s) (F0 m 1421 ls []) := by
  have hx := E.1
  have hb := E.2.1
  have hbA : ¬ (fun q : Nat => s.heap.size ≤ q) b := Nat.not_le.mpr hbl
  intro v4 x o w hf H locs ad cells slots hcs hss hw ls hl
  unfold f_L_law_1421 at hf
  refine lv_aload_n hx hb dL_law_1421 rfl (lv_at hl 1 rfl) ?_
  obtain ⟨z4, h, hf⟩ := bd_s hf
  refine x_cd (x_rV E (As := []) (rest := []) (mt_X5_fullness l D I J O h0 n t b0 b1 hh ha ad x z4 h) blR (x_recv E hw.1 0 5 rfl rfl rfl) (x_pcR E (va_P.part hw.1 [0, 1, 2, 3, 4, 5, 6, 7, 8, 9, 10, 11, 12, 13, 14, 15, 16, 17, 18, 19, 20, 21, 22, 23, 24, 25, 26] rfl)) ok_X5_fullness q341 rfl hl.1 rfl (Nat.le_of_ble_eq_true rfl) ⟨Nat.le_of_ble_eq_true rfl, Nat.le_of_ble_eq_true rfl⟩ ⟨(show cells + 0 ≤ 601024 by omega), (show slots + 0 ≤ 7293034 by omega)⟩ dL_law_1422) ?_
  refine lv_dstore (lv' := [(5, .double z4), (0, .ref b), (1, .ref h0), (2, .ref a0), (3, .ref c0), (4, .int v4)]) hx hb dL_law_1425 hl (by decide) rfl (fun ls hl => ?_)
  refine lv_aload_n hx hb dL_law_1427 rfl (lv_at hl 3 rfl) ?_
  obtain ⟨z5, h, hf⟩ := bd_s hf
  refine x_md hw [27, 28, 29, 30, 31, 32] rfl rfl (x_rV E (As := []) (rest := []) (mt_X6_fullness l D I J O a0 a1 a2 a3 a4 a5 H.size o z5.1 z5.2 h) blM (x_recv E hw.1 27 6 rfl rfl rfl) (x_pcMQ E hw [27, 28, 29, 30, 31, 32] rfl rfl) ok_X6_fullness q1087 rfl hl.1 rfl (Nat.le_of_ble_eq_true rfl) ⟨Nat.le_of_ble_eq_true rfl, Nat.le_of_ble_eq_true rfl⟩ ⟨(show cells + 0 ≤ 601024 by omega), (show slots + 0 ≤ 7293034 by omega)⟩ dL_law_1428) (fun _ => rfl) (fun _ H locs hw => ?_)
  have hw : fy D (fun q : Nat => s.heap.size ≤ q) s.heap H locs (wCl I h0 n t b0 b1 hh x ++ wMd I a0 a1 a2 a3 a4 a5 z5.2 ++ wLo J c0 1 w ++ wHi I O hh ha ad x.2.2.1) := hw
  refine lv_dstore (lv' := [(7, .double z5.1), (5, .double z4), (0, .ref b), (1, .ref h0), (2, .ref a0), (3, .ref c0), (4, .int v4)]) hx hb dL_law_1431 hl (by decide) rfl (fun ls hl => ?_)
  refine lv_dload hx hb dL_law_1433 (lv_at hl 1 rfl) ?_
  refine lv_dload hx hb dL_law_1435 (lv_at hl 0 rfl) ?_
  refine lv_dcmp hx hb dL_law_1437 ?_
  refine lv_if_eq (tgt := 1459) hx hb dL_law_1438 (by decide) (fun hc => ?_) (fun hc => ?_)
  · rw [if_pos hc] at hf
    refine lv_goto (tgt := 1476) hx hb dL_law_1459 (by decide) ?_
    refine lv_iinc (v := v4 + 5) (lv' := [(4, .int (v4 + 5)), (7, .double z5.1), (5, .double z4), (0, .ref b), (1, .ref h0), (2, .ref a0), (3, .ref c0)]) hx hb dL_law_1476 hl (k := 6) rfl rfl (by decide) rfl (fun ls hl => ?_)
    refine lv_goto (tgt := 23) hx hb dL_law_1479 (by decide) ?_
    exact hk23 (v4 + 5) x z5.2 w hf H locs ad _ _ (by omega) (by omega) hw _ (lv_sub hl [3, 4, 5, 6, 0] rfl)
  · rw [if_neg hc] at hf
    refine lv_dload hx hb dL_law_1441 (lv_at hl 1 rfl) ?_
    refine lv_dload hx hb dL_law_1443 (lv_at hl 1 rfl) ?_
    refine lv_dcmp hx hb dL_law_1445 ?_
    refine lv_if_eq (tgt := 1457) hx hb dL_law_1446 (by decide) (fun hc => ?_) (fun hc => ?_)
    · rw [if_pos hc] at hf
      refine lv_iconst (v := 0) hx hb dL_law_1457 (by decide) ?_
      exact absurd (Option.some.inj hf) (by decide)
    · rw [if_neg hc] at hf
      refine lv_dload hx hb dL_law_1449 (lv_at hl 0 rfl) ?_
      refine lv_dload hx hb dL_law_1451 (lv_at hl 0 rfl) ?_
      refine lv_dcmp hx hb dL_law_1453 ?_
      refine lv_if_ne (tgt := 1459) hx hb dL_law_1454 (by decide) (fun hc => ?_) (fun hc => ?_)
      · rw [if_neg hc] at hf
        refine lv_goto (tgt := 1476) hx hb dL_law_1459 (by decide) ?_
        refine lv_iinc (v := v4 + 5) (lv' := [(4, .int (v4 + 5)), (7, .double z5.1), (5, .double z4), (0, .ref b), (1, .ref h0), (2, .ref a0), (3, .ref c0)]) hx hb dL_law_1476 hl (k := 6) rfl rfl (by decide) rfl (fun ls hl => ?_)
        refine lv_goto (tgt := 23) hx hb dL_law_1479 (by decide) ?_
        exact hk23 (v4 + 5) x z5.2 w hf H locs ad _ _ (by omega) (by omega) hw _ (lv_sub hl [3, 4, 5, 6, 0] rfl)
      · rw [if_pos hc] at hf
        refine lv_iconst (v := 0) hx hb dL_law_1457 (by decide) ?_
        exact absurd (Option.some.inj hf) (by decide)
set_option maxRecDepth 100000 in
set_option maxHeartbeats 4000000 in
theorem k_L_law_1462 {p : Program} {l : Launch} {e : Env} {s : State} {m : MethodId} {below : List Frame} {meth : Method} {c : Code} {D : va_G} {I J O : ClassId} {b L : Nat} {xs : Fn} {h0 b0 b1 hh : Nat} {a0 a1 a2 a3 a4 a5 c0 : Nat} (E : fx p s m #[Value.ref b] meth c cL_law RL 9 ret D I J O) (hfl : l.stackTraces = false) (hXE : XE s) (hXs : va_X b L xs s s.heap) (hbl : b < s.heap.size) (n t : Nat → Nat) (ha : Nat) {fu : Nat} (k23 : Int32 → ClC → MdC → FnL → Option Int32) (hk23 : ∀ (v4 : Int32) (x : ClC) (o : MdC) (w : FnL), k23 v4 x o w = some 1 → ∀ (H : Heap) (locs : List Loc) (ad : Nat → Nat → Nat) (cells slots : Nat), cells + (fu) ≤ 601024 → slots + 6 * (fu) ≤ 7293034 → fy D (fun q : Nat => s.heap.size ≤ q) s.heap H locs (wCl I h0 n t b0 b1 hh x ++ wMd I a0 a1 a2 a3 a4 a5 o ++ wLo J c0 1 w ++ wHi I O hh ha ad x.2.2.1) → ∀ ls : Array Slot, lv_has ls 9 [(0, .ref b), (1, .ref h0), (2, .ref a0), (3, .ref c0), (4, .int v4)] → W p l e room_1 s m #[Value.ref b] below meth c H locs cells slots (lw_Z below #[Value.ref b] s) (F0 m 23 ls [])) : ∀ (v4 : Int32) (x : ClC) (o : MdC) (w : FnL), f_L_law_1462 L xs k23 v4 x o w = some 1 → ∀ (H : Heap) (locs : List Loc) (ad : Nat → Nat → Nat) (cells slots : Nat), cells + (fu + 1) ≤ 601024 → slots + 6 * (fu + 1) ≤ 7293034 → fy D (fun q : Nat => s.heap.size ≤ q) s.heap H locs (wCl I h0 n t b0 b1 hh x ++ wMd I a0 a1 a2 a3 a4 a5 o ++ wLo J c0 1 w ++ wHi I O hh ha ad x.2.2.1) → ∀ ls : Array Slot, lv_has ls 9 [(0, .ref b), (1, .ref h0), (2, .ref a0), (3, .ref c0), (4, .int v4)] → W p l e room_1 s m #[Value.ref b] below meth c H locs cells slots (lw_Z below #[Value.ref b] s) (F0 m 1462 ls []) := by
  have hx := E.1
  have hb := E.2.1
  have hbA : ¬ (fun q : Nat => s.heap.size ≤ q) b := Nat.not_le.mpr hbl
  intro v4 x o w hf H locs ad cells slots hcs hss hw ls hl
  unfold f_L_law_1462 at hf
  refine lv_aload_n hx hb dL_law_1462 rfl (lv_at hl 1 rfl) ?_
  obtain ⟨z1, h, hf⟩ := bd_s hf
  have hw : fy D (fun q : Nat => s.heap.size ≤ q) s.heap H locs ((wCl I h0 n t b0 b1 hh x) ++ (wMd I a0 a1 a2 a3 a4 a5 o ++ wLo J c0 1 w) ++ wHi I O hh ha ad x.2.2.1) := hw.part [0, 1, 2, 3, 4, 5, 6, 7, 8, 9, 10, 11, 12, 13, 14, 15, 16, 17, 18, 19, 20, 21, 22, 23, 24, 25, 26, 27, 28, 29, 30, 31, 32, 33] rfl rfl
  refine x_mlFP hw (x_rV E (As := []) (rest := []) (mt_X5_digest l D I J O h0 n t b0 b1 hh ha ad H.size x z1.1 z1.2 h) blM (x_recv E hw.1 0 5 rfl rfl rfl) (x_pcMPF E hw) ok_X5_digest q358 rfl hl.1 rfl (Nat.le_of_ble_eq_true rfl) ⟨Nat.le_of_ble_eq_true rfl, Nat.le_of_ble_eq_true rfl⟩ ⟨(show cells + 0 ≤ 601024 by omega), (show slots + 0 ≤ 7293034 by omega)⟩ dL_law_1463) (fun _ => rfl) (fun ad2 H locs hw => ?_)
  have hw : fy D (fun q : Nat => s.heap.size ≤ q) s.heap H locs ((wCl I h0 n t b0 b1 hh z1.2) ++ (wMd I a0 a1 a2 a3 a4 a5 o ++ wLo J c0 1 w) ++ wHi I O hh ha ad2 z1.2.2.2.1) := hw
  have hw : fy D (fun q : Nat => s.heap.size ≤ q) s.heap H locs (wCl I h0 n t b0 b1 hh z1.2 ++ wMd I a0 a1 a2 a3 a4 a5 o ++ wLo J c0 1 w ++ wHi I O hh ha ad2 z1.2.2.2.1) := hw.part [0, 1, 2, 3, 4, 5, 6, 7, 8, 9, 10, 11, 12, 13, 14, 15, 16, 17, 18, 19, 20, 21, 22, 23, 24, 25, 26, 27, 28, 29, 30, 31, 32, 33] rfl rfl
  have hw : fy D (fun q : Nat => s.heap.size ≤ q) s.heap H locs (wCl I h0 n t b0 b1 hh z1.2 ++ wMd I a0 a1 a2 a3 a4 a5 o ++ wLo J c0 1 w ++ wHi I O hh ha ad2 z1.2.2.2.1) := hw
  refine lv_aload_n hx hb dL_law_1466 rfl (lv_at hl 2 rfl) ?_
  obtain ⟨z3, h, hf⟩ := bd_s hf
  refine x_ml hw [27, 28, 29, 30, 31, 32] rfl rfl (x_rV E (As := []) (rest := [.long z1.1]) (mt_X6_digest l D I J O a0 a1 a2 a3 a4 a5 H.size o z3.1 z3.2 h) blM (x_recv E hw.1 27 6 rfl rfl rfl) (x_pcMQ E hw [27, 28, 29, 30, 31, 32] rfl rfl) ok_X6_digest q1095 rfl hl.1 rfl (Nat.le_of_ble_eq_true rfl) ⟨Nat.le_of_ble_eq_true rfl, Nat.le_of_ble_eq_true rfl⟩ ⟨(show cells + 0 + 0 ≤ 601024 by omega), (show slots + 0 + 0 ≤ 7293034 by omega)⟩ dL_law_1467) (fun _ => rfl) (fun _ H locs hw => ?_)
  have hw : fy D (fun q : Nat => s.heap.size ≤ q) s.heap H locs (wCl I h0 n t b0 b1 hh z1.2 ++ wMd I a0 a1 a2 a3 a4 a5 z3.2 ++ wLo J c0 1 w ++ wHi I O hh ha ad2 z1.2.2.2.1) := hw
  refine W.lcmp hx hb dL_law_1470 ?_
  refine lv_if_eq (tgt := 1476) hx hb dL_law_1471 (by decide) (fun hc => ?_) (fun hc => ?_)
  · rw [if_pos hc] at hf
    refine lv_iinc (v := v4 + 5) (lv' := [(4, .int (v4 + 5)), (0, .ref b), (1, .ref h0), (2, .ref a0), (3, .ref c0)]) hx hb dL_law_1476 hl (k := 4) rfl rfl (by decide) rfl (fun ls hl => ?_)
    refine lv_goto (tgt := 23) hx hb dL_law_1479 (by decide) ?_
    exact hk23 (v4 + 5) z1.2 z3.2 w hf H locs ad2 _ _ (by omega) (by omega) hw _ (lv_sub hl [1, 2, 3, 4, 0] rfl)
  · rw [if_neg hc] at hf
    refine lv_iconst (v := 0) hx hb dL_law_1474 (by decide) ?_
    exact absurd (Option.some.inj hf) (by decide)
set_option maxRecDepth 100000 in
set_option maxHeartbeats 4000000 in
theorem k_L_law_23 {p : Program} {l : Launch} {e : Env} {s : State} {m : MethodId} {below : List Frame} {meth : Method} {c : Code} {D : va_G} {I J O : ClassId} (b L : Nat) (xs : Fn) (h0 : Nat) (n t : Nat → Nat) (b0 b1 hh ha : Nat) (a0 a1 a2 a3 a4 a5 c0 : Nat) (E : fx p s m #[Value.ref b] meth c cL_law RL 9 ret D I J O) (hfl : l.stackTraces = false) (hXE : XE s) (hXs : va_X b L xs s s.heap) (hbl : b < s.heap.size) : ∀ fu : Nat, ∀ (v4 : Int32) (x : ClC) (o : MdC) (w : FnL), f_L_law_23 L xs fu v4 x o w = some 1 → ∀ (H : Heap) (locs : List Loc) (ad : Nat → Nat → Nat) (cells slots : Nat), cells + (fu) ≤ 601024 → slots + 6 * (fu) ≤ 7293034 → fy D (fun q : Nat => s.heap.size ≤ q) s.heap H locs (wCl I h0 n t b0 b1 hh x ++ wMd I a0 a1 a2 a3 a4 a5 o ++ wLo J c0 1 w ++ wHi I O hh ha ad x.2.2.1) → ∀ ls : Array Slot, lv_has ls 9 [(0, .ref b), (1, .ref h0), (2, .ref a0), (3, .ref c0), (4, .int v4)] → W p l e room_1 s m #[Value.ref b] below meth c H locs cells slots (lw_Z below #[Value.ref b] s) (F0 m 23 ls []) := by
  have hx := E.1
  have hb := E.2.1
  have hbA : ¬ (fun q : Nat => s.heap.size ≤ q) b := Nat.not_le.mpr hbl
  intro fu
  induction fu with
  | zero =>
    intro v4 x o w hf H locs ad cells slots hcs hss hw ls hl
    rw [f_L_law_23.eq_1] at hf
    cases hf
  | succ fu ih =>
    intro v4 x o w hf H locs ad cells slots hcs hss hw ls hl
    rw [f_L_law_23.eq_2] at hf
    refine lv_iload hx hb dL_law_23 (lv_at hl 4 rfl) ?_
    refine lv_aload_n hx hb dL_law_25 rfl (lv_at hl 0 rfl) ?_
    refine va_slen hx hb hXs hbl hbA hw.2.2.1 dL_law_26 ?_
    refine lv_iconst (v := 5) hx hb dL_law_27 (by decide) ?_
    refine lv_isub hx hb dL_law_28 ?_
    refine lv_icmp_gt (tgt := 1482) hx hb dL_law_29 (by decide) (fun hc => ?_) (fun hc => ?_)
    · rw [if_pos hc] at hf
      refine lv_iconst (v := 1) hx hb dL_law_1482 (by decide) ?_
      refine va_forget hw.2.2.1.2.2 ?_
      refine W.widen (k := 601024) (n := 7293034) (by omega) (by omega) ?_
      exact lw_ret (d0 := s.drawn) (Drawn.sameBut.refl s.drawn lw_cs) hx hb E.2.2.2.2.2.2.1 E.2.2.2.2.2.2.2 dL_law_1483
    · rw [if_neg hc] at hf
      refine lv_aload_n hx hb dL_law_32 rfl (lv_at hl 0 rfl) ?_
      refine lv_iload hx hb dL_law_33 (lv_at hl 4 rfl) ?_
      obtain ⟨g, hf⟩ := gi_s hf
      refine va_sld hx hb hXs hbl hbA hw.2.2.1 g dL_law_35 ?_
      refine lv_bipush (v := 31) hx hb dL_law_36 (by decide) ?_
      refine lv_iand hx hb dL_law_38 ?_
      by_cases hc0 : ((xs v4.toNatClampNeg) &&& 31) = 0
      · rw [if_pos hc0] at hf
        refine lv_tableIn (tgt := 156) hx hb dL_law_39 (by rw [hc0]; decide) (by rw [hc0]; decide) (by rw [hc0]; rfl) (by decide) ?_
        exact k_L_law_156 E hfl hXE hXs hbl n t ha _ ih v4 x o w hf H locs ad _ _ (by omega) (by omega) hw _ (lv_sub hl [0, 1, 2, 3, 4] rfl)
      · rw [if_neg hc0] at hf
        by_cases hc1 : ((xs v4.toNatClampNeg) &&& 31) = 1
        · rw [if_pos hc1] at hf
          refine lv_tableIn (tgt := 236) hx hb dL_law_39 (by rw [hc1]; decide) (by rw [hc1]; decide) (by rw [hc1]; rfl) (by decide) ?_
          exact k_L_law_236 E hfl hXE hXs hbl n t ha _ ih v4 x o w hf H locs ad _ _ (by omega) (by omega) hw _ (lv_sub hl [0, 1, 2, 3, 4] rfl)
        · rw [if_neg hc1] at hf
          by_cases hc2 : ((xs v4.toNatClampNeg) &&& 31) = 2
          · rw [if_pos hc2] at hf
            refine lv_tableIn (tgt := 328) hx hb dL_law_39 (by rw [hc2]; decide) (by rw [hc2]; decide) (by rw [hc2]; rfl) (by decide) ?_
            exact k_L_law_328 E hfl hXE hXs hbl n t ha _ ih v4 x o w hf H locs ad _ _ (by omega) (by omega) hw _ (lv_sub hl [0, 1, 2, 3, 4] rfl)
          · rw [if_neg hc2] at hf
            by_cases hc3 : ((xs v4.toNatClampNeg) &&& 31) = 3
            · rw [if_pos hc3] at hf
              refine lv_tableIn (tgt := 384) hx hb dL_law_39 (by rw [hc3]; decide) (by rw [hc3]; decide) (by rw [hc3]; rfl) (by decide) ?_
              exact k_L_law_384 E hfl hXE hXs hbl n t ha _ ih v4 x o w hf H locs ad _ _ (by omega) (by omega) hw _ (lv_sub hl [0, 1, 2, 3, 4] rfl)
            · rw [if_neg hc3] at hf
              by_cases hc4 : ((xs v4.toNatClampNeg) &&& 31) = 4
              · rw [if_pos hc4] at hf
                refine lv_tableIn (tgt := 452) hx hb dL_law_39 (by rw [hc4]; decide) (by rw [hc4]; decide) (by rw [hc4]; rfl) (by decide) ?_
                exact k_L_law_452 E hfl hXE hXs hbl n t ha _ ih v4 x o w hf H locs ad _ _ (by omega) (by omega) hw _ (lv_sub hl [0, 1, 2, 3, 4] rfl)
              · rw [if_neg hc4] at hf
                by_cases hc5 : ((xs v4.toNatClampNeg) &&& 31) = 5
                · rw [if_pos hc5] at hf
                  refine lv_tableIn (tgt := 508) hx hb dL_law_39 (by rw [hc5]; decide) (by rw [hc5]; decide) (by rw [hc5]; rfl) (by decide) ?_
                  exact k_L_law_508 E hfl hXE hXs hbl n t ha _ ih v4 x o w hf H locs ad _ _ (by omega) (by omega) hw _ (lv_sub hl [0, 1, 2, 3, 4] rfl)
                · rw [if_neg hc5] at hf
                  by_cases hc6 : ((xs v4.toNatClampNeg) &&& 31) = 6
                  · rw [if_pos hc6] at hf
                    refine lv_tableIn (tgt := 564) hx hb dL_law_39 (by rw [hc6]; decide) (by rw [hc6]; decide) (by rw [hc6]; rfl) (by decide) ?_
                    exact k_L_law_564 E hfl hXE hXs hbl n t ha _ ih v4 x o w hf H locs ad _ _ (by omega) (by omega) hw _ (lv_sub hl [0, 1, 2, 3, 4] rfl)
                  · rw [if_neg hc6] at hf
                    by_cases hc7 : ((xs v4.toNatClampNeg) &&& 31) = 7
                    · rw [if_pos hc7] at hf
                      refine lv_tableIn (tgt := 620) hx hb dL_law_39 (by rw [hc7]; decide) (by rw [hc7]; decide) (by rw [hc7]; rfl) (by decide) ?_
                      exact k_L_law_620 E hfl hXE hXs hbl n t ha _ ih v4 x o w hf H locs ad _ _ (by omega) (by omega) hw _ (lv_sub hl [0, 1, 2, 3, 4] rfl)
                    · rw [if_neg hc7] at hf
                      by_cases hc8 : ((xs v4.toNatClampNeg) &&& 31) = 8
                      · rw [if_pos hc8] at hf
                        refine lv_tableIn (tgt := 633) hx hb dL_law_39 (by rw [hc8]; decide) (by rw [hc8]; decide) (by rw [hc8]; rfl) (by decide) ?_
                        exact k_L_law_633 E hfl hXE hXs hbl n t ha _ ih v4 x o w hf H locs ad _ _ (by omega) (by omega) hw _ (lv_sub hl [0, 1, 2, 3, 4] rfl)
                      · rw [if_neg hc8] at hf
                        by_cases hc9 : ((xs v4.toNatClampNeg) &&& 31) = 9
                        · rw [if_pos hc9] at hf
                          refine lv_tableIn (tgt := 646) hx hb dL_law_39 (by rw [hc9]; decide) (by rw [hc9]; decide) (by rw [hc9]; rfl) (by decide) ?_
                          exact k_L_law_646 E hfl hXE hXs hbl n t ha _ ih v4 x o w hf H locs ad _ _ (by omega) (by omega) hw _ (lv_sub hl [0, 1, 2, 3, 4] rfl)
                        · rw [if_neg hc9] at hf
                          by_cases hc10 : ((xs v4.toNatClampNeg) &&& 31) = 10
                          · rw [if_pos hc10] at hf
                            refine lv_tableIn (tgt := 702) hx hb dL_law_39 (by rw [hc10]; decide) (by rw [hc10]; decide) (by rw [hc10]; rfl) (by decide) ?_
                            exact k_L_law_702 E hfl hXE hXs hbl n t ha _ ih v4 x o w hf H locs ad _ _ (by omega) (by omega) hw _ (lv_sub hl [0, 1, 2, 3, 4] rfl)
                          · rw [if_neg hc10] at hf
                            by_cases hc11 : ((xs v4.toNatClampNeg) &&& 31) = 11
                            · rw [if_pos hc11] at hf
                              refine lv_tableIn (tgt := 715) hx hb dL_law_39 (by rw [hc11]; decide) (by rw [hc11]; decide) (by rw [hc11]; rfl) (by decide) ?_
                              exact k_L_law_715 E hfl hXE hXs hbl n t ha _ ih v4 x o w hf H locs ad _ _ (by omega) (by omega) hw _ (lv_sub hl [0, 1, 2, 3, 4] rfl)
                            · rw [if_neg hc11] at hf
                              by_cases hc12 : ((xs v4.toNatClampNeg) &&& 31) = 12
                              · rw [if_pos hc12] at hf
                                refine lv_tableIn (tgt := 728) hx hb dL_law_39 (by rw [hc12]; decide) (by rw [hc12]; decide) (by rw [hc12]; rfl) (by decide) ?_
                                exact k_L_law_728 E hfl hXE hXs hbl n t ha _ ih v4 x o w hf H locs ad _ _ (by omega) (by omega) hw _ (lv_sub hl [0, 1, 2, 3, 4] rfl)
                              · rw [if_neg hc12] at hf
                                by_cases hc13 : ((xs v4.toNatClampNeg) &&& 31) = 13
                                · rw [if_pos hc13] at hf
                                  refine lv_tableIn (tgt := 772) hx hb dL_law_39 (by rw [hc13]; decide) (by rw [hc13]; decide) (by rw [hc13]; rfl) (by decide) ?_
                                  exact k_L_law_772 E hfl hXE hXs hbl n t ha _ ih v4 x o w hf H locs ad _ _ (by omega) (by omega) hw _ (lv_sub hl [0, 1, 2, 3, 4] rfl)
                                · rw [if_neg hc13] at hf
                                  by_cases hc14 : ((xs v4.toNatClampNeg) &&& 31) = 14
                                  · rw [if_pos hc14] at hf
                                    refine lv_tableIn (tgt := 816) hx hb dL_law_39 (by rw [hc14]; decide) (by rw [hc14]; decide) (by rw [hc14]; rfl) (by decide) ?_
                                    exact k_L_law_816 E hfl hXE hXs hbl n t ha _ ih v4 x o w hf H locs ad _ _ (by omega) (by omega) hw _ (lv_sub hl [0, 1, 2, 3, 4] rfl)
                                  · rw [if_neg hc14] at hf
                                    by_cases hc15 : ((xs v4.toNatClampNeg) &&& 31) = 15
                                    · rw [if_pos hc15] at hf
                                      refine lv_tableIn (tgt := 841) hx hb dL_law_39 (by rw [hc15]; decide) (by rw [hc15]; decide) (by rw [hc15]; rfl) (by decide) ?_
                                      exact k_L_law_841 E hfl hXE hXs hbl n t ha _ ih v4 x o w hf H locs ad _ _ (by omega) (by omega) hw _ (lv_sub hl [0, 1, 2, 3, 4] rfl)
                                    · rw [if_neg hc15] at hf
                                      by_cases hc16 : ((xs v4.toNatClampNeg) &&& 31) = 16
                                      · rw [if_pos hc16] at hf
                                        refine lv_tableIn (tgt := 909) hx hb dL_law_39 (by rw [hc16]; decide) (by rw [hc16]; decide) (by rw [hc16]; rfl) (by decide) ?_
                                        exact k_L_law_909 E hfl hXE hXs hbl n t ha _ ih v4 x o w hf H locs ad _ _ (by omega) (by omega) hw _ (lv_sub hl [0, 1, 2, 3, 4] rfl)
                                      · rw [if_neg hc16] at hf
                                        by_cases hc17 : ((xs v4.toNatClampNeg) &&& 31) = 17
                                        · rw [if_pos hc17] at hf
                                          refine lv_tableIn (tgt := 965) hx hb dL_law_39 (by rw [hc17]; decide) (by rw [hc17]; decide) (by rw [hc17]; rfl) (by decide) ?_
                                          exact k_L_law_965 E hfl hXE hXs hbl n t ha _ ih v4 x o w hf H locs ad _ _ (by omega) (by omega) hw _ (lv_sub hl [0, 1, 2, 3, 4] rfl)
                                        · rw [if_neg hc17] at hf
                                          by_cases hc18 : ((xs v4.toNatClampNeg) &&& 31) = 18
                                          · rw [if_pos hc18] at hf
                                            refine lv_tableIn (tgt := 1033) hx hb dL_law_39 (by rw [hc18]; decide) (by rw [hc18]; decide) (by rw [hc18]; rfl) (by decide) ?_
                                            exact k_L_law_1033 E hfl hXE hXs hbl n t ha _ ih v4 x o w hf H locs ad _ _ (by omega) (by omega) hw _ (lv_sub hl [0, 1, 2, 3, 4] rfl)
                                          · rw [if_neg hc18] at hf
                                            by_cases hc19 : ((xs v4.toNatClampNeg) &&& 31) = 19
                                            · rw [if_pos hc19] at hf
                                              refine lv_tableIn (tgt := 1101) hx hb dL_law_39 (by rw [hc19]; decide) (by rw [hc19]; decide) (by rw [hc19]; rfl) (by decide) ?_
                                              exact k_L_law_1101 E hfl hXE hXs hbl n t ha _ ih v4 x o w hf H locs ad _ _ (by omega) (by omega) hw _ (lv_sub hl [0, 1, 2, 3, 4] rfl)
                                            · rw [if_neg hc19] at hf
                                              by_cases hc20 : ((xs v4.toNatClampNeg) &&& 31) = 20
                                              · rw [if_pos hc20] at hf
                                                refine lv_tableIn (tgt := 1157) hx hb dL_law_39 (by rw [hc20]; decide) (by rw [hc20]; decide) (by rw [hc20]; rfl) (by decide) ?_
                                                exact k_L_law_1157 E hfl hXE hXs hbl n t ha _ ih v4 x o w hf H locs ad _ _ (by omega) (by omega) hw _ (lv_sub hl [0, 1, 2, 3, 4] rfl)
                                              · rw [if_neg hc20] at hf
                                                by_cases hc21 : ((xs v4.toNatClampNeg) &&& 31) = 21
                                                · rw [if_pos hc21] at hf
                                                  refine lv_tableIn (tgt := 1213) hx hb dL_law_39 (by rw [hc21]; decide) (by rw [hc21]; decide) (by rw [hc21]; rfl) (by decide) ?_
                                                  exact k_L_law_1213 E hfl hXE hXs hbl n t ha _ ih v4 x o w hf H locs ad _ _ (by omega) (by omega) hw _ (lv_sub hl [0, 1, 2, 3, 4] rfl)
                                                · rw [if_neg hc21] at hf
                                                  by_cases hc22 : ((xs v4.toNatClampNeg) &&& 31) = 22
                                                  · rw [if_pos hc22] at hf
                                                    refine lv_tableIn (tgt := 1269) hx hb dL_law_39 (by rw [hc22]; decide) (by rw [hc22]; decide) (by rw [hc22]; rfl) (by decide) ?_
                                                    exact k_L_law_1269 E hfl hXE hXs hbl n t ha _ ih v4 x o w hf H locs ad _ _ (by omega) (by omega) hw _ (lv_sub hl [0, 1, 2, 3, 4] rfl)
                                                  · rw [if_neg hc22] at hf
                                                    by_cases hc23 : ((xs v4.toNatClampNeg) &&& 31) = 23
                                                    · rw [if_pos hc23] at hf
                                                      refine lv_tableIn (tgt := 1337) hx hb dL_law_39 (by rw [hc23]; decide) (by rw [hc23]; decide) (by rw [hc23]; rfl) (by decide) ?_
                                                      exact k_L_law_1337 E hfl hXE hXs hbl n t ha _ ih v4 x o w hf H locs ad _ _ (by omega) (by omega) hw _ (lv_sub hl [0, 1, 2, 3, 4] rfl)
                                                    · rw [if_neg hc23] at hf
                                                      by_cases hc24 : ((xs v4.toNatClampNeg) &&& 31) = 24
                                                      · rw [if_pos hc24] at hf
                                                        refine lv_tableIn (tgt := 1421) hx hb dL_law_39 (by rw [hc24]; decide) (by rw [hc24]; decide) (by rw [hc24]; rfl) (by decide) ?_
                                                        exact k_L_law_1421 E hfl hXE hXs hbl n t ha _ ih v4 x o w hf H locs ad _ _ (by omega) (by omega) hw _ (lv_sub hl [0, 1, 2, 3, 4] rfl)
                                                      · rw [if_neg hc24] at hf
                                                        by_cases hc25 : ((xs v4.toNatClampNeg) &&& 31) = 25
                                                        · rw [if_pos hc25] at hf
                                                          refine lv_tableIn (tgt := 1462) hx hb dL_law_39 (by rw [hc25]; decide) (by rw [hc25]; decide) (by rw [hc25]; rfl) (by decide) ?_
                                                          exact k_L_law_1462 E hfl hXE hXs hbl n t ha _ ih v4 x o w hf H locs ad _ _ (by omega) (by omega) hw _ (lv_sub hl [0, 1, 2, 3, 4] rfl)
                                                        · rw [if_neg hc25] at hf
                                                          refine lv_tableOut (tgt := 1476) hx hb dL_law_39 (by have q0 := sw_ne 0 0 (by decide) hc0; have q1 := sw_ne 1 1 (by decide) hc1; have q2 := sw_ne 2 2 (by decide) hc2; have q3 := sw_ne 3 3 (by decide) hc3; have q4 := sw_ne 4 4 (by decide) hc4; have q5 := sw_ne 5 5 (by decide) hc5; have q6 := sw_ne 6 6 (by decide) hc6; have q7 := sw_ne 7 7 (by decide) hc7; have q8 := sw_ne 8 8 (by decide) hc8; have q9 := sw_ne 9 9 (by decide) hc9; have q10 := sw_ne 10 10 (by decide) hc10; have q11 := sw_ne 11 11 (by decide) hc11; have q12 := sw_ne 12 12 (by decide) hc12; have q13 := sw_ne 13 13 (by decide) hc13; have q14 := sw_ne 14 14 (by decide) hc14; have q15 := sw_ne 15 15 (by decide) hc15; have q16 := sw_ne 16 16 (by decide) hc16; have q17 := sw_ne 17 17 (by decide) hc17; have q18 := sw_ne 18 18 (by decide) hc18; have q19 := sw_ne 19 19 (by decide) hc19; have q20 := sw_ne 20 20 (by decide) hc20; have q21 := sw_ne 21 21 (by decide) hc21; have q22 := sw_ne 22 22 (by decide) hc22; have q23 := sw_ne 23 23 (by decide) hc23; have q24 := sw_ne 24 24 (by decide) hc24; have q25 := sw_ne 25 25 (by decide) hc25; omega) (by decide) ?_
                                                          refine lv_iinc (v := v4 + 5) (lv' := [(4, .int (v4 + 5)), (0, .ref b), (1, .ref h0), (2, .ref a0), (3, .ref c0)]) hx hb dL_law_1476 hl (k := 4) rfl rfl (by decide) rfl (fun ls hl => ?_)
                                                          refine lv_goto (tgt := 23) hx hb dL_law_1479 (by decide) ?_
                                                          exact ih (v4 + 5) x o w hf H locs ad _ _ (by omega) (by omega) hw _ (lv_sub hl [1, 2, 3, 4, 0] rfl)
