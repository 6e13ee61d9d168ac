/-! Exceptions: what a thrower needs of the start, how it throws, and what its caller's handler gets. -/
def exn : Nat → String
  | 1 => "java/lang/IllegalArgumentException"
  | 2 => "java/lang/IllegalStateException"
  | _ => "java/lang/IndexOutOfBoundsException"
/-- the texts of the messages -/
def TX : List (Nat × String) := [(160, "there is no saved state"), (182, "the place is below 0"), (233, "what is not 0 to 9"), (39, "value, size or kind is out of range"), (56, "there is no room"), (85, "the handle is refused"), (102, "the value is out of range"), (111, "there is no such walker"), (125, "the walker does not stand on a thing"), (133, "the code is not 33 to 126"), (139, "the buffer is full"), (154, "the buffer is not complete things as a text"), (180, "what is not 0 to 5"), (190, "it is not a cell of the store"), (198, "what is not 0 or 1"), (203, "what is not 0 to 2"), (238, "the size is out of range"), (246, "events or what is out of range")]
/-- the words of a throw that are no good words -/
def NG (en : String) : List Cond := [.declares (Bundle.initS "java/lang/RuntimeException"), .declares (Bundle.initS "java/lang/Exception"), .declares (Bundle.initS Bundle.tN), .castable en en]
def XE (U : State) : Prop := vx_Zq Bundle.tN "UNASSIGNED_STACK" Bundle.steD (fun _ => False) U U.heap ∧ vx_Zq Bundle.tN "SUPPRESSED_SENTINEL" Bundle.listD (fun _ => False) U U.heap ∧
  (va_Nw (.castable (exn 1) (exn 1)) U ∧ va_Nw (.castable (exn 2) (exn 2)) U ∧ va_Nw (.castable (exn 3) (exn 3)) U) ∧ (va_Nc (exn 2) (exn 1) U ∧ va_Nc (exn 1) (exn 3) U ∧ va_Nc (exn 2) (exn 3) U) ∧ (∀ q ∈ TX, ∃ sa, vk_R RX5 q.1 q.2 sa U) ∧ va_Nw (.declares (Bundle.initS "java/lang/RuntimeException")) U ∧ va_Nw (.declares (Bundle.initS "java/lang/Exception")) U ∧ va_Nw (.declares (Bundle.initS Bundle.tN)) U
theorem XE.at {s U : State} (h : XE s) (hW : s.WarmedH U.vm) (hh : U.heap = s.heap) : XE U := by
  obtain ⟨h1, h2, ⟨a1, a2, a3⟩, ⟨b1, b2, b3⟩, h5, d1, d2, d3⟩ := h
  refine ⟨?_, ?_, ⟨va_Nw.warmC hW a1, va_Nw.warmC hW a2, va_Nw.warmC hW a3⟩, ⟨b1.moved hW.alike, b2.moved hW.alike, b3.moved hW.alike⟩, fun q hq => ?_, va_Nw.warmD hW d1, va_Nw.warmD hW d2, va_Nw.warmD hW d3⟩
  · rw [hh]; exact vx_Zq.moved hW.alike h1
  · rw [hh]; exact vx_Zq.moved hW.alike h2
  · obtain ⟨sa, h⟩ := h5 q hq
    exact ⟨sa, vk_R.warm hW h⟩
theorem XE.calling {U : State} {g : JFrame} {mk : MethodId} {a : Array Value} (h : XE U) : XE (U.calling g mk a) := by
  obtain ⟨h1, h2, ⟨a1, a2, a3⟩, ⟨b1, b2, b3⟩, h5, d1, d2, d3⟩ := h
  have hA : U.vm.Alike (U.calling g mk a).vm := Vm.Alike.refl U.vm
  refine ⟨vx_Zq.moved (u := U) (U := U.calling g mk a) hA h1, vx_Zq.moved (u := U) (U := U.calling g mk a) hA h2, ⟨va_Nw.same rfl rfl a1, va_Nw.same rfl rfl a2, va_Nw.same rfl rfl a3⟩, ⟨b1.moved hA, b2.moved hA, b3.moved hA⟩, fun q hq => ?_, va_Nw.same rfl rfl d1, va_Nw.same rfl rfl d2, va_Nw.same rfl rfl d3⟩
  obtain ⟨sa, h⟩ := h5 q hq
  exact ⟨sa, vk_R.same rfl h⟩
/-- an exception of the class en, all cells as they were -/
def xcX (en : String) : String → State → State → Prop := fun E st t => E = en ∧ st.heap.size ≤ t.heap.size ∧ ∀ q : Nat, q < st.heap.size → t.heap[q]? = st.heap[q]?
abbrev pcX (D : va_G) (I J O : ClassId) (sz : Nat) (As : List Value) (ws : va_W) : Array Value → State → Prop := va_Pc As (fun U => U.heap.size = sz ∧ va_P D vwCl ws U.heap ∧ XK D I J O U ∧ XE U)
abbrev qcF : Array Value → State → Outcome → State → Prop := fun _ _ _ _ => False
/-- a contract of a method that throws -/
abbrev mX (l : Launch) (y : MethodName) (cc : ByteArray) (maxL : Nat) (rt : Option FieldType) (fr lo : Nat) (D : va_G) (I J O : ClassId) (sz : Nat) (As : List Value) (ws : va_W) (en : String) : Prop :=
  vx_Met l y (wsB y cc maxL rt) (rmB fr lo 1 6) (pcX D I J O sz As ws) qcF (xcX en) 1 6 (fun q => sz ≤ q)
theorem blX {D : va_G} {I J O : ClassId} {sz : Nat} {As : List Value} {ws : va_W} : FrameBlind (pcX D I J O sz As ws) := fun _ _ _ _ q => ⟨q.1, q.2.1, q.2.2.1, q.2.2.2.1.calling, q.2.2.2.2.calling⟩
theorem mX_open {l : Launch} {y : MethodName} {cc : ByteArray} {maxL : Nat} {rt : Option FieldType} {fr lo : Nat} {D : va_G} {I J O : ClassId} {sz : Nat} {As : List Value} {ws : va_W} {en : String} {own : String} (ho : y.cls = own) (hy : plainName y.cls = true) (hn : (lg_sl As).length ≤ maxL)
    (body : ∀ (p : Program) (e : Env) (s : State) (m : MethodId) (below : List Frame) (meth : Method) (c : Code) (ls : Array Slot), fx p s m As.toArray meth c cc own maxL rt D I J O → (∀ x ∈ c.exceptionTable.toList, False) → XE s → s.heap.size = sz → va_P D vwCl ws s.heap → lv_has ls maxL (lv_args 0 As) →
      W p l e (rmB fr lo 1 6) s m As.toArray below meth c s.heap [] 0 0 (vx_MQ below qcF (xcX en) As.toArray s 1 6 (fun q => sz ≤ q)) (F0 m 0 ls [])) : mX l y cc maxL rt fr lo D I J O sz As ws en := by
  subst ho
  refine vx_ofW (cc := cc) (maxL := maxL) (ret := rt) hy rfl ?_
  intro p e s m args below meth c s₁ B hml htab hv
  obtain ⟨rfl, hsz, hP, hK, hX⟩ := hv
  have hts := atoms_spec (ws := wsB y cc maxL rt) B.pre
  rw [lg_entry_eq]
  exact body p e s m below meth c _ ⟨B.exec, B.bytes, hml, findClass_of_methodNamed B.named, fun w h => hts w (List.mem_cons_of_mem _ h), hK, B.returns, B.notSynchronized⟩ htab hX hsz hP (lv_entry As hn)
/-- a contract of a wrapper: a method with handlers of its own -/
abbrev wsW (y : MethodName) (cc : ByteArray) (maxL : Nat) (rt : Option FieldType) (hh : List (Nat × Nat × Nat × Nat)) : List Cond := Cond.codeWith y cc maxL rt hh :: B0
abbrev pcW (D : va_G) (I J O : ClassId) (sz : Nat) (As : List Value) (ws : va_W) : Array Value → State → Prop := va_Pc As (fun U => U.heap.size = sz ∧ va_P D vwCl ws U.heap ∧ XK D I J O U ∧ va_D (fun _ => True) ws ∧ XE U)
abbrev mW (l : Launch) (y : MethodName) (cc : ByteArray) (maxL : Nat) (rt : Option FieldType) (hh : List (Nat × Nat × Nat × Nat)) (fr lo : Nat) (D : va_G) (I J O : ClassId) (sz : Nat) (As : List Value) (ws : va_W) (Qc : Array Value → State → Outcome → State → Prop) : Prop :=
  Met l y (wsW y cc maxL rt hh) (rmB fr lo 1 6) (pcW D I J O sz As ws) Qc 1 6 (va_A ws sz)
theorem blW {D : va_G} {I J O : ClassId} {sz : Nat} {As : List Value} {ws : va_W} : FrameBlind (pcW D I J O sz As ws) := fun _ _ _ _ q => ⟨q.1, q.2.1, q.2.2.1, q.2.2.2.1.calling, q.2.2.2.2.1, q.2.2.2.2.2.calling⟩
theorem mW_open {l : Launch} {y : MethodName} {cc : ByteArray} {maxL : Nat} {rt : Option FieldType} {hh : List (Nat × Nat × Nat × Nat)} {fr lo : Nat} {D : va_G} {I J O : ClassId} {sz : Nat} {As : List Value} {ws : va_W} {Qc : Array Value → State → Outcome → State → Prop} {own : String} (ho : y.cls = own) (hy : plainName y.cls = true) (hn : (lg_sl As).length ≤ maxL)
    (body : ∀ (p : Program) (e : Env) (s : State) (m : MethodId) (below : List Frame) (meth : Method) (c : Code) (ls : Array Slot), fx p s m As.toArray meth c cc own maxL rt D I J O → c.exceptionTable.toList = tableOf hh → XE s → s.heap.size = sz → fy D (va_A ws sz) s.heap s.heap [] ws → lv_has ls maxL (lv_args 0 As) →
      W p l e (rmB fr lo 1 6) s m As.toArray below meth c s.heap [] 0 0 (MQ below Qc As.toArray s 1 6 (va_A ws sz)) (F0 m 0 ls [])) : mW l y cc maxL rt hh fr lo D I J O sz As ws Qc := by
  subst ho
  refine va_MetW (cc := cc) (maxL := maxL) (ret := rt) hy rfl ?_
  intro p e s m args below meth c s₁ B hml hv
  obtain ⟨rfl, hsz, hP, hK, hD0, hX⟩ := hv
  have hts := atoms_spec (ws := wsW y cc maxL rt hh) B.pre
  rw [lg_entry_eq]
  exact body p e s m below meth c _ ⟨B.exec, B.bytes, hml, findClass_of_methodNamed B.named, fun w h => hts w (List.mem_cons_of_mem _ h), hK, B.returns, B.notSynchronized⟩ (vx_table (x := y) B (hts _ List.mem_cons_self)) hX hsz ⟨hP, hD0.self, va_S.rf, fun q h => Or.inr (by rw [← hsz]; exact h)⟩ (lv_entry As hn)
def yW (y : MethodName) (cc : ByteArray) (maxL : Nat) (rt : Option FieldType) (hh : List (Nat × Nat × Nat × Nat)) (n : Nat) : Prop := Cond.codeWith y cc maxL rt hh ∈ B0 ∧ Cond.initialized y.cls ∈ B0 ∧ Cond.static y ∈ B0 ∧ y.cls ≠ "java/lang/invoke/MethodHandle" ∧ y.cls ≠ "java/lang/invoke/VarHandle" ∧ (parseMethodDescriptor y.desc).map (fun d => d.parameters.length) = some n
section
variable {p : Program} {l : Launch} {e : Env} {R : Room} {s : State} {m : MethodId} {args : Array Value} {below : List Frame} {meth : Method} {c : Code} {H H0 : Heap} {locs : List Loc} {cells slots : Nat} {Q : State → Prop} {pc : Nat} {ls : Array Slot} {rest : List Value} {cc : ByteArray} {own : String} {nL : Nat} {rt : Option FieldType} {D : va_G} {I J O : ClassId} {A : Nat → Prop} {a : Nat}
theorem x_thr (E : fx p s m args meth c cc RX5 nL rt D I J O) (htab : ∀ x ∈ c.exceptionTable.toList, False) (hfl : l.stackTraces = false) (hX : XE s) (hsz : ls.size = nL) {en text : String} {ik is ic sz fr lo : Nat} (hz : s.heap.size = sz) (hcls : Bundle.fit en = true) (hk : Cond.classLink RX5 ik en ∈ B0) (hini : Cond.initialized en ∈ B0) (htx : (is, text) ∈ TX)
    (hat : ∀ w ∈ (vx_atS RX5 ic en ["java/lang/RuntimeException", "java/lang/Exception"]).filter goodWord, w ∈ B0) (hng : ∀ w ∈ (vx_atS RX5 ic en ["java/lang/RuntimeException", "java/lang/Exception"]).filter (fun w => !goodWord w), w ∈ NG en) (hgood : ∀ w ∈ Cond.classLink RX5 ik en :: Cond.initialized en :: vx_atS RX5 ic en ["java/lang/RuntimeException", "java/lang/Exception"], vx_ot w = true) (hca : va_Nw (.castable en en) s)
    (d0 : decode cc pc = .ok (.new ik, 3)) (d3 : decode cc (pc + 3) = .ok (.dup, 1)) (d4 : decode cc (pc + 4) = .ok (.ldc is, 2)) (d6 : decode cc (pc + 6) = .ok (.invokespecial ic, 3)) (d9 : decode cc (pc + 9) = .ok (.athrow, 1)) (hRf : 5 < fr) (hRl : (rest.map fun v => v.category).sum + 82 ≤ lo) :
    W p l e (rmB fr lo 1 6) s m args below meth c s.heap [] 0 0 (vx_MQ below qcF (xcX en) args s 1 6 (fun q => sz ≤ q)) (F0 m pc ls rest) := by
  obtain ⟨sa, hstr⟩ := hX.2.2.2.2.1 _ htx
  refine vx_throwS (names := ["java/lang/RuntimeException", "java/lang/Exception"]) (A := fun _ => False) (sa := sa) E.1 E.2.1 hfl E.2.2.2.1 hcls (by decide +kernel) (E.2.2.2.2.1 _ hk) (E.2.2.2.2.1 _ hini) hstr (vx_hat (B := NG en) (fun w h => E.2.2.2.2.1 _ (hat w h)) hng (vx_c (va_Nw.use rfl hX.2.2.2.2.2.1) (vx_c (va_Nw.use rfl hX.2.2.2.2.2.2.1) (vx_c (va_Nw.use rfl hX.2.2.2.2.2.2.2) (vx_c (va_Nw.use rfl hca) vx_n))))) hgood hX.1 hX.2.1 va_S.rf (hsz.trans E.2.2.1.symm) d0 d3 d4 d6 d9 (fun x hx => (htab x hx).elim) hRf hRl (Nat.le_refl _) (Nat.le_refl _) E.2.2.2.2.2.2.2 (fun t _ h1 h2 => ⟨rfl, h1, h2⟩) (fun z h => nomatch h) (Nat.le_refl _) (Nat.le_refl _)
theorem x_pcX (E : fx p s m args meth c cc own nL rt D I J O) (hX : XE s) (hHs : H = s.heap) {wc : va_W} (hP : va_P D vwCl wc H) {Bs : List Value} : ∀ U : State, U.heap = H → s.WarmedH U.vm → pcX D I J O H.size Bs wc Bs.toArray U := fun U hU hW => ⟨rfl, by rw [hU], by rw [hU]; exact hP, E.2.2.2.2.2.1.warm hW, hX.at hW (hU.trans hHs)⟩
variable {y : MethodName} {yc : ByteArray} {yL n : Nat} {yt : Option FieldType} {fr lo mc ms : Nat} {Pc : Array Value → State → Prop} {Qc : Array Value → State → Outcome → State → Prop} {XC : String → State → State → Prop} {free : Addr → Prop} {b : Addr} {As : List Value} {st0 : List Value} {index : Nat}
theorem x_rX (E : fx p s m args meth c cc own nL rt D I J O) (hM : vx_Met l y (wsB y yc yL yt) (rmB fr lo mc ms) Pc Qc XC mc ms free) (hbl : FrameBlind Pc) (hrc : ∃ cellB : Cell, H[b]? = some cellB ∧ cellB.vm.isStatics = false ∧ s.vm.findClass y.cls = some cellB.cls) (hPc : ∀ U : State, U.heap = H → s.WarmedH U.vm → Pc (Value.ref b :: As).toArray U) (ok : yV y yc yL yt n) (hml : Cond.methodLink own index y ∈ B0)
    (hn : As.length = n) (hsz : ls.size = nL) (hst : st0 = As.reverse ++ .ref b :: rest) (hro : (rest.map fun v => v.category).sum ≤ 8) (hR : fr + 1 ≤ R.frames ∧ 8 + (yL + 11) + lo ≤ R.locals) (hf : cells + mc ≤ R.cells ∧ slots + ms ≤ R.slots) (hdg : decode cc pc = .ok (.invokevirtual index, 3)) :
    vx_Run p l e R s m args below meth c H locs cells slots mc ms (F0 m pc ls st0) rest (Qc (Value.ref b :: As).toArray) XC free :=
  vx_runV ⟨E.1, E.2.1, E.2.2.1, E.2.2.2.1, E.2.2.2.2.1⟩ hM (cwV n E.2.2.2.2.1 (B0_V hml ok.2.2.1 ok.2.2.2.1 ok.2.1 ok.1) rfl rfl rfl ⟨rfl, ok.2.2.2.2⟩ hR) ⟨hbl, hrc, hPc⟩ rfl hn hsz hst (lv_room hro) hdg hf
theorem x_cX {en : String} {ws : va_W} {av : Array Value} (hw : fy D A H0 H locs ws) (hfr : ∀ q, free q → A q)
    (hr : vx_Run p l e R s m args below meth c H locs cells slots 1 6 (F0 m pc ls st0) rest (qcF av) (xcX en) free)
    (kx : ∀ (ce : Cell) (q9 : Addr) (H1 : Heap) (locs1 : List Loc), fy D A H0 H1 locs1 ws → H1[q9]? = some ce → ce.vm = .none → s.vm.findClass en = some ce.cls → vx_W p l e R s m args below meth c H1 locs1 (cells + 1) (slots + 6) Q (F0 m pc ls rest) q9) : W p l e R s m args below meth c H locs cells slots Q (F0 m pc ls st0) := by
  intro T hT X
  rcases hr T hT X with ⟨v, st₀, t, T', L, h0, X', hL, e1, e2, hq, st⟩ | ⟨q, st₀, t, T', L, E, ce, h0, X', hL, e1, e2, ⟨hE, hz, hk⟩, hce, hcv, hcl, st⟩
  · exact hq.elim
  · subst hE
    rw [h0, ← e1] at hz hk
    have hw1 : fy D A H0 T'.heap (locs ++ L) ws := ⟨hw.1.kept (fun k x hx => hk x.1 (hw.1 k x hx).lt), hw.2.1, ⟨Nat.le_trans hw.2.2.1.1 hz, fun x h1 h2 => (hk x (Nat.lt_of_lt_of_le h1 hw.2.2.1.1)).trans (hw.2.2.1.2.1 x h1 h2), fun x hx => (List.mem_append.mp hx).elim (hw.2.2.1.2.2 x) (fun h => hfr _ (hL x h))⟩, hw.2.2.2⟩
    obtain ⟨t2, a1, b1⟩ := kx ce q T'.heap (locs ++ L) hw1 (by rw [e1]; exact hce) hcv hcl T' rfl X'
    exact ⟨t2, st.trans a1, b1⟩
theorem x_rW {hh : List (Nat × Nat × Nat × Nat)} (E : fx p s m args meth c cc own nL rt D I J O) (hM : Met l y (wsW y yc yL yt hh) (rmB fr lo mc ms) Pc Qc mc ms free) (hbl : FrameBlind Pc) (hPc : ∀ U : State, U.heap = H → s.WarmedH U.vm → Pc As.toArray U) (ok : yW y yc yL yt hh n) (hml : Cond.methodLink own index y ∈ B0)
    (hn : As.length = n) (hsz : ls.size = nL) (hst : st0 = As.reverse ++ rest) (hro : (rest.map fun v => v.category).sum ≤ 8) (hR : fr + 1 ≤ R.frames ∧ 8 + (yL + 11) + lo ≤ R.locals) (hf : cells + mc ≤ R.cells ∧ slots + ms ≤ R.slots) (hdg : decode cc pc = .ok (.invokestatic index, 3)) :
    va_Run p l e R s m args below meth c H locs cells slots mc ms (F0 m pc ls st0) rest (Qc As.toArray) free :=
  vx_runSW ⟨E.1, E.2.1, E.2.2.1, E.2.2.2.1, E.2.2.2.2.1⟩ hM (vx_cwSW n E.2.2.2.2.1 (B0_S hml ok.2.2.1 ok.2.1 ok.1) rfl rfl rfl ok.2.2.2 hR) ⟨hbl, hPc⟩ rfl hn hsz hst (lv_room hro) hdg hf
end
theorem xg1 : ∀ w ∈ (vx_atS RX5 41 "java/lang/IllegalArgumentException" ["java/lang/RuntimeException", "java/lang/Exception"]).filter goodWord, w ∈ B0 := B0_l (by decide +kernel)
theorem xn1 : ∀ w ∈ (vx_atS RX5 41 "java/lang/IllegalArgumentException" ["java/lang/RuntimeException", "java/lang/Exception"]).filter (fun w => !goodWord w), w ∈ NG "java/lang/IllegalArgumentException" := by decide +kernel
theorem xo1 : ∀ w ∈ Cond.classLink RX5 37 "java/lang/IllegalArgumentException" :: Cond.initialized "java/lang/IllegalArgumentException" :: vx_atS RX5 41 "java/lang/IllegalArgumentException" ["java/lang/RuntimeException", "java/lang/Exception"], vx_ot w = true := by decide +kernel
theorem xg2 : ∀ w ∈ (vx_atS RX5 58 "java/lang/IllegalStateException" ["java/lang/RuntimeException", "java/lang/Exception"]).filter goodWord, w ∈ B0 := B0_l (by decide +kernel)
theorem xn2 : ∀ w ∈ (vx_atS RX5 58 "java/lang/IllegalStateException" ["java/lang/RuntimeException", "java/lang/Exception"]).filter (fun w => !goodWord w), w ∈ NG "java/lang/IllegalStateException" := by decide +kernel
theorem xo2 : ∀ w ∈ Cond.classLink RX5 54 "java/lang/IllegalStateException" :: Cond.initialized "java/lang/IllegalStateException" :: vx_atS RX5 58 "java/lang/IllegalStateException" ["java/lang/RuntimeException", "java/lang/Exception"], vx_ot w = true := by decide +kernel
theorem xg3 : ∀ w ∈ (vx_atS RX5 87 "java/lang/IndexOutOfBoundsException" ["java/lang/RuntimeException", "java/lang/Exception"]).filter goodWord, w ∈ B0 := B0_l (by decide +kernel)
theorem xn3 : ∀ w ∈ (vx_atS RX5 87 "java/lang/IndexOutOfBoundsException" ["java/lang/RuntimeException", "java/lang/Exception"]).filter (fun w => !goodWord w), w ∈ NG "java/lang/IndexOutOfBoundsException" := by decide +kernel
theorem xo3 : ∀ w ∈ Cond.classLink RX5 83 "java/lang/IndexOutOfBoundsException" :: Cond.initialized "java/lang/IndexOutOfBoundsException" :: vx_atS RX5 87 "java/lang/IndexOutOfBoundsException" ["java/lang/RuntimeException", "java/lang/Exception"], vx_ot w = true := by decide +kernel
