/-! The law's methods: a contract that carries the start of the exceptions along with it. -/
/-- XE, the cells that it names outside A -/
def XZ (A : Nat → Prop) (U : State) : Prop := vx_Zq Bundle.tN "UNASSIGNED_STACK" Bundle.steD A U U.heap ∧ vx_Zq Bundle.tN "SUPPRESSED_SENTINEL" Bundle.listD A U U.heap ∧
  (va_Nw (.castable (exn 1) (exn 1)) U ∧ va_Nw (.castable (exn 2) (exn 2)) U ∧ va_Nw (.castable (exn 3) (exn 3)) U) ∧ (va_Nc (exn 2) (exn 1) U ∧ va_Nc (exn 1) (exn 3) U ∧ va_Nc (exn 2) (exn 3) U) ∧ (∀ q ∈ TX, ∃ sa, vk_R RX5 q.1 q.2 sa U) ∧ va_Nw (.declares (Bundle.initS "java/lang/RuntimeException")) U ∧ va_Nw (.declares (Bundle.initS "java/lang/Exception")) U ∧ va_Nw (.declares (Bundle.initS Bundle.tN)) U
theorem XZ.e {A : Nat → Prop} {U : State} (h : XZ A U) : XE U := ⟨h.1.narrow (fun _ hq => hq.elim), h.2.1.narrow (fun _ hq => hq.elim), h.2.2⟩
theorem XZ.at {A B : Nat → Prop} {s U : State} {H : Heap} {locs : List Loc} (h : XZ A s) (hS : va_S A s.heap H locs) (hAB : ∀ q, B q → A q) (hW : s.WarmedH U.vm) (hU : U.heap = H) : XZ B U := by
  obtain ⟨h1, h2, ⟨a1, a2, a3⟩, ⟨b1, b2, b3⟩, h5, d1, d2, d3⟩ := h
  refine ⟨?_, ?_, ⟨va_Nw.warmC hW a1, va_Nw.warmC hW a2, va_Nw.warmC hW a3⟩, ⟨b1.moved hW.alike, b2.moved hW.alike, b3.moved hW.alike⟩, fun q hq => ?_, va_Nw.warmD hW d1, va_Nw.warmD hW d2, va_Nw.warmD hW d3⟩
  · rw [hU]; exact (vx_Zq.moved hW.alike (h1.kept hS.2.1)).narrow hAB
  · rw [hU]; exact (vx_Zq.moved hW.alike (h2.kept hS.2.1)).narrow hAB
  · obtain ⟨sa, g⟩ := h5 q hq
    exact ⟨sa, vk_R.warm hW g⟩
theorem XZ.calling {A : Nat → Prop} {U : State} {g : JFrame} {mk : MethodId} {a : Array Value} (h : XZ A U) : XZ A (U.calling g mk a) := by
  obtain ⟨h1, h2, ⟨a1, a2, a3⟩, ⟨b1, b2, b3⟩, h5, d1, d2, d3⟩ := h
  have hA : U.vm.Alike (U.calling g mk a).vm := Vm.Alike.refl U.vm
  refine ⟨vx_Zq.moved (u := U) (U := U.calling g mk a) hA h1, vx_Zq.moved (u := U) (U := U.calling g mk a) hA h2, ⟨va_Nw.same rfl rfl a1, va_Nw.same rfl rfl a2, va_Nw.same rfl rfl a3⟩, ⟨b1.moved hA, b2.moved hA, b3.moved hA⟩, fun q hq => ?_, va_Nw.same rfl rfl d1, va_Nw.same rfl rfl d2, va_Nw.same rfl rfl d3⟩
  obtain ⟨sa, h⟩ := h5 q hq
  exact ⟨sa, vk_R.same rfl h⟩
abbrev pcZ (D : va_G) (I J O : ClassId) (sz : Nat) (As : List Value) (ws : va_W) : Array Value → State → Prop := va_Pc As (fun U => U.heap.size = sz ∧ va_P D vwCl ws U.heap ∧ XK D I J O U ∧ va_D (fun _ => True) ws ∧ XZ (va_A ws sz) U)
abbrev mZ (l : Launch) (y : MethodName) (cc : ByteArray) (maxL : Nat) (rt : Option FieldType) (fr lo mc ms : Nat) (D : va_G) (I J O : ClassId) (sz : Nat) (As : List Value) (ws : va_W) (Qc : Array Value → State → Outcome → State → Prop) : Prop :=
  Met l y (wsB y cc maxL rt) (rmB fr lo mc ms) (pcZ D I J O sz As ws) Qc mc ms (va_A ws sz)
theorem blZ {D : va_G} {I J O : ClassId} {sz : Nat} {As : List Value} {ws : va_W} : FrameBlind (pcZ D I J O sz As ws) := fun _ _ _ _ q => ⟨q.1, q.2.1, q.2.2.1, q.2.2.2.1.calling, q.2.2.2.2.1, q.2.2.2.2.2.calling⟩
theorem mZ_open {l : Launch} {y : MethodName} {cc : ByteArray} {maxL : Nat} {rt : Option FieldType} {fr lo mc ms : Nat} {D : va_G} {I J O : ClassId} {sz : Nat} {As : List Value} {ws : va_W} {Qc : Array Value → State → Outcome → State → Prop} {own : String} (ho : y.cls = own) (hy : plainName y.cls = true) (hn : (lg_sl As).length ≤ maxL)
    (body : ∀ (p : Program) (e : Env) (s : State) (m : MethodId) (below : List Frame) (meth : Method) (c : Code) (ls : Array Slot), fx p s m As.toArray meth c cc own maxL rt D I J O → XZ (va_A ws sz) s → s.heap.size = sz → fy D (va_A ws sz) s.heap s.heap [] ws → lv_has ls maxL (lv_args 0 As) →
      W p l e (rmB fr lo mc ms) s m As.toArray below meth c s.heap [] 0 0 (MQ below Qc As.toArray s mc ms (va_A ws sz)) (F0 m 0 ls [])) : mZ l y cc maxL rt fr lo mc ms D I J O sz As ws Qc := by
  subst ho
  refine Met.ofW (cc := cc) (maxL := maxL) (ret := rt) hy rfl ?_
  intro p e s m args below meth c s₁ B hml hv
  obtain ⟨rfl, hsz, hP, hK, hD0, hX⟩ := hv
  have hts := atoms_spec (ws := wsB y cc maxL rt) B.pre
  rw [lg_entry_eq]
  exact body p e s m below meth c _ ⟨B.exec, B.bytes, hml, findClass_of_methodNamed B.named, fun w h => hts w (List.mem_cons_of_mem _ h), hK, B.returns, B.notSynchronized⟩ hX hsz ⟨hP, hD0.self, va_S.rf, fun q h => Or.inr (by rw [← hsz]; exact h)⟩ (lv_entry As hn)
section
variable {p : Program} {s : State} {m : MethodId} {args : Array Value} {meth : Method} {c : Code} {cc : ByteArray} {own : String} {nL : Nat} {rt : Option FieldType} {D : va_G} {I J O : ClassId} {A : Nat → Prop} {H : Heap} {locs : List Loc}
theorem x_pcZP (E : fx p s m args meth c cc own nL rt D I J O) (hXZ : XZ A s) {X pl wc : va_W} (hw : fy D A s.heap H locs (X ++ pl)) (is : List Nat) (hn : va_nd is = true) (hC : is.map (fun i => X[i]?) = wc.map some) {Bs : List Value} : ∀ U : State, U.heap = H → s.WarmedH U.vm → pcZ D I J O H.size Bs (wc ++ pl) Bs.toArray U := fun U hU hW => by
  have h1 := x_pcMP E hw is hn hC (Bs := Bs) U hU hW
  exact ⟨h1.1, h1.2.1, h1.2.2.1, h1.2.2.2.1, h1.2.2.2.2, hXZ.at hw.2.2.1 (x_free hw is hC (Or.inr rfl)) hW hU⟩
theorem x_pcZF (E : fx p s m args meth c cc own nL rt D I J O) (hXZ : XZ A s) {pl rest9 wc : va_W} (hw : fy D A s.heap H locs ((wc ++ rest9) ++ pl)) {Bs : List Value} : ∀ U : State, U.heap = H → s.WarmedH U.vm → pcZ D I J O H.size Bs (wc ++ pl) Bs.toArray U :=
  x_pcZP E hXZ hw (List.range wc.length) (x_nd_of _ List.nodup_range) (x_front wc rest9)
theorem x_pcZF0 (E : fx p s m args meth c cc own nL rt D I J O) (hXZ : XZ A s) {pl wc : va_W} (hw : fy D A s.heap H locs (wc ++ pl)) {Bs : List Value} : ∀ U : State, U.heap = H → s.WarmedH U.vm → pcZ D I J O H.size Bs (wc ++ pl) Bs.toArray U :=
  x_pcZP E hXZ hw (List.range wc.length) (x_nd_of _ List.nodup_range) (x_front0 wc)
theorem x_pcZn (E : fx p s m args meth c cc own nL rt D I J O) (hXZ : XZ A s) (hw : fy D A s.heap H locs ([] : va_W)) {Bs : List Value} : ∀ U : State, U.heap = H → s.WarmedH U.vm → pcZ D I J O H.size Bs [] Bs.toArray U :=
  x_pcZF0 (pl := []) (wc := []) E hXZ hw
theorem x_pcVF (E : fx p s m args meth c cc own nL rt D I J O) (hXZ : XZ A s) {pl rest9 wc : va_W} (hw : fy D A s.heap H locs ((wc ++ rest9) ++ pl)) {Bs : List Value} : ∀ U : State, U.heap = H → s.WarmedH U.vm → pcW D I J O H.size Bs (wc ++ pl) Bs.toArray U := fun U hU hW => by
  have h1 := x_pcZF E hXZ hw (Bs := Bs) U hU hW
  exact ⟨h1.1, h1.2.1, h1.2.2.1, h1.2.2.2.1, h1.2.2.2.2.1, h1.2.2.2.2.2.e⟩
theorem x_pcVF0 (E : fx p s m args meth c cc own nL rt D I J O) (hXZ : XZ A s) {pl wc : va_W} (hw : fy D A s.heap H locs (wc ++ pl)) {Bs : List Value} : ∀ U : State, U.heap = H → s.WarmedH U.vm → pcW D I J O H.size Bs (wc ++ pl) Bs.toArray U := fun U hU hW => by
  have h1 := x_pcZF0 E hXZ hw (Bs := Bs) U hU hW
  exact ⟨h1.1, h1.2.1, h1.2.2.1, h1.2.2.2.1, h1.2.2.2.2.1, h1.2.2.2.2.2.e⟩
/-- a contract of a method that reads the law's script -/
abbrev pcS (D : va_G) (I J O : ClassId) (As : List Value) (b L : Nat) (xs : Fn) : Array Value → State → Prop := va_Pc As (fun U => va_X b L xs U U.heap ∧ b < U.heap.size ∧ XK D I J O U)
theorem blS {As : List Value} {b L : Nat} {xs : Fn} : FrameBlind (pcS D I J O As b L xs) := fun a U g mk q => ⟨q.1, va_X.moved (u := U) (U := U.calling g mk a) (Vm.Alike.refl U.vm) q.2.1, q.2.2.1, q.2.2.2.calling⟩
theorem x_pcS {b L : Nat} {xs : Fn} (E : fx p s m args meth c cc own nL rt D I J O) (hX : va_X b L xs s s.heap) (hbl : b < s.heap.size) (hbA : ¬ A b) (hS : va_S A s.heap H locs) {Bs : List Value} : ∀ U : State, U.heap = H → s.WarmedH U.vm → pcS D I J O Bs b L xs Bs.toArray U := fun U hU hW => ⟨rfl, by rw [hU]; exact va_X.moved hW.alike (va_X.kept hX (hS.2.1 b hbl hbA)), by rw [hU]; exact Nat.lt_of_lt_of_le hbl hS.1, E.2.2.2.2.2.1.warm hW⟩
end
theorem mS_open {l : Launch} {y : MethodName} {cc : ByteArray} {maxL : Nat} {rt : Option FieldType} {fr lo : Nat} {D : va_G} {I J O : ClassId} {As : List Value} {b L : Nat} {xs : Fn} {Qc : Array Value → State → Outcome → State → Prop} {own : String} (ho : y.cls = own) (hy : plainName y.cls = true) (hn : (lg_sl As).length ≤ maxL)
    (body : ∀ (p : Program) (e : Env) (s : State) (m : MethodId) (below : List Frame) (meth : Method) (c : Code) (ls : Array Slot), fx p s m As.toArray meth c cc own maxL rt D I J O → va_X b L xs s s.heap → b < s.heap.size → lv_has ls maxL (lv_args 0 As) →
      W p l e (rmB fr lo 0 0) s m As.toArray below meth c s.heap [] 0 0 (MQ below Qc As.toArray s 0 0 (fun _ => False)) (F0 m 0 ls [])) : Met l y (wsB y cc maxL rt) (rmB fr lo 0 0) (pcS D I J O As b L xs) Qc 0 0 (fun _ => False) := by
  subst ho
  refine Met.ofW (cc := cc) (maxL := maxL) (ret := rt) hy rfl ?_
  intro p e s m args below meth c s₁ B hml hv
  obtain ⟨rfl, hX, hbl, hK⟩ := hv
  have hts := atoms_spec (ws := wsB y cc maxL rt) B.pre
  rw [lg_entry_eq]
  exact body p e s m below meth c _ ⟨B.exec, B.bytes, hml, findClass_of_methodNamed B.named, fun w h => hts w (List.mem_cons_of_mem _ h), hK, B.returns, B.notSynchronized⟩ hX hbl (lv_entry As hn)
