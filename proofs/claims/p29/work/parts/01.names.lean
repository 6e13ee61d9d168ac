-- ===== PART A: goes FIRST, ahead of the names: the tables' words, and 'selects' of the private methods out of them =====
/-- a private method of a class that the tables say can be made, by its rows of tables_1 -/
def lw_okq (q : MethodName × Nat) : Prop := (q.1.cls ≠ "java/lang/invoke/MethodHandle" ∧ q.1.cls ≠ "java/lang/invoke/VarHandle") ∧ Cond.instantiable q.1.cls q.2 ∈ tables_1 ∧ Cond.privateMethod q.1 ∈ tables_1 ∧ Cond.instanceMethod q.1 ∈ tables_1
theorem lw_p0 : lw_okq (⟨"StampedSlots$History", "dropOldest", "()V"⟩, 2) := ⟨⟨by decide +kernel, by decide +kernel⟩, List.mem_of_getElem? (i := 103) (by decide +kernel), List.mem_of_getElem? (i := 153) (by decide +kernel), List.mem_of_getElem? (i := 154) (by decide +kernel)⟩
theorem lw_p1 : lw_okq (⟨"StampedSlots$Row", "thingIn", "(I)I"⟩, 3) := ⟨⟨by decide +kernel, by decide +kernel⟩, List.mem_of_getElem? (i := 59) (by decide +kernel), List.mem_of_getElem? (i := 181) (by decide +kernel), List.mem_of_getElem? (i := 182) (by decide +kernel)⟩
theorem lw_p2 : lw_okq (⟨"StampedSlots$Row", "isEntry", "(I)Z"⟩, 3) := ⟨⟨by decide +kernel, by decide +kernel⟩, List.mem_of_getElem? (i := 59) (by decide +kernel), List.mem_of_getElem? (i := 185) (by decide +kernel), List.mem_of_getElem? (i := 186) (by decide +kernel)⟩
theorem lw_p3 : lw_okq (⟨"StampedSlots$Slots", "giveCells", "(III)V"⟩, 7) := ⟨⟨by decide +kernel, by decide +kernel⟩, List.mem_of_getElem? (i := 30) (by decide +kernel), List.mem_of_getElem? (i := 217) (by decide +kernel), List.mem_of_getElem? (i := 218) (by decide +kernel)⟩
theorem lw_p4 : lw_okq (⟨"StampedSlots$Row", "sweep", "(I)V"⟩, 3) := ⟨⟨by decide +kernel, by decide +kernel⟩, List.mem_of_getElem? (i := 59) (by decide +kernel), List.mem_of_getElem? (i := 229) (by decide +kernel), List.mem_of_getElem? (i := 230) (by decide +kernel)⟩
theorem lw_p5 : lw_okq (⟨"StampedSlots$Slots", "growTo", "(I)V"⟩, 7) := ⟨⟨by decide +kernel, by decide +kernel⟩, List.mem_of_getElem? (i := 30) (by decide +kernel), List.mem_of_getElem? (i := 257) (by decide +kernel), List.mem_of_getElem? (i := 258) (by decide +kernel)⟩
theorem lw_p6 : lw_okq (⟨"java/lang/Throwable", "fillInStackTrace", "(I)Ljava/lang/Throwable;"⟩, 6) := ⟨⟨by decide +kernel, by decide +kernel⟩, List.mem_of_getElem? (i := 338) (by decide +kernel), List.mem_of_getElem? (i := 336) (by decide +kernel), List.mem_of_getElem? (i := 337) (by decide +kernel)⟩
theorem lw_p7 : lw_okq (⟨"StampedSlots$Row", "thingsFrom", "(I)I"⟩, 3) := ⟨⟨by decide +kernel, by decide +kernel⟩, List.mem_of_getElem? (i := 59) (by decide +kernel), List.mem_of_getElem? (i := 408) (by decide +kernel), List.mem_of_getElem? (i := 409) (by decide +kernel)⟩
theorem lw_p8 : lw_okq (⟨"StampedSlots$Row", "indexUnder", "(I)I"⟩, 3) := ⟨⟨by decide +kernel, by decide +kernel⟩, List.mem_of_getElem? (i := 59) (by decide +kernel), List.mem_of_getElem? (i := 526) (by decide +kernel), List.mem_of_getElem? (i := 527) (by decide +kernel)⟩
theorem lw_p9 : lw_okq (⟨"StampedSlots$Row", "send", "(II)V"⟩, 3) := ⟨⟨by decide +kernel, by decide +kernel⟩, List.mem_of_getElem? (i := 59) (by decide +kernel), List.mem_of_getElem? (i := 535) (by decide +kernel), List.mem_of_getElem? (i := 536) (by decide +kernel)⟩
theorem lw_p10 : lw_okq (⟨"StampedSlots$Row", "nextThing", "(I)I"⟩, 3) := ⟨⟨by decide +kernel, by decide +kernel⟩, List.mem_of_getElem? (i := 59) (by decide +kernel), List.mem_of_getElem? (i := 547) (by decide +kernel), List.mem_of_getElem? (i := 548) (by decide +kernel)⟩
theorem lw_p11 : lw_okq (⟨"StampedSlots", "putParts", "()I"⟩, 4) := ⟨⟨by decide +kernel, by decide +kernel⟩, List.mem_of_getElem? (i := 16) (by decide +kernel), List.mem_of_getElem? (i := 603) (by decide +kernel), List.mem_of_getElem? (i := 604) (by decide +kernel)⟩
theorem lw_p12 : lw_okq (⟨"StampedSlots", "tryEvents", "(I)I"⟩, 4) := ⟨⟨by decide +kernel, by decide +kernel⟩, List.mem_of_getElem? (i := 16) (by decide +kernel), List.mem_of_getElem? (i := 677) (by decide +kernel), List.mem_of_getElem? (i := 678) (by decide +kernel)⟩
theorem lw_p13 : lw_okq (⟨"StampedSlots", "hashThings", "(J)J"⟩, 4) := ⟨⟨by decide +kernel, by decide +kernel⟩, List.mem_of_getElem? (i := 16) (by decide +kernel), List.mem_of_getElem? (i := 697) (by decide +kernel), List.mem_of_getElem? (i := 698) (by decide +kernel)⟩
theorem lw_p14 : lw_okq (⟨"StampedSlots", "hashCellsAndWalkers", "(J)J"⟩, 4) := ⟨⟨by decide +kernel, by decide +kernel⟩, List.mem_of_getElem? (i := 16) (by decide +kernel), List.mem_of_getElem? (i := 703) (by decide +kernel), List.mem_of_getElem? (i := 704) (by decide +kernel)⟩
theorem lw_p15 : lw_okq (⟨"StampedSlots", "hashGaps", "(J)J"⟩, 4) := ⟨⟨by decide +kernel, by decide +kernel⟩, List.mem_of_getElem? (i := 16) (by decide +kernel), List.mem_of_getElem? (i := 709) (by decide +kernel), List.mem_of_getElem? (i := 710) (by decide +kernel)⟩
def lw_privs_1 : List (MethodName × Nat) := [(⟨"StampedSlots$History", "dropOldest", "()V"⟩, 2), (⟨"StampedSlots$Row", "thingIn", "(I)I"⟩, 3), (⟨"StampedSlots$Row", "isEntry", "(I)Z"⟩, 3), (⟨"StampedSlots$Slots", "giveCells", "(III)V"⟩, 7), (⟨"StampedSlots$Row", "sweep", "(I)V"⟩, 3), (⟨"StampedSlots$Slots", "growTo", "(I)V"⟩, 7), (⟨"java/lang/Throwable", "fillInStackTrace", "(I)Ljava/lang/Throwable;"⟩, 6), (⟨"StampedSlots$Row", "thingsFrom", "(I)I"⟩, 3), (⟨"StampedSlots$Row", "indexUnder", "(I)I"⟩, 3), (⟨"StampedSlots$Row", "send", "(II)V"⟩, 3), (⟨"StampedSlots$Row", "nextThing", "(I)I"⟩, 3), (⟨"StampedSlots", "putParts", "()I"⟩, 4), (⟨"StampedSlots", "tryEvents", "(I)I"⟩, 4), (⟨"StampedSlots", "hashThings", "(J)J"⟩, 4), (⟨"StampedSlots", "hashCellsAndWalkers", "(J)J"⟩, 4), (⟨"StampedSlots", "hashGaps", "(J)J"⟩, 4)]
theorem lw_r1 : ∀ q ∈ lw_privs_1, lw_okq q := List.forall_mem_cons.mpr ⟨lw_p0, List.forall_mem_cons.mpr ⟨lw_p1, List.forall_mem_cons.mpr ⟨lw_p2, List.forall_mem_cons.mpr ⟨lw_p3, List.forall_mem_cons.mpr ⟨lw_p4, List.forall_mem_cons.mpr ⟨lw_p5, List.forall_mem_cons.mpr ⟨lw_p6, List.forall_mem_cons.mpr ⟨lw_p7, List.forall_mem_cons.mpr ⟨lw_p8, List.forall_mem_cons.mpr ⟨lw_p9, List.forall_mem_cons.mpr ⟨lw_p10, List.forall_mem_cons.mpr ⟨lw_p11, List.forall_mem_cons.mpr ⟨lw_p12, List.forall_mem_cons.mpr ⟨lw_p13, List.forall_mem_cons.mpr ⟨lw_p14, List.forall_mem_cons.mpr ⟨lw_p15, fun _ h => absurd h List.not_mem_nil⟩⟩⟩⟩⟩⟩⟩⟩⟩⟩⟩⟩⟩⟩⟩⟩
theorem lw_p16 : lw_okq (⟨"StampedSlots", "hashRoom", "(J)J"⟩, 4) := ⟨⟨by decide +kernel, by decide +kernel⟩, List.mem_of_getElem? (i := 16) (by decide +kernel), List.mem_of_getElem? (i := 715) (by decide +kernel), List.mem_of_getElem? (i := 716) (by decide +kernel)⟩
theorem lw_p17 : lw_okq (⟨"StampedSlots", "hashBuffer", "(J)J"⟩, 4) := ⟨⟨by decide +kernel, by decide +kernel⟩, List.mem_of_getElem? (i := 16) (by decide +kernel), List.mem_of_getElem? (i := 730) (by decide +kernel), List.mem_of_getElem? (i := 731) (by decide +kernel)⟩
def lw_privs_2 : List (MethodName × Nat) := [(⟨"StampedSlots", "hashRoom", "(J)J"⟩, 4), (⟨"StampedSlots", "hashBuffer", "(J)J"⟩, 4)]
theorem lw_r2 : ∀ q ∈ lw_privs_2, lw_okq q := List.forall_mem_cons.mpr ⟨lw_p16, List.forall_mem_cons.mpr ⟨lw_p17, fun _ h => absurd h List.not_mem_nil⟩⟩
def lw_privs : List (MethodName × Nat) := lw_privs_1 ++ (lw_privs_2)
def lw_tbl : List Cond := k2_sels lw_privs ++ tables_1
theorem lw_privs_ok : ∀ q ∈ lw_privs, lw_okq q := by
  show ∀ q ∈ lw_privs_1 ++ (lw_privs_2), lw_okq q
  exact List.forall_mem_append.mpr ⟨lw_r1, lw_r2⟩
/-- the streams that the claim lets the run draw from -/
abbrev lw_cs : List Choice := [Jvm.Choice.named "NaN.bits"]
theorem lw_bits : nanBits ∈ lw_cs := by first | decide | exact List.mem_cons_self | simp [lw_cs, nanBits]
-- ===== end of PART A; then your names; then what follows =====
/-! ===== BEGIN exceptions that leave a method, and their catching by the caller (launches without stack traces) ===== -/
section VXA
/-! The laws vx_back, vx_callV, vx_callS, vx_callSW, vx_throw0, vx_throwS follow proofs of the library, with one case more: JvmDerived/Free/Laws.lean (Back.of_free), Shelf42/LK1.lean (callV, callS), Shelf/KitTraced.lean (throwNew0V, throwNewS). -/
/-- where a method has thrown q: the class by its name, the cell, what was written, the world -/
def vx_T (XC : String → State → State → Prop) (st : State) (q : Addr) (t : State) (mc ms : Nat) (free : Addr → Prop) : Prop :=
  ∃ (E : String) (ce : Cell) (L : List Loc), XC E st t ∧ t.heap[q]? = some ce ∧ ce.vm = .none ∧ st.vm.findClass E = some ce.cls ∧ st.WarmedH t.vm ∧ st.sameButNew ({ t with vm := st.vm } : State) L mc ms ∧ ∀ z ∈ L, free z.base
def vx_Q (Qc : Array Value → State → Outcome → State → Prop) (XC : String → State → State → Prop) (mc ms : Nat) (free : Addr → Prop) : Array Value → State → Outcome → State → Prop := fun a st o t =>
  (Qc a st o t ∧ ∃ L, FrameEnd st o t L mc ms ∧ ∀ q ∈ L, free q.base) ∨ ∃ q, o = .threw q ∧ vx_T XC st q t mc ms free
/-- a callee that returns or throws -/
def vx_Met (l : Launch) (y : MethodName) (ws : List Cond) (rm : Room) (Pc : Array Value → State → Prop) (Qc : Array Value → State → Outcome → State → Prop) (XC : String → State → State → Prop) (mc ms : Nat) (free : Addr → Prop) : Prop :=
  MetFree l y (headSpec ws rm) Pc (fun _ _ _ _ _ => True) (vx_Q Qc XC mc ms free)
def vx_Post (XC : String → State → State → Prop) (mc ms : Nat) (free : Addr → Prop) : Pt → Array Value → Addr → Pt → Prop := fun A a q B =>
  ∃ (g : JFrame) (mk : MethodId) (t : State) (L : List Loc) (E : String) (ce : Cell), B.U.heap = t.heap ∧ B.U.vm = t.vm ∧ XC E (A.U.calling g mk a) t ∧ t.heap[q]? = some ce ∧ ce.vm = .none ∧ A.U.vm.findClass E = some ce.cls ∧ B.locs = A.locs ++ L ∧ (∀ z ∈ L, free z.base) ∧ B.cells = A.cells + mc ∧ B.slots = A.slots + ms
def vx_Back (l : Launch) (R : Room) (p : Program) (e : Env) (below : List Frame) (s : State) (sargs : Array Value) (y : MethodName) (len W9 : Nat)
    (Pre : Pt → Array Value → Prop) (Post : Pt → Array Value → Option Value → Pt → Prop) (PostX : Pt → Array Value → Addr → Pt → Prop) : Prop :=
  ∀ (m : MethodId) (meth : Method) (c : Code) (A : Pt) (g : JFrame) (ig : Instr) (mk : MethodId) (a : Array Value),
    Stand p l e R s m sargs below meth c A.U A.locs A.cells A.slots → g.method = m → g.locals.size = c.maxLocals → decode c.code g.pc = .ok (ig, len) →
    2 * g.monitorRoom + (g.stack.map fun v => v.category).sum ≤ W9 → A.U.methodNamed? y = some mk → Pre A a →
    (∃ (v : Option Value) (B : Pt), Stand p l e R s m sargs below meth c B.U B.locs B.cells B.slots ∧ Post A a v B ∧
      Steps p.tables e below (doInvoke e (A.U.setTop g) [] mk a).1 (B.U.setTop { g with pc := g.pc + len, stack := v.toList ++ g.stack })) ∨
    (∃ (q : Addr) (B : Pt), Stand p l e R s m sargs below meth c B.U B.locs B.cells B.slots ∧ PostX A a q B ∧
      Steps p.tables e below (doInvoke e (A.U.setTop g) [] mk a).1 ((B.U.setTop g).pushFrame (.throwing q)))
section Payer
variable {l : Launch} {R : Room} {p : Program} {e : Env} {below : List Frame} {s : State} {sargs : Array Value} {y : MethodName} {len W9 : Nat}
theorem vx_back {ws : List Cond} {rm : Room} {Pc : Array Value → State → Prop} {Qc : Array Value → State → Outcome → State → Prop} {XC : String → State → State → Prop} {mc ms : Nat} {free : Addr → Prop} {bytes : ByteArray} {maxL : Nat} {ret : Option FieldType}
    (hM : vx_Met l y ws rm Pc Qc XC mc ms free) (hblind : FrameBlind Pc) (hrc : rm.cells = mc) (hrs : rm.slots = ms)
    (hframes : rm.frames + 1 ≤ R.frames) (hlocals : W9 + (maxL + 11) + rm.locals ≤ R.locals)
    (hws : ∀ w ∈ ws, ∀ a' U, s.WarmedH U.vm → w.before a' U = true) (hcode : Cond.code y bytes maxL ret ∈ ws) (hinit : ∀ a' U, s.WarmedH U.vm → (Cond.initialized y.cls).before a' U = true) :
    vx_Back l R p e below s sargs y len W9 (PreOf R mc ms Pc) (PostOf Qc mc ms free) (vx_Post XC mc ms free) := by
  intro m meth c A g ig mk a X hg hsize hdg hW hn hp
  have h1 : (headSpec ws rm).pre.before a A.U = true := atoms_intro fun w hw => hws w hw _ _ X.warmed
  have h2 : (Cond.code y bytes maxL ret).before a A.U = true := hws _ hcode _ _ X.warmed
  have h3 : (Cond.initialized y.cls).before a A.U = true := hinit _ _ X.warmed
  have h4 : A.cells + (headSpec ws rm).room.cells ≤ R.cells := by rw [show (headSpec ws rm).room.cells = mc from hrc]; exact hp.1
  have h5 : A.slots + (headSpec ws rm).room.slots ≤ R.slots := by rw [show (headSpec ws rm).room.slots = ms from hrs]; exact hp.2.1
  have hPc : Pc a (A.U.calling g mk a) := hblind _ _ _ _ hp.2.2
  obtain ⟨U, Ls, c0, s0⟩ := A
  dsimp only [Pt.U, Pt.locs, Pt.cells, Pt.slots] at h1 h2 h3 h4 h5 X hn hPc ⊢
  obtain ⟨methY, cY, hmY, hcY, -, hlY, -, -, -, -⟩ := Cond.code_spec hn h2
  obtain ⟨kY, hkY, -⟩ := className_of_methodNamed hn
  have hinitY : kY.init = .initialized := Cond.initialized_spec (findClass_of_methodNamed hn) hkY h3
  have h : At U g.method c below := by rw [hg]; exact X.here
  have hlocals9 : W9 + (maxL + 11) + (headSpec ws rm).room.locals ≤ R.locals := hlocals
  have happ : (headSpec ws rm).appliesLoose y e.platform (U.calling g mk a) = true :=
    Spec.appliesLoose_calling (g := g) h hdg hn hkY hinitY
      (X.room_calling (g := g) (R' := (headSpec ws rm).room) hsize hmY hcY hframes (by rw [hlY]; omega) h4 h5) h1
  obtain ⟨mid, hmid⟩ := h.above
  have hfr : (U.setTop g).frames = (.java g :: mid) ++ below := by rw [State.frames_setTop' g h.top, hmid]; rfl
  obtain ⟨o, s₂, hsteps, -, hend, hq⟩ := Steps.callFree hM p X.admits X.cas X.clock (acts := []) hfr happ hPc trivial
  have hq' : vx_Q Qc XC mc ms free a (U.calling g mk a) o s₂ := hq
  rw [State.frames_setTop' g h.top] at hend
  obtain ⟨g₀, hg0⟩ := Option.isSome_iff_exists.mp h.top
  obtain ⟨r, hr⟩ := State.topJava?_eq_some.mp hg0
  have hr' : (({ U with heap := s₂.heap, slotsUsed := s₂.slotsUsed } : State).setVm s₂.vm).frames = .java g₀ :: r := hr
  rcases hq' with ⟨hqc, L, hfe, hL⟩ | ⟨q, rfl, E, ce, L, hx, hce, hcv, hcl, hW₂, hsm, hL⟩
  · obtain ⟨⟨v, rfl⟩, hW₂, e2, q2, q3, q4, q5, q6⟩ := id hfe
    have e3 : s₂ = ({ (U.calling g mk a).setFrames s₂.frames with heap := s₂.heap, slotsUsed := s₂.slotsUsed } : State).setVm s₂.vm := by
      have : s₂ = ({ s₂ with vm := (U.calling g mk a).vm } : State).setVm s₂.vm := rfl
      rw [e2] at this
      exact this
    obtain ⟨c₂, i₂, len₂, hc₂, hd₂, hf₂⟩ := hend
    have hW' : U.WarmedH s₂.vm := hW₂
    have hcc : c₂ = c := by
      have h1 : s₂.code? g.method = U.code? g.method := by
        rw [State.code?_eq, State.code?_eq, hW'.alike.method?]
      exact Option.some.inj (hc₂.symm.trans (h1.trans h.code))
    subst hcc
    have hlen : len₂ = len := by rw [hdg] at hd₂; cases hd₂; rfl
    subst hlen
    have hs₂ : s₂ = (({ U with heap := s₂.heap, slotsUsed := s₂.slotsUsed } : State).setVm s₂.vm).setTop { g with pc := g.pc + len₂, stack := v.toList ++ g.stack } := by
      refine e3.trans ?_
      rw [hf₂, State.calling_eq h.top, State.setFrames_setFrames, State.setTop_of_frames _ hr', hr]
      rfl
    have hsame : U.sameButNew ({ U with heap := s₂.heap, slotsUsed := s₂.slotsUsed } : State) L mc ms := by
      refine ⟨?_, q2, q3, q4, q5, q6⟩
      obtain ⟨t, ht, -⟩ := State.frames_cons hr
      show ({ U with heap := s₂.heap, slotsUsed := s₂.slotsUsed } : State) = { U.setFrames U.frames with heap := s₂.heap, slotsUsed := s₂.slotsUsed }
      rw [State.setFrames_self ht]
    subst hg
    refine Or.inl ⟨v, ⟨(({ U with heap := s₂.heap, slotsUsed := s₂.slotsUsed } : State).setVm s₂.vm), Ls ++ L, c0 + mc, s0 + ms⟩,
      ⟨X.admits, X.cas, X.clock, X.frames, X.room, X.hears, X.method, X.code, (X.here.setHeapUsed s₂.heap s₂.slotsUsed).setVm hW'.alike, X.tail, State.WarmedH.trans X.warmed hW', X.limits, X.bytes, X.same.trans (hsame.setVm s.vm)⟩,
      ⟨g, mk, s₂, L, rfl, rfl, hqc, rfl, hL, rfl, rfl⟩, ?_⟩
    show Steps p.tables e below _ ((({ U with heap := s₂.heap, slotsUsed := s₂.slotsUsed } : State).setVm s₂.vm).setTop { g with pc := g.pc + len₂, stack := v.toList ++ g.stack })
    rw [← hs₂]
    exact hsteps
  · obtain ⟨e2, q2, q3, q4, q5, q6⟩ := id hsm
    have e3 : s₂ = ({ (U.calling g mk a).setFrames s₂.frames with heap := s₂.heap, slotsUsed := s₂.slotsUsed } : State).setVm s₂.vm := by
      have : s₂ = ({ s₂ with vm := (U.calling g mk a).vm } : State).setVm s₂.vm := rfl
      rw [e2] at this
      exact this
    have hf₂ : s₂.frames = .throwing q :: .java g :: U.frames.tail := hend
    have hW' : U.WarmedH s₂.vm := hW₂
    have hs₂ : s₂ = ((({ U with heap := s₂.heap, slotsUsed := s₂.slotsUsed } : State).setVm s₂.vm).setTop g).pushFrame (.throwing q) := by
      refine e3.trans ?_
      rw [hf₂, State.calling_eq h.top, State.setFrames_setFrames, State.pushFrame, State.frames_setTop _ hr', State.setTop_of_frames _ hr', State.setFrames_setFrames, hr]
      rfl
    have hsame : U.sameButNew ({ U with heap := s₂.heap, slotsUsed := s₂.slotsUsed } : State) L mc ms := by
      refine ⟨?_, q2, q3, q4, q5, q6⟩
      obtain ⟨t, ht, -⟩ := State.frames_cons hr
      show ({ U with heap := s₂.heap, slotsUsed := s₂.slotsUsed } : State) = { U.setFrames U.frames with heap := s₂.heap, slotsUsed := s₂.slotsUsed }
      rw [State.setFrames_self ht]
    subst hg
    refine Or.inr ⟨q, ⟨(({ U with heap := s₂.heap, slotsUsed := s₂.slotsUsed } : State).setVm s₂.vm), Ls ++ L, c0 + mc, s0 + ms⟩,
      ⟨X.admits, X.cas, X.clock, X.frames, X.room, X.hears, X.method, X.code, (X.here.setHeapUsed s₂.heap s₂.slotsUsed).setVm hW'.alike, X.tail, State.WarmedH.trans X.warmed hW', X.limits, X.bytes, X.same.trans (hsame.setVm s.vm)⟩,
      ⟨g, mk, s₂, L, E, ce, rfl, rfl, hx, hce, hcv, hcl, rfl, hL, rfl, rfl⟩, ?_⟩
    show Steps p.tables e below _ (((({ U with heap := s₂.heap, slotsUsed := s₂.slotsUsed } : State).setVm s₂.vm).setTop g).pushFrame (.throwing q))
    rw [← hs₂]
    exact hsteps
end Payer
section Calls
variable {p : Program} {l : Launch} {e : Env} {R : Room} {s : State} {m : MethodId} {args : Array Value} {below : List Frame} {meth : Method} {c : Code} {T : State} {locs : List Loc} {cells slots : Nat}
theorem vx_callV (X : Stand p l e R s m args below meth c T locs cells slots) (hexec : p.tables.exec = Jvm.exec) {own C : String} {index : Nat} {y : MethodName} {bytes : ByteArray} {maxL : Nat} {ret : Option FieldType}
    (hown : s.vm.findClass own = some m.cls) (hlink : (Cond.methodLink own index y).before args s = true) (hinst : (Cond.instanceMethod y).before args s = true) (hsel : (Cond.selects C y y).before args s = true)
    (hcode : (Cond.code y bytes maxL ret).before args s = true) (hy : y.cls ≠ "java/lang/invoke/MethodHandle" ∧ y.cls ≠ "java/lang/invoke/VarHandle")
    {W9 : Nat} {Pre : Pt → Array Value → Prop} {Post : Pt → Array Value → Option Value → Pt → Prop} {PostX : Pt → Array Value → Addr → Pt → Prop} (hK : vx_Back l R p e below s args y 3 W9 Pre Post PostX)
    {b : Addr} {cellB : Cell} (hcell : T.heap[b]? = some cellB) (hobj : cellB.vm.isStatics = false) (hcls : s.vm.findClass C = some cellB.cls)
    {g : JFrame} (hg : g.method = m) (hsize : g.locals.size = c.maxLocals) {argsL rest : List Value} (hlen : ∀ sig, parseMethodDescriptor y.desc = some sig → argsL.length = sig.parameters.length)
    (hstack : g.stack = argsL.reverse ++ .ref b :: rest) (hW : 2 * g.monitorRoom + (rest.map fun v => v.category).sum ≤ W9) (hdg : decode c.code g.pc = .ok (.invokevirtual index, 3))
    (hpre : ∀ vm₁, s.WarmedH vm₁ → Pre ⟨T.setVm vm₁, locs, cells, slots⟩ (Value.ref b :: argsL).toArray) :
    (∃ (v : Option Value) (vm₁ : Vm) (B : Pt), s.WarmedH vm₁ ∧ Stand p l e R s m args below meth c B.U B.locs B.cells B.slots ∧ Post ⟨T.setVm vm₁, locs, cells, slots⟩ (Value.ref b :: argsL).toArray v B ∧
      ∀ target, Steps p.tables e below (B.U.setTop { g with pc := g.pc + 3, stack := v.toList ++ rest }) target → Steps p.tables e below (T.setTop g) target) ∨
    (∃ (q : Addr) (vm₁ : Vm) (B : Pt), s.WarmedH vm₁ ∧ Stand p l e R s m args below meth c B.U B.locs B.cells B.slots ∧ PostX ⟨T.setVm vm₁, locs, cells, slots⟩ (Value.ref b :: argsL).toArray q B ∧
      Steps p.tables e below (T.setTop g) ((B.U.setTop { g with stack := rest }).pushFrame (.throwing q))) := by
  obtain ⟨mk, methM, hnamed, hmethM, hstM, habM⟩ := Cond.instanceMethod_spec hinst
  obtain ⟨methM', cM, hmethM', -, -, -, -, -, -, hsigM⟩ := Cond.code_spec hnamed hcode
  cases hmethM.symm.trans hmethM'
  obtain ⟨c2, r2, m2, q1, q2, q3, q4, kP, hkP, hkPi⟩ := Cond.selects_spec hsel
  cases hcls.symm.trans q1
  cases (State.methodFound?_of_named hnamed hy).symm.trans q2
  cases hnamed.symm.trans q3
  have hselP : selectMethod e.platform s.vm cellB.cls mk = .method mk := by rw [Launch.admits_selectMethod X.admits]; exact q4
  obtain ⟨vm₁, X₁, hstep₁⟩ := X.invokevirtual hexec hown hlink hnamed hmethM hstM hkP hkPi hy (a := b) (cell := cellB) hcell
    (fun z h => by rw [h] at hobj; cases hobj) hselP hmethM habM hkP hkPi (g := g) hg (argsL := argsL) (rest := rest) (hlen _ hsigM) hstack hdg
  rcases hK m meth c ⟨T.setVm vm₁, locs, cells, slots⟩ { g with stack := rest } (.invokevirtual index) mk (Value.ref b :: argsL).toArray X₁ hg hsize hdg hW (X₁.named hnamed) (hpre vm₁ X₁.warmed) with ⟨v, B, X', hpost, hsteps⟩ | ⟨q, B, X', hpost, hsteps⟩
  · exact Or.inl ⟨v, vm₁, B, X₁.warmed, X', hpost, fun target h => hstep₁ _ fun acts => by rw [doInvoke_state]; exact hsteps.trans h⟩
  · exact Or.inr ⟨q, vm₁, B, X₁.warmed, X', hpost, hstep₁ _ fun acts => by rw [doInvoke_state]; exact hsteps⟩
theorem vx_callS (X : Stand p l e R s m args below meth c T locs cells slots) (hexec : p.tables.exec = Jvm.exec) {own : String} {index : Nat} {y : MethodName} {bytes : ByteArray} {maxL : Nat} {ret : Option FieldType}
    (hown : s.vm.findClass own = some m.cls) (hlink : (Cond.methodLink own index y).before args s = true) (hstat : (Cond.static y).before args s = true) (hinit : (Cond.initialized y.cls).before args s = true)
    (hcode : (Cond.code y bytes maxL ret).before args s = true) (hy : y.cls ≠ "java/lang/invoke/MethodHandle" ∧ y.cls ≠ "java/lang/invoke/VarHandle")
    {W9 : Nat} {Pre : Pt → Array Value → Prop} {Post : Pt → Array Value → Option Value → Pt → Prop} {PostX : Pt → Array Value → Addr → Pt → Prop} (hK : vx_Back l R p e below s args y 3 W9 Pre Post PostX)
    {g : JFrame} (hg : g.method = m) (hsize : g.locals.size = c.maxLocals) {argsL rest : List Value} (hlen : ∀ sig, parseMethodDescriptor y.desc = some sig → argsL.length = sig.parameters.length)
    (hstack : g.stack = argsL.reverse ++ rest) (hW : 2 * g.monitorRoom + (rest.map fun v => v.category).sum ≤ W9) (hdg : decode c.code g.pc = .ok (.invokestatic index, 3))
    (hpre : ∀ vm₁, s.WarmedH vm₁ → Pre ⟨T.setVm vm₁, locs, cells, slots⟩ argsL.toArray) :
    (∃ (v : Option Value) (vm₁ : Vm) (B : Pt), s.WarmedH vm₁ ∧ Stand p l e R s m args below meth c B.U B.locs B.cells B.slots ∧ Post ⟨T.setVm vm₁, locs, cells, slots⟩ argsL.toArray v B ∧
      ∀ target, Steps p.tables e below (B.U.setTop { g with pc := g.pc + 3, stack := v.toList ++ rest }) target → Steps p.tables e below (T.setTop g) target) ∨
    (∃ (q : Addr) (vm₁ : Vm) (B : Pt), s.WarmedH vm₁ ∧ Stand p l e R s m args below meth c B.U B.locs B.cells B.slots ∧ PostX ⟨T.setVm vm₁, locs, cells, slots⟩ argsL.toArray q B ∧
      Steps p.tables e below (T.setTop g) ((B.U.setTop { g with stack := rest }).pushFrame (.throwing q))) := by
  obtain ⟨mk, hnamed⟩ := Cond.code_named hcode
  obtain ⟨methM, cM, hmethM, -, -, -, -, -, -, hsigM⟩ := Cond.code_spec hnamed hcode
  have hstatic : methM.isStatic = true := Cond.static_spec hnamed hmethM hstat
  obtain ⟨kP, hkP, -⟩ := className_of_methodNamed hnamed
  have hinitP : kP.init = .initialized := Cond.initialized_spec (findClass_of_methodNamed hnamed) hkP hinit
  obtain ⟨vm₁, X₁, hstep₁⟩ := X.invokestatic hexec hown hlink hnamed hmethM hstatic hkP hinitP hy (g := g) hg (argsL := argsL) (rest := rest) (hlen _ hsigM) hstack hdg
  rcases hK m meth c ⟨T.setVm vm₁, locs, cells, slots⟩ { g with stack := rest } (.invokestatic index) mk argsL.toArray X₁ hg hsize hdg hW (X₁.named hnamed) (hpre vm₁ X₁.warmed) with ⟨v, B, X', hpost, hsteps⟩ | ⟨q, B, X', hpost, hsteps⟩
  · exact Or.inl ⟨v, vm₁, B, X₁.warmed, X', hpost, fun target h => hstep₁ _ fun acts => by rw [doInvoke_state]; exact hsteps.trans h⟩
  · exact Or.inr ⟨q, vm₁, B, X₁.warmed, X', hpost, hstep₁ _ fun acts => by rw [doInvoke_state]; exact hsteps⟩
end Calls
theorem vx_cls {s : State} {T : State} {vm₁ : Vm} {E : String} {k : ClassId} (hW : s.WarmedH vm₁) (h : (T.setVm vm₁).vm.findClass E = some k) : s.vm.findClass E = some k := by
  have h1 : vm₁.findClass E = some k := h
  rw [hW.alike.findClass] at h1
  exact h1
/-- the method's frame g, with q thrown over it -/
def vx_W (p : Program) (l : Launch) (e : Env) (R : Room) (s : State) (m : MethodId) (args : Array Value) (below : List Frame) (meth : Method) (c : Code) (H : Heap) (locs : List Loc) (cells slots : Nat) (Q : State → Prop) (g : JFrame) (q : Addr) : Prop :=
  ∀ T : State, T.heap = H → Stand p l e R s m args below meth c T locs cells slots → ∃ t, Steps p.tables e below ((T.setTop g).pushFrame (.throwing q)) t ∧ Q t
def vx_Run (p : Program) (l : Launch) (e : Env) (R : Room) (s : State) (m : MethodId) (args : Array Value) (below : List Frame) (meth : Method) (c : Code) (H : Heap) (locs : List Loc) (cells slots mc ms : Nat) (g : JFrame) (rest : List Value) (Qa : State → Outcome → State → Prop) (XC : String → State → State → Prop) (free : Addr → Prop) : Prop :=
  ∀ T : State, T.heap = H → Stand p l e R s m args below meth c T locs cells slots →
    (∃ (v : Option Value) (st₀ t T' : State) (L : List Loc), st₀.heap = H ∧ Stand p l e R s m args below meth c T' (locs ++ L) (cells + mc) (slots + ms) ∧ (∀ q ∈ L, free q.base) ∧ T'.heap = t.heap ∧ T'.vm = t.vm ∧ Qa st₀ (.returned v) t ∧
      Goes p e below T g T' { g with pc := g.pc + 3, stack := v.toList ++ rest }) ∨
    (∃ (q : Addr) (st₀ t T' : State) (L : List Loc) (E : String) (ce : Cell), st₀.heap = H ∧ Stand p l e R s m args below meth c T' (locs ++ L) (cells + mc) (slots + ms) ∧ (∀ z ∈ L, free z.base) ∧ T'.heap = t.heap ∧ T'.vm = t.vm ∧ XC E st₀ t ∧ t.heap[q]? = some ce ∧ ce.vm = .none ∧ s.vm.findClass E = some ce.cls ∧
      Steps p.tables e below (T.setTop g) ((T'.setTop { g with stack := rest }).pushFrame (.throwing q)))
def vx_X {S : Type} (px : S → Prop) (B : String → S → State → Prop) (A : Nat → Prop) : String → State → State → Prop := fun E st t => ∃ u : S, px u ∧ B E u t ∧ va_F A st t
section Runs
variable {p : Program} {l : Launch} {e : Env} {R : Room} {s : State} {m : MethodId} {args : Array Value} {below : List Frame} {meth : Method} {c : Code} {H : Heap} {locs : List Loc} {cells slots : Nat}
variable {y : MethodName} {bytes cc : ByteArray} {maxL nL mc ms n index : Nat} {ret : Option FieldType} {ws : List Cond} {rm : Room} {Pc : Array Value → State → Prop} {Qc : Array Value → State → Outcome → State → Prop} {XC : String → State → State → Prop} {free : Addr → Prop} {Ts : List Cond} {own C : String} {b : Addr} {As rest : List Value} {g : JFrame}
theorem vx_callBack (cb : CallB R s args own index y bytes maxL ret ws rm mc ms n) (hM : vx_Met l y ws rm Pc Qc XC mc ms free) (hbl : FrameBlind Pc) : vx_Back l R p e below s args y 3 8 (PreOf R mc ms Pc) (PostOf Qc mc ms free) (vx_Post XC mc ms free) := by
  obtain ⟨hrc, hrs, hfr, hlo, hws, hcw, -, hini, -⟩ := cb
  exact vx_back (bytes := bytes) (maxL := maxL) (ret := ret) hM hbl hrc hrs hfr hlo hws hcw (fun a' U hW => word_at hW (Or.inl (by first | rfl | simp [Cond.onTables, Cond.keeps, Cond.steady])) hini)
theorem vx_runV (S : CallFix p m c cc nL s args Ts own) (hM : vx_Met l y ws rm Pc Qc XC mc ms free) (cw : CallW R s args own C index y bytes maxL ret ws rm mc ms n) (hp : PreV s H C b Pc As)
    (hg : g.method = m) (hn : As.length = n) (hsize : g.locals.size = nL) (hstack : g.stack = As.reverse ++ .ref b :: rest) (hW : 2 * g.monitorRoom + (rest.map fun v => v.category).sum ≤ 8) (hdg : decode cc g.pc = .ok (.invokevirtual index, 3)) (hf : cells + mc ≤ R.cells ∧ slots + ms ≤ R.slots) :
    vx_Run p l e R s m args below meth c H locs cells slots mc ms g rest (Qc (Value.ref b :: As).toArray) XC free := by
  have hK : vx_Back l R p e below s args y 3 8 (PreOf R mc ms Pc) (PostOf Qc mc ms free) (vx_Post XC mc ms free) := vx_callBack cw.1 hM hp.1
  obtain ⟨⟨-, -, -, -, -, -, hcode, -, hy, hlen, hl⟩, hin, hse⟩ := cw
  obtain ⟨hx, hb, hml, ho, -⟩ := S
  obtain ⟨-, ⟨cellB, hcB, hoB, hclB⟩, hPc⟩ := hp
  intro T hT X
  rcases vx_callV X hx (C := C) (bytes := bytes) (maxL := maxL) (ret := ret) ho hl hin hse hcode hy hK (by rw [hT]; exact hcB) hoB hclB hg (hsize.trans hml.symm) (argsL := As) (rest := rest) (fun sig h => hn.trans (hlen sig h)) hstack hW (by rw [hb]; exact hdg)
    (fun vm₁ hW₁ => ⟨hf.1, hf.2, hPc (T.setVm vm₁) hT hW₁⟩) with ⟨v, vm₁, ⟨U', l2, c2, s2⟩, hW₁, X', ⟨g', mk, t, L, e1, e2, hq, h1, hL, h2, h3⟩, st⟩ | ⟨q, vm₁, ⟨U', l2, c2, s2⟩, hW₁, X', ⟨g', mk, t, L, E, ce, e1, e2, hq, hce, hcv, hcl, h1, hL, h2, h3⟩, st⟩
  · dsimp only [Pt.U, Pt.locs, Pt.cells, Pt.slots] at X' e1 e2 h1 h2 h3 st
    subst h1; subst h2; subst h3
    exact Or.inl ⟨v, (T.setVm vm₁).calling g' mk (Value.ref b :: As).toArray, t, U', L, hT, X', hL, e1, e2, hq, st⟩
  · dsimp only [Pt.U, Pt.locs, Pt.cells, Pt.slots] at X' e1 e2 h1 h2 h3 st hcl
    subst h1; subst h2; subst h3
    exact Or.inr ⟨q, (T.setVm vm₁).calling g' mk (Value.ref b :: As).toArray, t, U', L, E, ce, hT, X', hL, e1, e2, hq, hce, hcv, vx_cls hW₁ hcl, st⟩
theorem vx_runS (S : CallFix p m c cc nL s args Ts own) (hM : vx_Met l y ws rm Pc Qc XC mc ms free) (cw : CallB R s args own index y bytes maxL ret ws rm mc ms n ∧ (Cond.static y).before args s = true) (hp : PreS s H Pc As)
    (hg : g.method = m) (hn : As.length = n) (hsize : g.locals.size = nL) (hstack : g.stack = As.reverse ++ rest) (hW : 2 * g.monitorRoom + (rest.map fun v => v.category).sum ≤ 8) (hdg : decode cc g.pc = .ok (.invokestatic index, 3)) (hf : cells + mc ≤ R.cells ∧ slots + ms ≤ R.slots) :
    vx_Run p l e R s m args below meth c H locs cells slots mc ms g rest (Qc As.toArray) XC free := by
  have hK : vx_Back l R p e below s args y 3 8 (PreOf R mc ms Pc) (PostOf Qc mc ms free) (vx_Post XC mc ms free) := vx_callBack cw.1 hM hp.1
  obtain ⟨⟨-, -, -, -, -, -, hcode, hini, hy, hlen, hl⟩, hstt⟩ := cw
  obtain ⟨hx, hb, hml, ho, -⟩ := S
  intro T hT X
  rcases vx_callS X hx (bytes := bytes) (maxL := maxL) (ret := ret) ho hl hstt hini hcode hy hK hg (hsize.trans hml.symm) (argsL := As) (rest := rest) (fun sig h => hn.trans (hlen sig h)) hstack hW (by rw [hb]; exact hdg)
    (fun vm₁ hW₁ => ⟨hf.1, hf.2, hp.2 (T.setVm vm₁) hT hW₁⟩) with ⟨v, vm₁, ⟨U', l2, c2, s2⟩, hW₁, X', ⟨g', mk, t, L, e1, e2, hq, h1, hL, h2, h3⟩, st⟩ | ⟨q, vm₁, ⟨U', l2, c2, s2⟩, hW₁, X', ⟨g', mk, t, L, E, ce, e1, e2, hq, hce, hcv, hcl, h1, hL, h2, h3⟩, st⟩
  · dsimp only [Pt.U, Pt.locs, Pt.cells, Pt.slots] at X' e1 e2 h1 h2 h3 st
    subst h1; subst h2; subst h3
    exact Or.inl ⟨v, (T.setVm vm₁).calling g' mk As.toArray, t, U', L, hT, X', hL, e1, e2, hq, st⟩
  · dsimp only [Pt.U, Pt.locs, Pt.cells, Pt.slots] at X' e1 e2 h1 h2 h3 st hcl
    subst h1; subst h2; subst h3
    exact Or.inr ⟨q, (T.setVm vm₁).calling g' mk As.toArray, t, U', L, E, ce, hT, X', hL, e1, e2, hq, hce, hcv, vx_cls hW₁ hcl, st⟩
end Runs
section Rows
variable {p : Program} {l : Launch} {e : Env} {R : Room} {s : State} {m : MethodId} {args : Array Value} {below : List Frame} {meth : Method} {c : Code} {H : Heap} {locs : List Loc} {cells slots : Nat} {Q : State → Prop}
variable {mc ms : Nat} {free : Addr → Prop} {A0 A1 : Nat → Prop} {H0 : Heap} {a : Array Value} {pc : Nat} {ls : Array Slot} {st0 rest : List Value}
theorem vx_keep {st₀ t T' : State} {L : List Loc} (h0 : st₀.heap = H) (e1 : T'.heap = t.heap) (hS : va_S A0 H0 H locs) (hA : ∀ q, q < H.size → A1 q → A0 q) (hf : ∀ q, free q → A0 q) (hL : ∀ q ∈ L, free q.base) (hF : va_F A1 st₀ t) :
    H.size ≤ T'.heap.size ∧ (∀ q : Nat, q < H.size → ¬ A1 q → T'.heap[q]? = H[q]?) ∧ va_S A0 H0 T'.heap (locs ++ L) := by
  obtain ⟨hz, hk⟩ := hF
  rw [h0] at hz hk
  exact ⟨by rw [e1]; exact hz, fun q h1 h2 => by rw [e1]; exact hk q h1 h2,
    ⟨Nat.le_trans hS.1 (by rw [e1]; exact hz), fun q h1 h2 => by rw [e1, hk q (Nat.lt_of_lt_of_le h1 hS.1) (fun z => h2 (hA q (Nat.lt_of_lt_of_le h1 hS.1) z))]; exact hS.2.1 q h1 h2, fun q hq => by
      rcases List.mem_append.mp hq with h | h
      · exact hS.2.2 q h
      · exact hf _ (hL q h)⟩⟩
theorem vx_calli {S SX : Type} {post : Int32 → S → Prop} {px : SX → Prop} {B : S → State → Prop} {BX : String → SX → State → Prop} {AX : Nat → Prop} (hr : vx_Run p l e R s m args below meth c H locs cells slots mc ms (F0 m pc ls st0) rest (va_Qi post B A1 a) (vx_X px BX AX) free) (hS : va_S A0 H0 H locs) (hA : ∀ q, q < H.size → A1 q → A0 q) (hf : ∀ q, free q → A0 q) (hAX : ∀ q, q < H.size → AX q → A0 q)
    (kx : ∀ (E : String) (ce : Cell) (q9 : Addr) (u : SX) (t : State) (H1 : Heap) (locs1 : List Loc), t.heap = H1 → s.vm.Alike t.vm → px u → BX E u t → H.size ≤ H1.size → (∀ q : Nat, q < H.size → ¬ AX q → H1[q]? = H[q]?) → va_S A0 H0 H1 locs1 → H1[q9]? = some ce → ce.vm = .none → s.vm.findClass E = some ce.cls → vx_W p l e R s m args below meth c H1 locs1 (cells + mc) (slots + ms) Q (F0 m pc ls rest) q9)
    (kk : ∀ (r : Int32) (u : S) (t : State) (H1 : Heap) (locs1 : List Loc), t.heap = H1 → s.vm.Alike t.vm → post r u → B u t → H.size ≤ H1.size → (∀ q : Nat, q < H.size → ¬ A1 q → H1[q]? = H[q]?) → va_S A0 H0 H1 locs1 → W p l e R s m args below meth c H1 locs1 (cells + mc) (slots + ms) Q (F0 m (pc + 3) ls (.int r :: rest))) : W p l e R s m args below meth c H locs cells slots Q (F0 m pc ls st0) := by
  intro T hT X
  rcases hr T hT X with ⟨v, st₀, t, T', L, h0, X', hL, e1, e2, ⟨⟨r, u, hv, hp, hb⟩, hF⟩, st⟩ | ⟨q, st₀, t, T', L, E, ce, h0, X', hL, e1, e2, ⟨u, hp, hb, hF⟩, hce, hcv, hcl, st⟩
  · cases hv
    obtain ⟨k1, k2, k3⟩ := vx_keep h0 e1 hS hA hf hL hF
    obtain ⟨t2, a1, b1⟩ := kk r u t T'.heap (locs ++ L) e1.symm (by rw [← e2]; exact X'.warmed.alike) hp hb k1 k2 k3 T' rfl X'
    exact ⟨t2, st t2 a1, b1⟩
  · obtain ⟨k1, k2, k3⟩ := vx_keep h0 e1 hS hAX hf hL hF
    obtain ⟨t2, a1, b1⟩ := kx E ce q u t T'.heap (locs ++ L) e1.symm (by rw [← e2]; exact X'.warmed.alike) hp hb k1 k2 k3 (by rw [e1]; exact hce) hcv hcl T' rfl X'
    exact ⟨t2, st.trans a1, b1⟩
theorem vx_calll {S SX : Type} {post : Int64 → S → Prop} {px : SX → Prop} {B : S → State → Prop} {BX : String → SX → State → Prop} {AX : Nat → Prop} (hr : vx_Run p l e R s m args below meth c H locs cells slots mc ms (F0 m pc ls st0) rest (va_Ql post B A1 a) (vx_X px BX AX) free) (hS : va_S A0 H0 H locs) (hA : ∀ q, q < H.size → A1 q → A0 q) (hf : ∀ q, free q → A0 q) (hAX : ∀ q, q < H.size → AX q → A0 q)
    (kx : ∀ (E : String) (ce : Cell) (q9 : Addr) (u : SX) (t : State) (H1 : Heap) (locs1 : List Loc), t.heap = H1 → s.vm.Alike t.vm → px u → BX E u t → H.size ≤ H1.size → (∀ q : Nat, q < H.size → ¬ AX q → H1[q]? = H[q]?) → va_S A0 H0 H1 locs1 → H1[q9]? = some ce → ce.vm = .none → s.vm.findClass E = some ce.cls → vx_W p l e R s m args below meth c H1 locs1 (cells + mc) (slots + ms) Q (F0 m pc ls rest) q9)
    (kk : ∀ (r : Int64) (u : S) (t : State) (H1 : Heap) (locs1 : List Loc), t.heap = H1 → s.vm.Alike t.vm → post r u → B u t → H.size ≤ H1.size → (∀ q : Nat, q < H.size → ¬ A1 q → H1[q]? = H[q]?) → va_S A0 H0 H1 locs1 → W p l e R s m args below meth c H1 locs1 (cells + mc) (slots + ms) Q (F0 m (pc + 3) ls (.long r :: rest))) : W p l e R s m args below meth c H locs cells slots Q (F0 m pc ls st0) := by
  intro T hT X
  rcases hr T hT X with ⟨v, st₀, t, T', L, h0, X', hL, e1, e2, ⟨⟨r, u, hv, hp, hb⟩, hF⟩, st⟩ | ⟨q, st₀, t, T', L, E, ce, h0, X', hL, e1, e2, ⟨u, hp, hb, hF⟩, hce, hcv, hcl, st⟩
  · cases hv
    obtain ⟨k1, k2, k3⟩ := vx_keep h0 e1 hS hA hf hL hF
    obtain ⟨t2, a1, b1⟩ := kk r u t T'.heap (locs ++ L) e1.symm (by rw [← e2]; exact X'.warmed.alike) hp hb k1 k2 k3 T' rfl X'
    exact ⟨t2, st t2 a1, b1⟩
  · obtain ⟨k1, k2, k3⟩ := vx_keep h0 e1 hS hAX hf hL hF
    obtain ⟨t2, a1, b1⟩ := kx E ce q u t T'.heap (locs ++ L) e1.symm (by rw [← e2]; exact X'.warmed.alike) hp hb k1 k2 k3 (by rw [e1]; exact hce) hcv hcl T' rfl X'
    exact ⟨t2, st.trans a1, b1⟩
theorem vx_callf {S SX : Type} {post : UInt32 → S → Prop} {px : SX → Prop} {B : S → State → Prop} {BX : String → SX → State → Prop} {AX : Nat → Prop} (hr : vx_Run p l e R s m args below meth c H locs cells slots mc ms (F0 m pc ls st0) rest (va_Qf post B A1 a) (vx_X px BX AX) free) (hS : va_S A0 H0 H locs) (hA : ∀ q, q < H.size → A1 q → A0 q) (hf : ∀ q, free q → A0 q) (hAX : ∀ q, q < H.size → AX q → A0 q)
    (kx : ∀ (E : String) (ce : Cell) (q9 : Addr) (u : SX) (t : State) (H1 : Heap) (locs1 : List Loc), t.heap = H1 → s.vm.Alike t.vm → px u → BX E u t → H.size ≤ H1.size → (∀ q : Nat, q < H.size → ¬ AX q → H1[q]? = H[q]?) → va_S A0 H0 H1 locs1 → H1[q9]? = some ce → ce.vm = .none → s.vm.findClass E = some ce.cls → vx_W p l e R s m args below meth c H1 locs1 (cells + mc) (slots + ms) Q (F0 m pc ls rest) q9)
    (kk : ∀ (r : UInt32) (u : S) (t : State) (H1 : Heap) (locs1 : List Loc), t.heap = H1 → s.vm.Alike t.vm → post r u → B u t → H.size ≤ H1.size → (∀ q : Nat, q < H.size → ¬ A1 q → H1[q]? = H[q]?) → va_S A0 H0 H1 locs1 → W p l e R s m args below meth c H1 locs1 (cells + mc) (slots + ms) Q (F0 m (pc + 3) ls (.float r :: rest))) : W p l e R s m args below meth c H locs cells slots Q (F0 m pc ls st0) := by
  intro T hT X
  rcases hr T hT X with ⟨v, st₀, t, T', L, h0, X', hL, e1, e2, ⟨⟨r, u, hv, hp, hb⟩, hF⟩, st⟩ | ⟨q, st₀, t, T', L, E, ce, h0, X', hL, e1, e2, ⟨u, hp, hb, hF⟩, hce, hcv, hcl, st⟩
  · cases hv
    obtain ⟨k1, k2, k3⟩ := vx_keep h0 e1 hS hA hf hL hF
    obtain ⟨t2, a1, b1⟩ := kk r u t T'.heap (locs ++ L) e1.symm (by rw [← e2]; exact X'.warmed.alike) hp hb k1 k2 k3 T' rfl X'
    exact ⟨t2, st t2 a1, b1⟩
  · obtain ⟨k1, k2, k3⟩ := vx_keep h0 e1 hS hAX hf hL hF
    obtain ⟨t2, a1, b1⟩ := kx E ce q u t T'.heap (locs ++ L) e1.symm (by rw [← e2]; exact X'.warmed.alike) hp hb k1 k2 k3 (by rw [e1]; exact hce) hcv hcl T' rfl X'
    exact ⟨t2, st.trans a1, b1⟩
theorem vx_calld {S SX : Type} {post : UInt64 → S → Prop} {px : SX → Prop} {B : S → State → Prop} {BX : String → SX → State → Prop} {AX : Nat → Prop} (hr : vx_Run p l e R s m args below meth c H locs cells slots mc ms (F0 m pc ls st0) rest (va_Qd post B A1 a) (vx_X px BX AX) free) (hS : va_S A0 H0 H locs) (hA : ∀ q, q < H.size → A1 q → A0 q) (hf : ∀ q, free q → A0 q) (hAX : ∀ q, q < H.size → AX q → A0 q)
    (kx : ∀ (E : String) (ce : Cell) (q9 : Addr) (u : SX) (t : State) (H1 : Heap) (locs1 : List Loc), t.heap = H1 → s.vm.Alike t.vm → px u → BX E u t → H.size ≤ H1.size → (∀ q : Nat, q < H.size → ¬ AX q → H1[q]? = H[q]?) → va_S A0 H0 H1 locs1 → H1[q9]? = some ce → ce.vm = .none → s.vm.findClass E = some ce.cls → vx_W p l e R s m args below meth c H1 locs1 (cells + mc) (slots + ms) Q (F0 m pc ls rest) q9)
    (kk : ∀ (r : UInt64) (u : S) (t : State) (H1 : Heap) (locs1 : List Loc), t.heap = H1 → s.vm.Alike t.vm → post r u → B u t → H.size ≤ H1.size → (∀ q : Nat, q < H.size → ¬ A1 q → H1[q]? = H[q]?) → va_S A0 H0 H1 locs1 → W p l e R s m args below meth c H1 locs1 (cells + mc) (slots + ms) Q (F0 m (pc + 3) ls (.double r :: rest))) : W p l e R s m args below meth c H locs cells slots Q (F0 m pc ls st0) := by
  intro T hT X
  rcases hr T hT X with ⟨v, st₀, t, T', L, h0, X', hL, e1, e2, ⟨⟨r, u, hv, hp, hb⟩, hF⟩, st⟩ | ⟨q, st₀, t, T', L, E, ce, h0, X', hL, e1, e2, ⟨u, hp, hb, hF⟩, hce, hcv, hcl, st⟩
  · cases hv
    obtain ⟨k1, k2, k3⟩ := vx_keep h0 e1 hS hA hf hL hF
    obtain ⟨t2, a1, b1⟩ := kk r u t T'.heap (locs ++ L) e1.symm (by rw [← e2]; exact X'.warmed.alike) hp hb k1 k2 k3 T' rfl X'
    exact ⟨t2, st t2 a1, b1⟩
  · obtain ⟨k1, k2, k3⟩ := vx_keep h0 e1 hS hAX hf hL hF
    obtain ⟨t2, a1, b1⟩ := kx E ce q u t T'.heap (locs ++ L) e1.symm (by rw [← e2]; exact X'.warmed.alike) hp hb k1 k2 k3 (by rw [e1]; exact hce) hcv hcl T' rfl X'
    exact ⟨t2, st.trans a1, b1⟩
theorem vx_callv {S SX : Type} {post : S → Prop} {px : SX → Prop} {B : S → State → Prop} {BX : String → SX → State → Prop} {AX : Nat → Prop} (hr : vx_Run p l e R s m args below meth c H locs cells slots mc ms (F0 m pc ls st0) rest (va_Qv post B A1 a) (vx_X px BX AX) free) (hS : va_S A0 H0 H locs) (hA : ∀ q, q < H.size → A1 q → A0 q) (hf : ∀ q, free q → A0 q) (hAX : ∀ q, q < H.size → AX q → A0 q)
    (kx : ∀ (E : String) (ce : Cell) (q9 : Addr) (u : SX) (t : State) (H1 : Heap) (locs1 : List Loc), t.heap = H1 → s.vm.Alike t.vm → px u → BX E u t → H.size ≤ H1.size → (∀ q : Nat, q < H.size → ¬ AX q → H1[q]? = H[q]?) → va_S A0 H0 H1 locs1 → H1[q9]? = some ce → ce.vm = .none → s.vm.findClass E = some ce.cls → vx_W p l e R s m args below meth c H1 locs1 (cells + mc) (slots + ms) Q (F0 m pc ls rest) q9)
    (kk : ∀ (u : S) (t : State) (H1 : Heap) (locs1 : List Loc), t.heap = H1 → s.vm.Alike t.vm → post u → B u t → H.size ≤ H1.size → (∀ q : Nat, q < H.size → ¬ A1 q → H1[q]? = H[q]?) → va_S A0 H0 H1 locs1 → W p l e R s m args below meth c H1 locs1 (cells + mc) (slots + ms) Q (F0 m (pc + 3) ls (rest))) : W p l e R s m args below meth c H locs cells slots Q (F0 m pc ls st0) := by
  intro T hT X
  rcases hr T hT X with ⟨v, st₀, t, T', L, h0, X', hL, e1, e2, ⟨⟨u, hv, hp, hb⟩, hF⟩, st⟩ | ⟨q, st₀, t, T', L, E, ce, h0, X', hL, e1, e2, ⟨u, hp, hb, hF⟩, hce, hcv, hcl, st⟩
  · cases hv
    obtain ⟨k1, k2, k3⟩ := vx_keep h0 e1 hS hA hf hL hF
    obtain ⟨t2, a1, b1⟩ := kk u t T'.heap (locs ++ L) e1.symm (by rw [← e2]; exact X'.warmed.alike) hp hb k1 k2 k3 T' rfl X'
    exact ⟨t2, st t2 a1, b1⟩
  · obtain ⟨k1, k2, k3⟩ := vx_keep h0 e1 hS hAX hf hL hF
    obtain ⟨t2, a1, b1⟩ := kx E ce q u t T'.heap (locs ++ L) e1.symm (by rw [← e2]; exact X'.warmed.alike) hp hb k1 k2 k3 (by rw [e1]; exact hce) hcv hcl T' rfl X'
    exact ⟨t2, st.trans a1, b1⟩
/-- caught by the row x of this method's table; the rows ahead don't take it -/
theorem vx_catch {own name : String} {E : String} {ce : Cell} {q : Addr} (hown : s.vm.findClass own = some m.cls) (pre : List ExceptionTableEntry) (x : ExceptionTableEntry) (suf : List ExceptionTableEntry) (hsplit : c.exceptionTable.toList = pre ++ x :: suf)
    (hpass : ∀ z ∈ pre, covers z pc = false ∨ (z.catchType ≠ 0 ∧ ∃ nm : String, (Cond.classLink own z.catchType nm).before args s = true ∧ va_Nc E nm s)) (hx : covers x pc = true) (h0 : x.catchType ≠ 0)
    (hlink : (Cond.classLink own x.catchType name).before args s = true) (hcast : (Cond.castable E name).before args s = true) (hcell : H[q]? = some ce) (hv : ce.vm = .none) (hcl : s.vm.findClass E = some ce.cls)
    (kk : W p l e R s m args below meth c H locs cells slots Q (F0 m x.handlerPc ls [.ref q])) : vx_W p l e R s m args below meth c H locs cells slots Q (F0 m pc ls rest) q := by
  intro T hT X
  have hpl : e.platform.magicAccessors = ({} : Platform).magicAccessors := by rw [X.admits.platform]
  obtain ⟨c3, c4, hc3, hc4, hasg⟩ := Cond.castable_spec hcast
  cases Option.some.inj (hc3.symm.trans hcl)
  obtain ⟨c5, hc5, hcl5⟩ := Cond.classLink_spec hown hlink e.platform hpl
  cases Option.some.inj (hc4.symm.trans hc5)
  obtain ⟨vm', X', st⟩ := X.thenCaughtThrough q (g := F0 m pc ls rest) rfl (Steps.refl _) (by rw [hT]; exact hcell) (by rw [hv]; rfl) (by obtain ⟨k9, h9, -⟩ := Vm.findClass_spec hcl; exact ⟨k9, h9⟩) pre x suf hsplit
    (fun z hz => by
      rcases hpass z hz with h | ⟨hz0, nm, hl1, hn1⟩
      · exact Or.inl h
      · obtain ⟨c6, hc6, hcl6⟩ := Cond.classLink_spec hown hl1 e.platform hpl
        obtain ⟨a8, b8, h1, h2, h3⟩ := hn1
        cases Option.some.inj (h1.symm.trans hcl)
        cases Option.some.inj (h2.symm.trans hc6)
        exact Or.inr ⟨hz0, _, hcl6, h3⟩) hx (Or.inr ⟨h0, c4, hcl5, hasg⟩)
  obtain ⟨t, a1, b1⟩ := kk (T.setVm vm') hT X'
  exact ⟨t, st.trans a1, b1⟩
end Rows
section Ends
variable {p : Program} {l : Launch} {e : Env} {R : Room} {s : State} {m : MethodId} {args : Array Value} {below : List Frame} {meth : Method} {c : Code} {H : Heap} {locs : List Loc} {cells slots : Nat} {Q : State → Prop}
variable {mc ms : Nat} {free : Addr → Prop} {A0 A1 : Nat → Prop} {H0 : Heap} {a : Array Value} {ls : Array Slot} {st0 rest : List Value}
variable {Qc : Array Value → State → Outcome → State → Prop} {XC : String → State → State → Prop}
/-- what a body that may throw owes at its end -/
def vx_MQ (below : List Frame) (Qc : Array Value → State → Outcome → State → Prop) (XC : String → State → State → Prop) (a : Array Value) (s : State) (mc ms : Nat) (free : Addr → Prop) : State → Prop := fun t =>
  ∃ o, t.status = .running ∧ Ended t below o ∧ vx_Q Qc XC mc ms free a s o t
theorem vx_ret {g : JFrame} {mc ms : Nat} (k : W p l e R s m args below meth c H locs cells slots (MQ below Qc args s mc ms free) g) : W p l e R s m args below meth c H locs cells slots (vx_MQ below Qc XC args s mc ms free) g := by
  intro T hT X
  obtain ⟨t, a1, o, b1, b2, b3, b4⟩ := k T hT X
  exact ⟨t, a1, o, b1, b2, Or.inl ⟨b3, b4⟩⟩
/-- not caught here: it goes on to the caller -/
theorem vx_widen {g : JFrame} {q : Addr} {k n : Nat} (h1 : cells ≤ k) (h2 : slots ≤ n) (kk : vx_W p l e R s m args below meth c H locs k n Q g q) : vx_W p l e R s m args below meth c H locs cells slots Q g q := fun T hT X => kk T hT (stand_widen X h1 h2)
theorem vx_out {pc : Nat} {E : String} {ce : Cell} {q : Addr} {mc ms : Nat} (hout : ∀ x ∈ c.exceptionTable.toList, covers x pc = false) (hlocks : meth.locks = false) (hcell : H[q]? = some ce) (hv : ce.vm = .none) (hcl : s.vm.findClass E = some ce.cls)
    (hx : ∀ t : State, t.heap = H → s.vm.Alike t.vm → XC E s t) (hf : ∀ z ∈ locs, free z.base) (hc : cells ≤ mc) (hs : slots ≤ ms) :
    vx_W p l e R s m args below meth c H locs cells slots (vx_MQ below Qc XC args s mc ms free) (F0 m pc ls rest) q := by
  intro T hT X
  obtain ⟨st1, hrun, hend, hW, hsm⟩ := X.leaveThrown q (g := F0 m pc ls rest) rfl rfl rfl hout hlocks
  have hcell9 : (T.setFrames (.throwing q :: below)).heap[q]? = some ce := by
    show T.heap[q]? = some ce
    rw [hT]; exact hcell
  exact ⟨_, st1, .threw q, hrun, hend, Or.inr ⟨q, rfl, E, ce, locs, hx _ hT hW.alike, hcell9, hv, hcl, hW, hsm.mono hc hs, hf⟩⟩
theorem vx_frame {U : State} {k n : Nat} (h : s.sameButNew ({ U with vm := s.vm } : State) locs k n) : s.heap.size ≤ U.heap.size ∧ ∀ q : Nat, q < s.heap.size → (∀ z ∈ locs, z.base ≠ q) → U.heap[q]? = s.heap[q]? := by
  obtain ⟨-, h2, -, -, -, h6⟩ := h
  refine ⟨h2, fun q hq hz => ?_⟩
  obtain ⟨c9, e1, e2, e3, e4⟩ := h6 q _ (Array.getElem?_eq_getElem hq)
  have hs : c9.slots = (s.heap[q]).slots := Array.ext_getElem? fun i => e4 i fun hm => hz _ hm rfl
  have h9 : c9 = s.heap[q] := by
    rw [hs] at e2
    exact e2
  have e5 : U.heap[q]? = some c9 := e1
  rw [e5, h9, Array.getElem?_eq_getElem hq]
/-- the words of a throw but the four that speak of the heap -/
def vx_no (w : Cond) : Bool := decide (w ≠ .isRef (.static Bundle.tN "UNASSIGNED_STACK" Bundle.steD)) && decide (w ≠ .isRef (.static Bundle.tN "SUPPRESSED_SENTINEL" Bundle.listD)) && decide (w ≠ .laysStatic Bundle.tN "UNASSIGNED_STACK" Bundle.steD) && decide (w ≠ .laysStatic Bundle.tN "SUPPRESSED_SENTINEL" Bundle.listD)
def vx_at0 (own : String) (ic : Nat) (X : String) (names : List String) : List Cond := (Bundle.ownAtoms0 own ic X names).filter vx_no
def vx_atS (own : String) (ic : Nat) (X : String) (names : List String) : List Cond := (Bundle.ownAtoms own ic X names).filter vx_no
/-- a word that the tables alone decide, or a good one -/
def vx_ot (w : Cond) : Bool := w.onTables || goodWord w
theorem vx_ot_at {args a' : Array Value} {s U : State} {w : Cond} (hW : s.WarmedH U.vm) (hvm : s.vm = U.vm) (hg : vx_ot w = true) (h : w.before args s = true) : w.before a' U = true := by
  simp only [vx_ot, Bool.or_eq_true] at hg
  rcases hg with hg | hg
  · exact va_tabs hg hvm h
  · exact word_at hW (good_of_word hg) h
/-- a list's words: the good ones out of the method's own list, the others by premises of their own -/
theorem vx_hat {args : Array Value} {s : State} {L B : List Cond} (h1 : ∀ w ∈ L.filter goodWord, w.before args s = true) (h2 : ∀ w ∈ L.filter (fun w => !goodWord w), w ∈ B) (h3 : ∀ w ∈ B, w.before args s = true) : ∀ w ∈ L, w.before args s = true := by
  intro w hw
  by_cases g : goodWord w = true
  · exact h1 w (List.mem_filter.mpr ⟨hw, g⟩)
  · refine h3 w (h2 w (List.mem_filter.mpr ⟨hw, ?_⟩))
    show (!goodWord w) = true
    cases hgw : goodWord w
    · rfl
    · exact absurd hgw g
theorem vx_c {args : Array Value} {s : State} {w : Cond} {B : List Cond} (h : w.before args s = true) (t : ∀ w ∈ B, w.before args s = true) : ∀ w' ∈ w :: B, w'.before args s = true := fun w' h' => (List.mem_cons.mp h').elim (fun e => by rw [e]; exact h) (t w')
theorem vx_n {args : Array Value} {s : State} : ∀ w ∈ ([] : List Cond), w.before args s = true := fun _ h => nomatch h
theorem vx_own {args : Array Value} {s : State} {L : List Cond} (h1 : ∀ w ∈ L.filter vx_no, w.before args s = true)
    (hU : (Cond.isRef (.static Bundle.tN "UNASSIGNED_STACK" Bundle.steD)).before args s = true) (hN : (Cond.isRef (.static Bundle.tN "SUPPRESSED_SENTINEL" Bundle.listD)).before args s = true)
    (lU : (Cond.laysStatic Bundle.tN "UNASSIGNED_STACK" Bundle.steD).before args s = true) (lN : (Cond.laysStatic Bundle.tN "SUPPRESSED_SENTINEL" Bundle.listD).before args s = true) : ∀ w ∈ L, w.before args s = true := by
  intro w hw
  by_cases e1 : w = .isRef (.static Bundle.tN "UNASSIGNED_STACK" Bundle.steD)
  · rw [e1]; exact hU
  · by_cases e2 : w = .isRef (.static Bundle.tN "SUPPRESSED_SENTINEL" Bundle.listD)
    · rw [e2]; exact hN
    · by_cases e3 : w = .laysStatic Bundle.tN "UNASSIGNED_STACK" Bundle.steD
      · rw [e3]; exact lU
      · by_cases e4 : w = .laysStatic Bundle.tN "SUPPRESSED_SENTINEL" Bundle.listD
        · rw [e4]; exact lN
        · exact h1 w (List.mem_filter.mpr ⟨hw, by unfold vx_no; rw [decide_eq_true e1, decide_eq_true e2, decide_eq_true e3, decide_eq_true e4]; rfl⟩)
/-- where a static field lies, its class's statics cell in H -/
def vx_L (C n d : String) (A : Nat → Prop) (U : State) (H : Heap) : Prop := ∃ (c : ClassId) (k : Class) (i : Nat) (f : Field) (a : Nat) (cell : Cell), U.vm.findClass C = some c ∧ U.fieldFound? C n d = some (c, k, i, f) ∧ f.isStatic = true ∧ k.statics = some a ∧ H[a]? = some cell ∧ cell.vm.isStatics = true ∧ cell.cls = c ∧ f.slot < cell.slots.size ∧ k.staticTypes[f.slot]? = some f.type ∧ ¬ A a
theorem vx_L.moved {C n d : String} {A : Nat → Prop} {u U : State} {H : Heap} (hvm : u.vm.Alike U.vm) (h : vx_L C n d A u H) : vx_L C n d A U H := by
  obtain ⟨c, k, i, f, a, cell, h1, h2, h3, h4, h5, h6, h7, h8, h9, h10⟩ := h
  obtain ⟨k', hi', he⟩ := State.fieldFound?_setVm hvm h2
  exact ⟨c, k', i, f, a, cell, by rw [hvm.findClass]; exact h1, hi', h3, by rw [he]; exact h4, h5, h6, h7, h8, by rw [he]; exact h9, h10⟩
theorem vx_L.kept {C n d : String} {A : Nat → Prop} {U : State} {H H1 : Heap} (h : vx_L C n d A U H) (hq : ∀ a : Nat, a < H.size → ¬ A a → H1[a]? = H[a]?) : vx_L C n d A U H1 := by
  obtain ⟨c, k, i, f, a, cell, h1, h2, h3, h4, h5, h6, h7, h8, h9, h10⟩ := h
  exact ⟨c, k, i, f, a, cell, h1, h2, h3, h4, by rw [hq a (Array.getElem?_eq_some_iff.mp h5).1 h10]; exact h5, h6, h7, h8, h9, h10⟩
theorem vx_L.narrow {C n d : String} {A B : Nat → Prop} {U : State} {H : Heap} (h : vx_L C n d A U H) (hAB : ∀ q, B q → A q) : vx_L C n d B U H := by
  obtain ⟨c, k, i, f, a, cell, h1, h2, h3, h4, h5, h6, h7, h8, h9, h10⟩ := h
  exact ⟨c, k, i, f, a, cell, h1, h2, h3, h4, h5, h6, h7, h8, h9, fun z => h10 (hAB _ z)⟩
theorem vx_L.word {C n d : String} {A : Nat → Prop} {s : State} {args : Array Value} (h : vx_L C n d A s s.heap) : (Cond.laysStatic C n d).before args s = true := by
  obtain ⟨c, k, i, f, a, cell, h1, h2, h3, h4, h5, h6, h7, h8, h9, -⟩ := h
  show (Cond.laysStatic C n d).holds args s none s [] = true
  exact Cond.laysStatic_of h1 h2 h3 h4 h5 h6 h7 h8 h9
/-- .. and what it holds: null or some reference -/
def vx_Zq (C n d : String) (A : Nat → Prop) (U : State) (H : Heap) : Prop := va_Zq C n d A U H ∧ vx_L C n d A U H
theorem vx_Zq.moved {C n d : String} {A : Nat → Prop} {u U : State} {H : Heap} (hvm : u.vm.Alike U.vm) (h : vx_Zq C n d A u H) : vx_Zq C n d A U H := ⟨va_Zq.moved hvm h.1, vx_L.moved hvm h.2⟩
theorem vx_Zq.kept {C n d : String} {A : Nat → Prop} {U : State} {H H1 : Heap} (h : vx_Zq C n d A U H) (hq : ∀ a : Nat, a < H.size → ¬ A a → H1[a]? = H[a]?) : vx_Zq C n d A U H1 := ⟨va_Zq.kept h.1 hq, vx_L.kept h.2 hq⟩
theorem vx_Zq.narrow {C n d : String} {A B : Nat → Prop} {U : State} {H : Heap} (h : vx_Zq C n d A U H) (hAB : ∀ q, B q → A q) : vx_Zq C n d B U H := ⟨va_Zq.narrow h.1 hAB, vx_L.narrow h.2 hAB⟩
theorem vx_Zqof {args : Array Value} {s : State} {C n d : String} {A : Nat → Prop} (hl : (Cond.laysStatic C n d).before args s = true) (hini : (Cond.initialized C).before args s = true) (h : (Cond.isRef (.static C n d)).before args s = true) (hA : ∀ a : Nat, a < s.heap.size → ¬ A a) : vx_Zq C n d A s s.heap := by
  refine ⟨va_Zqof hl hini h hA, ?_⟩
  obtain ⟨c, k, i, f, a, cell, h1, h2, h3, h4, h5, h6, h7, h8, h9⟩ := Cond.laysStatic_spec hl
  exact ⟨c, k, i, f, a, cell, h1, h2, h3, h4, h5, h6, h7, h8, h9, hA a (Array.getElem?_eq_some_iff.mp h5).1⟩
theorem vx_isRef {C n d : String} {v : Value} {A : Nat → Prop} {s : State} {args : Array Value} (h : va_Z C n d v A s s.heap) (hv : v.isRef = true) : (Cond.isRef (.static C n d)).before args s = true := by
  obtain ⟨cf, kf, fi, f, a, cell, h1, h2, h3, h4, h5, h6, h7, -⟩ := h
  have he : (Term.static C n d).eval args s none [] s = some v := by
    simp [Term.eval, State.fieldNamed?, h1, h2, h4, h5, h6, h7]
  simp only [Cond.before, Cond.holds, Cond.value, he]
  cases v <;> simp_all [Value.isRef]
theorem vx_isRefq {C n d : String} {A : Nat → Prop} {s : State} {args : Array Value} (h : va_Zq C n d A s s.heap) : (Cond.isRef (.static C n d)).before args s = true := by
  rcases h with h | ⟨t, h⟩
  · exact vx_isRef h rfl
  · exact vx_isRef h rfl
/-- the same frame, seen from here: as if the method were called anew in this heap -/
theorem vx_rebase {T : State} (X : Stand p l e R s m args below meth c T locs cells slots) {R' : Room} (hf : R'.frames ≤ R.frames) (hl : R'.locals ≤ R.locals) (hc : cells + R'.cells ≤ R.cells) (hs : slots + R'.slots ≤ R.slots) :
    Stand p l e R' ((T.setVm s.vm).setFrames (.invoking m args :: below)) m args below meth c T [] 0 0 := by
  have htop : (T.setVm s.vm).topJava?.isSome := X.here.top
  have hF : ((T.setVm s.vm).setFrames (.invoking m args :: below)).frames = .invoking m args :: below := State.frames_setFrames _ (State.cur_lt_of_top htop)
  obtain ⟨g₀, hg0⟩ := Option.isSome_iff_exists.mp htop
  obtain ⟨r, hr⟩ := State.topJava?_eq_some.mp hg0
  have hl9 : e.platform.stackLimits (T.setVm s.vm).me = e.platform.stackLimits s.me := X.limits
  have hb9 : (T.setVm s.vm).me.stackBytes = s.me.stackBytes := X.bytes
  refine ⟨X.admits, X.cas, X.clock, hF, ?_, X.hears, X.method, X.code, X.here, X.tail, X.warmed, ?_, ?_, ?_⟩
  · have h := X.room
    have hU : ((T.setVm s.vm).setFrames (.invoking m args :: below)).localsInUse = s.localsInUse := by
      rw [State.localsInUse_invoking hF (meth := meth) (c := c) X.method X.code, State.localsInUse_invoking X.frames X.method X.code]
    simp only [State.hasRoom, Bool.and_eq_true, decide_eq_true_eq] at h ⊢
    obtain ⟨⟨⟨⟨h1, h2, h3, h4, h5, h6⟩, h7⟩, h8⟩, h9⟩ := h
    rw [X.frames, List.length_cons] at h2 h3
    have q1 := X.heapSize
    have q2 := X.used
    simp only [hF, hU, List.length_cons, State.stackLimits_setFrames, State.stackBytes_setFrames, hl9, hb9]
    refine ⟨⟨⟨⟨by omega, by omega, by omega, by omega, by omega, h6⟩, ?_⟩, ?_⟩, X.book⟩
    · show T.heap.size + R'.cells ≤ e.platform.maxCells
      omega
    · show T.slotsUsed + R'.slots ≤ e.platform.maxSlots
      omega
  · rw [State.stackLimits_setFrames]; rfl
  · rw [State.stackBytes_setFrames]; rfl
  · refine ⟨?_, Nat.le_refl _, Nat.le_refl _, ?_, ?_, fun a c9 h9 => ⟨c9, h9, rfl, rfl, fun _ _ => rfl⟩⟩
    · obtain ⟨t, ht, -⟩ := State.frames_cons hr
      show T.setVm s.vm = { ((T.setVm s.vm).setFrames (.invoking m args :: below)).setFrames (T.setVm s.vm).frames with heap := T.heap, slotsUsed := T.slotsUsed }
      rw [State.setFrames_setFrames, State.setFrames_self ht]
      rfl
    · show T.slotsUsed = T.slotsUsed + ((T.heap.toList.drop T.heap.size).map (·.slots.size)).sum
      rw [List.drop_eq_nil_of_le (Nat.le_of_eq Array.length_toList)]
      rfl
    · show ((T.heap.toList.drop T.heap.size).map (·.slots.size)).sum ≤ 0
      rw [List.drop_eq_nil_of_le (Nat.le_of_eq Array.length_toList)]
      exact Nat.le_refl _
/-- 'throw new E()': new; dup; invokespecial; athrow -/
theorem vx_throw0 {cc : ByteArray} {pc : Nat} (hexec : p.tables.exec = Jvm.exec) (hb : c.code = cc) (hl : l.stackTraces = false) {own cls : String} {names : List String} {ik ic mc ms : Nat} {A : Nat → Prop}
    (hown : s.vm.findClass own = some m.cls) (hcls : Bundle.fit cls = true) (hnames : ∀ n ∈ names, Bundle.fit n = true)
    (hk : (Cond.classLink own ik cls).before args s = true) (hini : (Cond.initialized cls).before args s = true) (hat : ∀ w ∈ vx_at0 own ic cls names, w.before args s = true)
    (hgood : ∀ w ∈ Cond.classLink own ik cls :: Cond.initialized cls :: vx_at0 own ic cls names, vx_ot w = true)
    (hU : vx_Zq Bundle.tN "UNASSIGNED_STACK" Bundle.steD A s s.heap) (hN : vx_Zq Bundle.tN "SUPPRESSED_SENTINEL" Bundle.listD A s s.heap) (hS : va_S A s.heap H locs) (hsize : ls.size = c.maxLocals)
    (d0 : decode cc pc = .ok (.new ik, 3)) (d3 : decode cc (pc + 3) = .ok (.dup, 1)) (d4 : decode cc (pc + 4) = .ok (.invokespecial ic, 3)) (d7 : decode cc (pc + 7) = .ok (.athrow, 1))
    (hout : ∀ x ∈ c.exceptionTable.toList, covers x (pc + 7) = false)
    (hRframes : names.length + 3 < R.frames) (hRlocals : (rest.map fun v => v.category).sum + (13 * (names.length + 1) + 42) ≤ R.locals) (hRcells : cells + 1 ≤ R.cells) (hRslots : slots + 6 ≤ R.slots) (hlocks : meth.locks = false)
    (hx : ∀ t : State, s.vm.Alike t.vm → H.size ≤ t.heap.size → (∀ q : Nat, q < H.size → t.heap[q]? = H[q]?) → XC cls s t)
    (hf : ∀ z ∈ locs, free z.base) (hc : cells + 1 ≤ mc) (hs : slots + 6 ≤ ms) :
    W p l e R s m args below meth c H locs cells slots (vx_MQ below Qc XC args s mc ms free) (F0 m pc ls rest) := by
  intro T hT X
  have htr : e.platform.stackTraces = false := (show e.platform.stackTraces = l.stackTraces by rw [X.admits.platform]).trans hl
  have Y := vx_rebase X (R' := { frames := R.frames, locals := R.locals, cells := 1, slots := 6 }) (Nat.le_refl _) (Nat.le_refl _) hRcells hRslots
  obtain ⟨s', hA⟩ : ∃ z, z = (T.setVm s.vm).setFrames (.invoking m args :: below) := ⟨_, rfl⟩
  rw [← hA] at Y
  have hvm : s'.vm = s.vm := by rw [hA]; rfl
  have hhp : s'.heap = H := by rw [hA]; exact hT
  have hW0 : s.WarmedH s'.vm := by rw [hvm]; exact State.WarmedH.refl s
  have hat' : ∀ w ∈ vx_at0 own ic cls names, w.before args s' = true := fun w hw => vx_ot_at hW0 hvm.symm (hgood w (List.mem_cons_of_mem _ (List.mem_cons_of_mem _ hw))) (hat w hw)
  have hk' : (Cond.classLink own ik cls).before args s' = true := vx_ot_at hW0 hvm.symm (hgood _ List.mem_cons_self) hk
  have hini' : (Cond.initialized cls).before args s' = true := vx_ot_at hW0 hvm.symm (hgood _ (List.mem_cons_of_mem _ List.mem_cons_self)) hini
  have hU' : vx_Zq Bundle.tN "UNASSIGNED_STACK" Bundle.steD A s' s'.heap := by rw [hhp]; exact vx_Zq.moved hW0.alike (hU.kept hS.2.1)
  have hN' : vx_Zq Bundle.tN "SUPPRESSED_SENTINEL" Bundle.listD A s' s'.heap := by rw [hhp]; exact vx_Zq.moved hW0.alike (hN.kept hS.2.1)
  have h : ∀ w ∈ Bundle.ownAtoms0 own ic cls names, w.before args s' = true := vx_own hat' (vx_isRefq hU'.1) (vx_isRefq hN'.1) hU'.2.word hN'.2.word
  have hown' : s'.vm.findClass own = some m.cls := by rw [hvm]; exact hown
  have hins : (Cond.instantiable cls 6).before args s' = true := h _ (by simp [Bundle.ownAtoms0])
  obtain ⟨vm₁, cX, kX, hfX, hkX, -, -, X₁, st1⟩ := Y.newCold hexec (own := own) (C := cls) (index := ik) (n := 6) hown' hk' hins hini'
    (g := F0 m pc ls rest) rfl (by rw [hb]; exact d0) (Nat.le_refl _) (Nat.le_refl _)
  generalize hT1 : (T.setVm vm₁).pushCell { cls := cX, slots := kX.instanceTypes.map defaultValue, vm := .none } = T1 at X₁ st1
  have hcat : (Value.ref T.heap.size).category = 1 := rfl
  have hcellA : T1.heap[T.heap.size]? = some (freshCell cX kX) := by rw [← hT1]; exact State.heap_pushCell_size _ _
  have d3' : decode c.code (pc + 3) = .ok (.dup, 1) := by rw [hb]; exact d3
  obtain ⟨U, hsteps, hrun, hend, hW, hsame, ce, hce, hO⟩ := X₁.ctorThrow0 hexec htr (own := own) (cls := cls) (names := names) (ic := ic) hown' hcls hnames h (fun x hx => nomatch hx) hfX hkX hcellA (by rw [hhp, hT]; exact Nat.le_refl _)
    (g := { method := m, pc := pc + 4, locals := ls, stack := .ref T.heap.size :: .ref T.heap.size :: rest, locked := none }) rfl hsize rfl rfl (rest := rest) rfl
    (by rw [hb]; exact d4) (by rw [hb]; exact d7) hout hRframes (by simp only [List.map_cons, List.sum_cons, hcat]; omega) hlocks
  obtain ⟨f1, f2⟩ := vx_frame hsame
  rw [hhp] at f1 f2
  have hWs : s.WarmedH U.vm := State.WarmedH.trans hW0 hW
  have hcl : s.vm.findClass cls = some ce.cls := by
    have h9 := hO.cls
    rw [hvm] at h9
    exact h9
  have hall : s.sameButNew ({ U with vm := s.vm } : State) locs mc ms := by
    subst hA
    obtain ⟨e1, e2⟩ := hsame
    rw [State.setFrames_setFrames] at e1
    have h2 : (T.setVm s.vm).sameButNew ({ U with vm := s.vm } : State) [] (0 + 1) (0 + 6) := ⟨e1, e2⟩
    have h3 := X.same.trans h2
    rw [List.append_nil] at h3
    exact h3.mono hc hs
  refine ⟨U, ?_, .threw T.heap.size, hrun, hend, Or.inr ⟨T.heap.size, rfl, cls, ce, locs, hx U hWs.alike f1 (fun q hq => f2 q hq (fun z hz => nomatch hz)), hce, hO.vm, hcl, hWs, hall, hf⟩⟩
  refine st1 _ ?_
  show Steps p.tables e below (T1.setTop { method := m, pc := pc + 3, locals := ls, stack := .ref T.heap.size :: rest, locked := none }) _
  jvm_step X₁.here [X₁.here.top, hexec, d3', Value.category]
  exact hsteps
/-- 'throw new E("text")': new; dup; ldc; invokespecial; athrow -/
theorem vx_throwS {cc : ByteArray} {pc : Nat} (hexec : p.tables.exec = Jvm.exec) (hb : c.code = cc) (hl : l.stackTraces = false) {own cls text : String} {names : List String} {ik is ic mc ms sa : Nat} {A : Nat → Prop}
    (hown : s.vm.findClass own = some m.cls) (hcls : Bundle.fit cls = true) (hnames : ∀ n ∈ names, Bundle.fit n = true)
    (hk : (Cond.classLink own ik cls).before args s = true) (hini : (Cond.initialized cls).before args s = true) (hstr : vk_R own is text sa s) (hat : ∀ w ∈ vx_atS own ic cls names, w.before args s = true)
    (hgood : ∀ w ∈ Cond.classLink own ik cls :: Cond.initialized cls :: vx_atS own ic cls names, vx_ot w = true)
    (hU : vx_Zq Bundle.tN "UNASSIGNED_STACK" Bundle.steD A s s.heap) (hN : vx_Zq Bundle.tN "SUPPRESSED_SENTINEL" Bundle.listD A s s.heap) (hS : va_S A s.heap H locs) (hsize : ls.size = c.maxLocals)
    (d0 : decode cc pc = .ok (.new ik, 3)) (d3 : decode cc (pc + 3) = .ok (.dup, 1)) (d4 : decode cc (pc + 4) = .ok (.ldc is, 2)) (d6 : decode cc (pc + 6) = .ok (.invokespecial ic, 3)) (d9 : decode cc (pc + 9) = .ok (.athrow, 1))
    (hout : ∀ x ∈ c.exceptionTable.toList, covers x (pc + 9) = false)
    (hRframes : names.length + 3 < R.frames) (hRlocals : (rest.map fun v => v.category).sum + (13 * (names.length + 1) + 43) ≤ R.locals) (hRcells : cells + 1 ≤ R.cells) (hRslots : slots + 6 ≤ R.slots) (hlocks : meth.locks = false)
    (hx : ∀ t : State, s.vm.Alike t.vm → H.size ≤ t.heap.size → (∀ q : Nat, q < H.size → t.heap[q]? = H[q]?) → XC cls s t)
    (hf : ∀ z ∈ locs, free z.base) (hc : cells + 1 ≤ mc) (hs : slots + 6 ≤ ms) :
    W p l e R s m args below meth c H locs cells slots (vx_MQ below Qc XC args s mc ms free) (F0 m pc ls rest) := by
  intro T hT X
  have htr : e.platform.stackTraces = false := (show e.platform.stackTraces = l.stackTraces by rw [X.admits.platform]).trans hl
  have Y := vx_rebase X (R' := { frames := R.frames, locals := R.locals, cells := 1, slots := 6 }) (Nat.le_refl _) (Nat.le_refl _) hRcells hRslots
  obtain ⟨s', hA⟩ : ∃ z, z = (T.setVm s.vm).setFrames (.invoking m args :: below) := ⟨_, rfl⟩
  rw [← hA] at Y
  have hvm : s'.vm = s.vm := by rw [hA]; rfl
  have hhp : s'.heap = H := by rw [hA]; exact hT
  have hW0 : s.WarmedH s'.vm := by rw [hvm]; exact State.WarmedH.refl s
  have hat' : ∀ w ∈ vx_atS own ic cls names, w.before args s' = true := fun w hw => vx_ot_at hW0 hvm.symm (hgood w (List.mem_cons_of_mem _ (List.mem_cons_of_mem _ hw))) (hat w hw)
  have hk' : (Cond.classLink own ik cls).before args s' = true := vx_ot_at hW0 hvm.symm (hgood _ List.mem_cons_self) hk
  have hini' : (Cond.initialized cls).before args s' = true := vx_ot_at hW0 hvm.symm (hgood _ (List.mem_cons_of_mem _ List.mem_cons_self)) hini
  have hU' : vx_Zq Bundle.tN "UNASSIGNED_STACK" Bundle.steD A s' s'.heap := by rw [hhp]; exact vx_Zq.moved hW0.alike (hU.kept hS.2.1)
  have hN' : vx_Zq Bundle.tN "SUPPRESSED_SENTINEL" Bundle.listD A s' s'.heap := by rw [hhp]; exact vx_Zq.moved hW0.alike (hN.kept hS.2.1)
  have h : ∀ w ∈ Bundle.ownAtoms own ic cls names, w.before args s' = true := vx_own hat' (vx_isRefq hU'.1) (vx_isRefq hN'.1) hU'.2.word hN'.2.word
  have hown' : s'.vm.findClass own = some m.cls := by rw [hvm]; exact hown
  have hins : (Cond.instantiable cls 6).before args s' = true := h _ (by simp [Bundle.ownAtoms])
  obtain ⟨vm₁, cX, kX, hfX, hkX, -, -, X₁, st1⟩ := Y.newCold hexec (own := own) (C := cls) (index := ik) (n := 6) hown' hk' hins hini'
    (g := F0 m pc ls rest) rfl (by rw [hb]; exact d0) (Nat.le_refl _) (Nat.le_refl _)
  generalize hT1 : (T.setVm vm₁).pushCell { cls := cX, slots := kX.instanceTypes.map defaultValue, vm := .none } = T1 at X₁ st1
  have hcat : (Value.ref T.heap.size).category = 1 := rfl
  have hcellA : T1.heap[T.heap.size]? = some (freshCell cX kX) := by rw [← hT1]; exact State.heap_pushCell_size _ _
  have d3' : decode c.code (pc + 3) = .ok (.dup, 1) := by rw [hb]; exact d3
  have d4' : decode c.code (pc + 4) = .ok (.ldc is, 2) := by rw [hb]; exact d4
  have hstr' : vk_R own is text sa s' := vk_R.warm hW0 hstr
  obtain ⟨U, hsteps, hrun, hend, hW, hsame, ce, hce, hO⟩ := X₁.ctorThrowS hexec htr (own := own) (cls := cls) (names := names) (ic := ic) hown' hcls hnames h (fun x hx => nomatch hx) hfX hkX hcellA (by rw [hhp, hT]; exact Nat.le_refl _) (msg := .ref sa) rfl
    (g := { method := m, pc := pc + 6, locals := ls, stack := .ref sa :: .ref T.heap.size :: .ref T.heap.size :: rest, locked := none }) rfl hsize rfl rfl (rest := rest) rfl
    (by rw [hb]; exact d6) (by rw [hb]; exact d9) hout hRframes (by simp only [List.map_cons, List.sum_cons, hcat]; omega) hlocks
  obtain ⟨f1, f2⟩ := vx_frame hsame
  rw [hhp] at f1 f2
  have hWs : s.WarmedH U.vm := State.WarmedH.trans hW0 hW
  have hcl : s.vm.findClass cls = some ce.cls := by
    have h9 := hO.cls
    rw [hvm] at h9
    exact h9
  have hall : s.sameButNew ({ U with vm := s.vm } : State) locs mc ms := by
    subst hA
    obtain ⟨e1, e2⟩ := hsame
    rw [State.setFrames_setFrames] at e1
    have h2 : (T.setVm s.vm).sameButNew ({ U with vm := s.vm } : State) [] (0 + 1) (0 + 6) := ⟨e1, e2⟩
    have h3 := X.same.trans h2
    rw [List.append_nil] at h3
    exact h3.mono hc hs
  refine ⟨U, ?_, .threw T.heap.size, hrun, hend, Or.inr ⟨T.heap.size, rfl, cls, ce, locs, hx U hWs.alike f1 (fun q hq => f2 q hq (fun z hz => nomatch hz)), hce, hO.vm, hcl, hWs, hall, hf⟩⟩
  refine st1 _ ?_
  show Steps p.tables e below (T1.setTop { method := m, pc := pc + 3, locals := ls, stack := .ref T.heap.size :: rest, locked := none }) _
  jvm_step X₁.here [X₁.here.top, hexec, d3', Value.category]
  exact X₁.ldcString hexec (own := own) (text := text) (index := is) (a := sa) hown' hstr'.1 hstr'.2
    (g := { method := m, pc := pc + 4, locals := ls, stack := .ref T.heap.size :: .ref T.heap.size :: rest, locked := none }) rfl d4' _ hsteps
/-- 'throw new E("text")', the text by a wide index -/
theorem vx_throwSW {cc : ByteArray} {pc : Nat} (hexec : p.tables.exec = Jvm.exec) (hb : c.code = cc) (hl : l.stackTraces = false) {own cls text : String} {names : List String} {ik is ic mc ms sa : Nat} {A : Nat → Prop}
    (hown : s.vm.findClass own = some m.cls) (hcls : Bundle.fit cls = true) (hnames : ∀ n ∈ names, Bundle.fit n = true)
    (hk : (Cond.classLink own ik cls).before args s = true) (hini : (Cond.initialized cls).before args s = true) (hstr : vk_R own is text sa s) (hat : ∀ w ∈ vx_atS own ic cls names, w.before args s = true)
    (hgood : ∀ w ∈ Cond.classLink own ik cls :: Cond.initialized cls :: vx_atS own ic cls names, vx_ot w = true)
    (hU : vx_Zq Bundle.tN "UNASSIGNED_STACK" Bundle.steD A s s.heap) (hN : vx_Zq Bundle.tN "SUPPRESSED_SENTINEL" Bundle.listD A s s.heap) (hS : va_S A s.heap H locs) (hsize : ls.size = c.maxLocals)
    (d0 : decode cc pc = .ok (.new ik, 3)) (d3 : decode cc (pc + 3) = .ok (.dup, 1)) (d4 : decode cc (pc + 4) = .ok (.ldc_w is, 3)) (d7 : decode cc (pc + 7) = .ok (.invokespecial ic, 3)) (d10 : decode cc (pc + 10) = .ok (.athrow, 1))
    (hout : ∀ x ∈ c.exceptionTable.toList, covers x (pc + 10) = false)
    (hRframes : names.length + 3 < R.frames) (hRlocals : (rest.map fun v => v.category).sum + (13 * (names.length + 1) + 43) ≤ R.locals) (hRcells : cells + 1 ≤ R.cells) (hRslots : slots + 6 ≤ R.slots) (hlocks : meth.locks = false)
    (hx : ∀ t : State, s.vm.Alike t.vm → H.size ≤ t.heap.size → (∀ q : Nat, q < H.size → t.heap[q]? = H[q]?) → XC cls s t)
    (hf : ∀ z ∈ locs, free z.base) (hc : cells + 1 ≤ mc) (hs : slots + 6 ≤ ms) :
    W p l e R s m args below meth c H locs cells slots (vx_MQ below Qc XC args s mc ms free) (F0 m pc ls rest) := by
  intro T hT X
  have htr : e.platform.stackTraces = false := (show e.platform.stackTraces = l.stackTraces by rw [X.admits.platform]).trans hl
  have Y := vx_rebase X (R' := { frames := R.frames, locals := R.locals, cells := 1, slots := 6 }) (Nat.le_refl _) (Nat.le_refl _) hRcells hRslots
  obtain ⟨s', hA⟩ : ∃ z, z = (T.setVm s.vm).setFrames (.invoking m args :: below) := ⟨_, rfl⟩
  rw [← hA] at Y
  have hvm : s'.vm = s.vm := by rw [hA]; rfl
  have hhp : s'.heap = H := by rw [hA]; exact hT
  have hW0 : s.WarmedH s'.vm := by rw [hvm]; exact State.WarmedH.refl s
  have hat' : ∀ w ∈ vx_atS own ic cls names, w.before args s' = true := fun w hw => vx_ot_at hW0 hvm.symm (hgood w (List.mem_cons_of_mem _ (List.mem_cons_of_mem _ hw))) (hat w hw)
  have hk' : (Cond.classLink own ik cls).before args s' = true := vx_ot_at hW0 hvm.symm (hgood _ List.mem_cons_self) hk
  have hini' : (Cond.initialized cls).before args s' = true := vx_ot_at hW0 hvm.symm (hgood _ (List.mem_cons_of_mem _ List.mem_cons_self)) hini
  have hU' : vx_Zq Bundle.tN "UNASSIGNED_STACK" Bundle.steD A s' s'.heap := by rw [hhp]; exact vx_Zq.moved hW0.alike (hU.kept hS.2.1)
  have hN' : vx_Zq Bundle.tN "SUPPRESSED_SENTINEL" Bundle.listD A s' s'.heap := by rw [hhp]; exact vx_Zq.moved hW0.alike (hN.kept hS.2.1)
  have h : ∀ w ∈ Bundle.ownAtoms own ic cls names, w.before args s' = true := vx_own hat' (vx_isRefq hU'.1) (vx_isRefq hN'.1) hU'.2.word hN'.2.word
  have hown' : s'.vm.findClass own = some m.cls := by rw [hvm]; exact hown
  have hins : (Cond.instantiable cls 6).before args s' = true := h _ (by simp [Bundle.ownAtoms])
  obtain ⟨vm₁, cX, kX, hfX, hkX, -, -, X₁, st1⟩ := Y.newCold hexec (own := own) (C := cls) (index := ik) (n := 6) hown' hk' hins hini'
    (g := F0 m pc ls rest) rfl (by rw [hb]; exact d0) (Nat.le_refl _) (Nat.le_refl _)
  generalize hT1 : (T.setVm vm₁).pushCell { cls := cX, slots := kX.instanceTypes.map defaultValue, vm := .none } = T1 at X₁ st1
  have hcat : (Value.ref T.heap.size).category = 1 := rfl
  have hcellA : T1.heap[T.heap.size]? = some (freshCell cX kX) := by rw [← hT1]; exact State.heap_pushCell_size _ _
  have d3' : decode c.code (pc + 3) = .ok (.dup, 1) := by rw [hb]; exact d3
  have d4' : decode c.code (pc + 4) = .ok (.ldc_w is, 3) := by rw [hb]; exact d4
  have hstr' : vk_R own is text sa s' := vk_R.warm hW0 hstr
  obtain ⟨U, hsteps, hrun, hend, hW, hsame, ce, hce, hO⟩ := X₁.ctorThrowS hexec htr (own := own) (cls := cls) (names := names) (ic := ic) hown' hcls hnames h (fun x hx => nomatch hx) hfX hkX hcellA (by rw [hhp, hT]; exact Nat.le_refl _) (msg := .ref sa) rfl
    (g := { method := m, pc := pc + 7, locals := ls, stack := .ref sa :: .ref T.heap.size :: .ref T.heap.size :: rest, locked := none }) rfl hsize rfl rfl (rest := rest) rfl
    (by rw [hb]; exact d7) (by rw [hb]; exact d10) hout hRframes (by simp only [List.map_cons, List.sum_cons, hcat]; omega) hlocks
  obtain ⟨f1, f2⟩ := vx_frame hsame
  rw [hhp] at f1 f2
  have hWs : s.WarmedH U.vm := State.WarmedH.trans hW0 hW
  have hcl : s.vm.findClass cls = some ce.cls := by
    have h9 := hO.cls
    rw [hvm] at h9
    exact h9
  have hall : s.sameButNew ({ U with vm := s.vm } : State) locs mc ms := by
    subst hA
    obtain ⟨e1, e2⟩ := hsame
    rw [State.setFrames_setFrames] at e1
    have h2 : (T.setVm s.vm).sameButNew ({ U with vm := s.vm } : State) [] (0 + 1) (0 + 6) := ⟨e1, e2⟩
    have h3 := X.same.trans h2
    rw [List.append_nil] at h3
    exact h3.mono hc hs
  refine ⟨U, ?_, .threw T.heap.size, hrun, hend, Or.inr ⟨T.heap.size, rfl, cls, ce, locs, hx U hWs.alike f1 (fun q hq => f2 q hq (fun z hz => nomatch hz)), hce, hO.vm, hcl, hWs, hall, hf⟩⟩
  refine st1 _ ?_
  show Steps p.tables e below (T1.setTop { method := m, pc := pc + 3, locals := ls, stack := .ref T.heap.size :: rest, locked := none }) _
  jvm_step X₁.here [X₁.here.top, hexec, d3', Value.category]
  exact X₁.ldcStringW hexec (own := own) (text := text) (index := is) (a := sa) hown' hstr'.1 hstr'.2
    (g := { method := m, pc := pc + 4, locals := ls, stack := .ref T.heap.size :: .ref T.heap.size :: rest, locked := none }) rfl d4' _ hsteps
end Ends
section Bodies
variable {l : Launch}
theorem vx_ofW {y : MethodName} {ws ws' : List Cond} {rm : Room} {Pc : Array Value → State → Prop} {Qc : Array Value → State → Outcome → State → Prop} {XC : String → State → State → Prop} {mc ms : Nat} {free : Addr → Prop} {cc : ByteArray} {maxL : Nat} {ret : Option FieldType}
    (hy : plainName y.cls = true) (hw : ws = Cond.code y cc maxL ret :: ws')
    (body : ∀ p e s m args below meth c s₁, BodyLoose p l y (headSpec ws rm) cc maxL ret e s m args below meth c s₁ → c.maxLocals = maxL → (∀ x ∈ c.exceptionTable.toList, False) → Pc args s →
      W p l e (headSpec ws rm).room s m args below meth c s.heap [] 0 0 (vx_MQ below Qc XC args s mc ms free) (entryFrame m args maxL)) : vx_Met l y ws rm Pc Qc XC mc ms free := by
  refine MetFree.of_bodyS (code := cc) (maxLocals := maxL) (ret := ret) hy ?_ ?_
  · intro args s m h hn
    obtain ⟨meth, c, h1, h2, h3, h4, h5, h6, -, -⟩ := Cond.code_spec hn (atoms_spec (ws := ws) h _ (by rw [hw]; exact List.mem_cons_self))
    exact ⟨meth, c, h1, h2, h3, h4, h5, h6⟩
  · intro p e s m args below meth c s₁ B hml hP _
    have hh0 : s₁.heap = s.heap := by rw [B.state]; rfl
    have ht : ∀ x ∈ c.exceptionTable.toList, False := by
      obtain ⟨meth9, c9, h1, h2, -, -, -, -, h7, -⟩ := Cond.code_spec B.named (atoms_spec (ws := ws) B.pre _ (by rw [hw]; exact List.mem_cons_self))
      cases Option.some.inj (h1.symm.trans B.method)
      cases Option.some.inj (h2.symm.trans (Stand.of_body B).code)
      intro x hx
      rw [Array.isEmpty_iff.mp h7] at hx
      cases hx
    obtain ⟨t, a1, o, b1, b2, b3⟩ := body p e s m args below meth c s₁ B hml ht hP s₁ hh0 (Stand.of_body B)
    exact ⟨t, o, a1, b1, b2, b3⟩
/-- the table of a body with handlers -/
theorem vx_table {p : Program} {x y : MethodName} {S : Spec} {cc bytes : ByteArray} {maxL maxL' : Nat} {ret ret' : Option FieldType} {e : Env} {s s₁ : State} {m : MethodId} {args : Array Value} {below : List Frame} {meth : Method} {c : Code} {hh : List (Nat × Nat × Nat × Nat)}
    (B : BodyLoose p l y S cc maxL ret e s m args below meth c s₁) (h : (Cond.codeWith y bytes maxL' ret' hh).before args s = true) : c.exceptionTable.toList = tableOf hh := by
  obtain ⟨m9, meth9, c9, hn9, h1, h2, -, -, h6, -⟩ := Cond.codeWith_spec h
  cases Option.some.inj (hn9.symm.trans B.named)
  cases Option.some.inj (h1.symm.trans B.method)
  cases Option.some.inj (h2.symm.trans (Stand.of_body B).code)
  rw [← h6, table_eq]
end Bodies
end VXA
/-! ===== END ===== -/
/-! ===== BEGIN a static call of a method with an exception table ===== -/
section VXS
variable {p : Program} {l : Launch} {e : Env} {R : Room} {s : State} {m : MethodId} {args : Array Value} {below : List Frame} {meth : Method} {c : Code} {T : State} {H : Heap} {locs : List Loc} {cells slots : Nat}
abbrev vx_CSW (R : Room) (s : State) (args : Array Value) (own : String) (index : Nat) (y : MethodName) (bytes : ByteArray) (maxL : Nat) (ret : Option FieldType) (hh : List (Nat × Nat × Nat × Nat)) (ws : List Cond) (rm : Room) (mc ms n : Nat) : Prop :=
  (rm.cells = mc ∧ rm.slots = ms ∧ rm.frames + 1 ≤ R.frames ∧ 8 + (maxL + 11) + rm.locals ≤ R.locals ∧ (∀ w ∈ ws, ∀ (a' : Array Value) (U : State), s.WarmedH U.vm → w.before a' U = true) ∧ Cond.codeWith y bytes maxL ret hh ∈ ws) ∧
  (Cond.codeWith y bytes maxL ret hh).before args s = true ∧ (Cond.initialized y.cls).before args s = true ∧ (y.cls ≠ "java/lang/invoke/MethodHandle" ∧ y.cls ≠ "java/lang/invoke/VarHandle") ∧
  (∀ sig, parseMethodDescriptor y.desc = some sig → n = sig.parameters.length) ∧ (Cond.methodLink own index y).before args s = true ∧ (Cond.static y).before args s = true
theorem vx_cwSW {own : String} {index maxL mc ms : Nat} {y : MethodName} {bytes : ByteArray} {ret : Option FieldType} {hh : List (Nat × Nat × Nat × Nat)} {Ts ws ws' : List Cond} {rm : Room} (n : Nat) (ht : ∀ w ∈ Ts, w.before args s = true) (hT : GoodIn Ts (va_wsS own index y ws)) (hw : ws = Cond.codeWith y bytes maxL ret hh :: ws') (hrc : rm.cells = mc) (hrs : rm.slots = ms)
    (hd : y.cls ≠ "java/lang/invoke/MethodHandle" ∧ y.cls ≠ "java/lang/invoke/VarHandle" ∧ (parseMethodDescriptor y.desc).map (fun d => d.parameters.length) = some n) (hR : rm.frames + 1 ≤ R.frames ∧ 8 + (maxL + 11) + rm.locals ≤ R.locals) :
    vx_CSW R s args own index y bytes maxL ret hh ws rm mc ms n := by
  have ok : ∀ w ∈ va_wsS own index y ws, w.before args s = true := fun w h => ht w (hT w h).1
  have hG : GoodIn Ts ws := fun w h => hT w (by unfold va_wsS; exact List.mem_append_right _ h)
  have hc : Cond.codeWith y bytes maxL ret hh ∈ ws := by rw [hw]; exact List.mem_cons_self
  refine ⟨⟨hrc, hrs, hR.1, hR.2, pay_in ht hG, hc⟩, ht _ (hG _ hc).1, ok _ (by simp [va_wsS]), ⟨hd.1, hd.2.1⟩, fun sig h => ?_, ok _ (by simp [va_wsS]), ok _ (by simp [va_wsS])⟩
  have h2 := hd.2.2
  rw [h] at h2
  exact (Option.some.inj h2).symm
theorem vx_callSW (X : Stand p l e R s m args below meth c T locs cells slots) (hexec : p.tables.exec = Jvm.exec) {own : String} {index : Nat} {y : MethodName} {bytes : ByteArray} {maxL : Nat} {ret : Option FieldType} {hh : List (Nat × Nat × Nat × Nat)}
    (hown : s.vm.findClass own = some m.cls) (hlink : (Cond.methodLink own index y).before args s = true) (hstat : (Cond.static y).before args s = true) (hinit : (Cond.initialized y.cls).before args s = true)
    (hcode : (Cond.codeWith y bytes maxL ret hh).before args s = true) (hy : y.cls ≠ "java/lang/invoke/MethodHandle" ∧ y.cls ≠ "java/lang/invoke/VarHandle")
    {W9 : Nat} {Pre : Pt → Array Value → Prop} {Post : Pt → Array Value → Option Value → Pt → Prop} (hK : Back l R p e below s args y 3 W9 Pre Post)
    {g : JFrame} (hg : g.method = m) (hsize : g.locals.size = c.maxLocals) {argsL rest : List Value} (hlen : ∀ sig, parseMethodDescriptor y.desc = some sig → argsL.length = sig.parameters.length)
    (hstack : g.stack = argsL.reverse ++ rest) (hW : 2 * g.monitorRoom + (rest.map fun v => v.category).sum ≤ W9) (hdg : decode c.code g.pc = .ok (.invokestatic index, 3))
    (hpre : ∀ vm₁, s.WarmedH vm₁ → Pre ⟨T.setVm vm₁, locs, cells, slots⟩ argsL.toArray) :
    ∃ (v : Option Value) (vm₁ : Vm) (B : Pt), s.WarmedH vm₁ ∧ Stand p l e R s m args below meth c B.U B.locs B.cells B.slots ∧ Post ⟨T.setVm vm₁, locs, cells, slots⟩ argsL.toArray v B ∧
      ∀ target, Steps p.tables e below (B.U.setTop { g with pc := g.pc + 3, stack := v.toList ++ rest }) target → Steps p.tables e below (T.setTop g) target := by
  obtain ⟨mk, methM, cM, hnamed, hmethM, -, -, -, -, -, -, hsigM⟩ := Cond.codeWith_spec hcode
  have hstatic : methM.isStatic = true := Cond.static_spec hnamed hmethM hstat
  obtain ⟨kP, hkP, -⟩ := className_of_methodNamed hnamed
  have hinitP : kP.init = .initialized := Cond.initialized_spec (findClass_of_methodNamed hnamed) hkP hinit
  obtain ⟨vm₁, X₁, hstep₁⟩ := X.invokestatic hexec hown hlink hnamed hmethM hstatic hkP hinitP hy (g := g) hg (argsL := argsL) (rest := rest) (hlen _ hsigM) hstack hdg
  obtain ⟨v, B, X', hpost, hsteps⟩ := hK m meth c ⟨T.setVm vm₁, locs, cells, slots⟩ { g with stack := rest } (.invokestatic index) mk argsL.toArray X₁ hg hsize hdg hW (X₁.named hnamed) (hpre vm₁ X₁.warmed)
  exact ⟨v, vm₁, B, X₁.warmed, X', hpost, fun target h => hstep₁ _ fun acts => by rw [doInvoke_state]; exact hsteps.trans h⟩
theorem vx_runSW {y : MethodName} {bytes cc : ByteArray} {maxL nL mc ms n index : Nat} {ret : Option FieldType} {hh : List (Nat × Nat × Nat × Nat)} {ws : List Cond} {rm : Room} {Pc : Array Value → State → Prop} {Qc : Array Value → State → Outcome → State → Prop} {free : Addr → Prop} {Ts : List Cond} {own : String} {As rest : List Value} {g : JFrame}
    (S : CallFix p m c cc nL s args Ts own) (hM : Met l y ws rm Pc Qc mc ms free) (cw : vx_CSW R s args own index y bytes maxL ret hh ws rm mc ms n) (hp : PreS s H Pc As)
    (hg : g.method = m) (hn : As.length = n) (hsize : g.locals.size = nL) (hstack : g.stack = As.reverse ++ rest) (hW : 2 * g.monitorRoom + (rest.map fun v => v.category).sum ≤ 8) (hdg : decode cc g.pc = .ok (.invokestatic index, 3)) (hf : cells + mc ≤ R.cells ∧ slots + ms ≤ R.slots) :
    va_Run p l e R s m args below meth c H locs cells slots mc ms g rest (Qc As.toArray) (free) := by
  obtain ⟨⟨hrc, hrs, hfr, hlo, hws, hcw⟩, hcode, hini, hy, hlen, hl, hstt⟩ := cw
  have hK : Back l R p e below s args y 3 8 (PreOf R mc ms Pc) (PostOf Qc mc ms free) := va_backW (hh := hh) (bytes := bytes) (maxL := maxL) (ret := ret) hM hp.1 hrc hrs hfr hlo hws hcw (fun a' U hW => word_at hW (Or.inl (by first | rfl | simp [Cond.onTables, Cond.keeps, Cond.steady])) hini)
  obtain ⟨hx, hb, hml, ho, -⟩ := S
  intro T hT X
  obtain ⟨v, vm₁, ⟨U', l2, c2, s2⟩, hW₁, X', ⟨g', mk, t, L, e1, e2, hq, h1, hL, h2, h3⟩, st⟩ := vx_callSW X hx (hh := hh) (bytes := bytes) (maxL := maxL) (ret := ret) ho hl hstt hini hcode hy hK hg (hsize.trans hml.symm) (argsL := As) (rest := rest) (fun sig h => hn.trans (hlen sig h)) hstack hW (by rw [hb]; exact hdg)
    (fun vm₁ hW₁ => ⟨hf.1, hf.2, hp.2 (T.setVm vm₁) hT hW₁⟩)
  dsimp only [Pt.U, Pt.locs, Pt.cells, Pt.slots] at X' e1 e2 h1 h2 h3 st
  subst h1; subst h2; subst h3
  exact ⟨v, (T.setVm vm₁).calling g' mk As.toArray, t, U', L, hT, X', hL, e1, e2, hq, st⟩
/-- not caught here, past rows that name other classes: it goes on to the caller -/
theorem vx_outP {p : Program} {l : Launch} {e : Env} {R : Room} {s : State} {m : MethodId} {args : Array Value} {below : List Frame} {meth : Method} {c : Code} {H : Heap} {locs : List Loc} {cells slots : Nat} {free : Addr → Prop} {ls : Array Slot} {rest : List Value} {Qc : Array Value → State → Outcome → State → Prop} {XC : String → State → State → Prop}
    {pc : Nat} {own E : String} {ce : Cell} {q : Addr} {mc ms : Nat} (hown : s.vm.findClass own = some m.cls) (hlocks : meth.locks = false)
    (hpass : ∀ z ∈ c.exceptionTable.toList, covers z pc = false ∨ (z.catchType ≠ 0 ∧ ∃ nm : String, (Cond.classLink own z.catchType nm).before args s = true ∧ va_Nc E nm s)) (hcell : H[q]? = some ce) (hv : ce.vm = .none) (hcl : s.vm.findClass E = some ce.cls)
    (hx : ∀ t : State, t.heap = H → s.vm.Alike t.vm → XC E s t) (hf : ∀ z ∈ locs, free z.base) (hc : cells ≤ mc) (hs : slots ≤ ms) :
    vx_W p l e R s m args below meth c H locs cells slots (vx_MQ below Qc XC args s mc ms free) (F0 m pc ls rest) q := by
  intro T hT X
  have hpl : e.platform.magicAccessors = ({} : Platform).magicAccessors := by rw [X.admits.platform]
  obtain ⟨vm', hW', X', st⟩ := X.outThrough hlocks q (g := F0 m pc ls rest) rfl rfl rfl (cell := ce) (by rw [hT]; exact hcell) (by rw [hv]; rfl)
    (by obtain ⟨k9, h9, -⟩ := Vm.findClass_spec hcl; exact ⟨k9, h9⟩) (fun z hz => by
      rcases hpass z hz with h | ⟨hz0, nm, hl1, hn1⟩
      · exact Or.inl h
      · obtain ⟨c6, hc6, hcl6⟩ := Cond.classLink_spec hown hl1 e.platform hpl
        obtain ⟨a8, b8, h1, h2, h3⟩ := hn1
        cases Option.some.inj (h1.symm.trans hcl)
        cases Option.some.inj (h2.symm.trans hc6)
        exact Or.inr ⟨hz0, _, hcl6, h3⟩)
  obtain ⟨g₀, hfr⟩ := X'.frames_eq
  have hcell9 : ((T.setVm vm').setFrames (.throwing q :: below)).heap[q]? = some ce := by
    show T.heap[q]? = some ce
    rw [hT]; exact hcell
  have hend : Ended ((T.setVm vm').setFrames (.throwing q :: below)) below (.threw q) := State.frames_setFrames _ (State.cur_lt_of_frames hfr)
  refine ⟨(T.setVm vm').setFrames (.throwing q :: below), ?_, .threw q, X'.here.running, hend, Or.inr ⟨q, rfl, E, ce, locs, hx _ hT (X'.ends _).1.alike, hcell9, hv, hcl, (X'.ends _).1, (X'.ends _).2.mono hc hs, hf⟩⟩
  rw [X.pushThrowing_eq]
  exact st
/-- a thing of a world lies in the heap -/
theorem vx_lt {D : va_G} {cl : List vw_C} {ws : va_W} {H1 : Heap} (h : va_P D cl ws H1) {k : Nat} {q : Nat × va_E} (hk : ws[k]? = some q) : q.1 < H1.size := (h k q hk).lt
end VXS
/-! ===== END ===== -/
/-! ===== BEGIN methods with a table of their own: called by a name, returning or throwing ===== -/
section VXH
/-! vx_backW, vx_callVX, vx_callSX, vx_callVW, vx_runVW, vx_runVX, vx_runSX, vx_ofWH follow the same proofs as their sisters above (Free/Laws.lean, Shelf42/LK1.lean); vx_outP calls Shelf42/NT130.lean (outThrough). -/
section
variable {l : Launch} {R : Room} {p : Program} {e : Env} {below : List Frame} {s : State} {sargs : Array Value} {y : MethodName} {len W9 : Nat}
theorem vx_backW {ws : List Cond} {rm : Room} {Pc : Array Value → State → Prop} {Qc : Array Value → State → Outcome → State → Prop} {XC : String → State → State → Prop} {mc ms : Nat} {free : Addr → Prop} {bytes : ByteArray} {maxL : Nat} {ret : Option FieldType} {hh : List (Nat × Nat × Nat × Nat)}
    (hM : vx_Met l y ws rm Pc Qc XC mc ms free) (hblind : FrameBlind Pc) (hrc : rm.cells = mc) (hrs : rm.slots = ms)
    (hframes : rm.frames + 1 ≤ R.frames) (hlocals : W9 + (maxL + 11) + rm.locals ≤ R.locals)
    (hws : ∀ w ∈ ws, ∀ a' U, s.WarmedH U.vm → w.before a' U = true) (hcode : Cond.codeWith y bytes maxL ret hh ∈ ws) (hinit : ∀ a' U, s.WarmedH U.vm → (Cond.initialized y.cls).before a' U = true) :
    vx_Back l R p e below s sargs y len W9 (PreOf R mc ms Pc) (PostOf Qc mc ms free) (vx_Post XC mc ms free) := by
  intro m meth c A g ig mk a X hg hsize hdg hW hn hp
  have h1 : (headSpec ws rm).pre.before a A.U = true := atoms_intro fun w hw => hws w hw _ _ X.warmed
  have h2 : (Cond.codeWith y bytes maxL ret hh).before a A.U = true := hws _ hcode _ _ X.warmed
  have h3 : (Cond.initialized y.cls).before a A.U = true := hinit _ _ X.warmed
  have h4 : A.cells + (headSpec ws rm).room.cells ≤ R.cells := by rw [show (headSpec ws rm).room.cells = mc from hrc]; exact hp.1
  have h5 : A.slots + (headSpec ws rm).room.slots ≤ R.slots := by rw [show (headSpec ws rm).room.slots = ms from hrs]; exact hp.2.1
  have hPc : Pc a (A.U.calling g mk a) := hblind _ _ _ _ hp.2.2
  obtain ⟨U, Ls, c0, s0⟩ := A
  dsimp only [Pt.U, Pt.locs, Pt.cells, Pt.slots] at h1 h2 h3 h4 h5 X hn hPc ⊢
  obtain ⟨m9, methY, cY, hn9, hmY, hcY, -, hlY, -⟩ := Cond.codeWith_spec h2
  cases Option.some.inj (hn9.symm.trans hn)
  obtain ⟨kY, hkY, -⟩ := className_of_methodNamed hn
  have hinitY : kY.init = .initialized := Cond.initialized_spec (findClass_of_methodNamed hn) hkY h3
  have h : At U g.method c below := by rw [hg]; exact X.here
  have hlocals9 : W9 + (maxL + 11) + (headSpec ws rm).room.locals ≤ R.locals := hlocals
  have happ : (headSpec ws rm).appliesLoose y e.platform (U.calling g mk a) = true :=
    Spec.appliesLoose_calling (g := g) h hdg hn hkY hinitY
      (X.room_calling (g := g) (R' := (headSpec ws rm).room) hsize hmY hcY hframes (by rw [hlY]; omega) h4 h5) h1
  obtain ⟨mid, hmid⟩ := h.above
  have hfr : (U.setTop g).frames = (.java g :: mid) ++ below := by rw [State.frames_setTop' g h.top, hmid]; rfl
  obtain ⟨o, s₂, hsteps, -, hend, hq⟩ := Steps.callFree hM p X.admits X.cas X.clock (acts := []) hfr happ hPc trivial
  have hq' : vx_Q Qc XC mc ms free a (U.calling g mk a) o s₂ := hq
  rw [State.frames_setTop' g h.top] at hend
  obtain ⟨g₀, hg0⟩ := Option.isSome_iff_exists.mp h.top
  obtain ⟨r, hr⟩ := State.topJava?_eq_some.mp hg0
  have hr' : (({ U with heap := s₂.heap, slotsUsed := s₂.slotsUsed } : State).setVm s₂.vm).frames = .java g₀ :: r := hr
  rcases hq' with ⟨hqc, L, hfe, hL⟩ | ⟨q, rfl, E, ce, L, hx, hce, hcv, hcl, hW₂, hsm, hL⟩
  · obtain ⟨⟨v, rfl⟩, hW₂, e2, q2, q3, q4, q5, q6⟩ := id hfe
    have e3 : s₂ = ({ (U.calling g mk a).setFrames s₂.frames with heap := s₂.heap, slotsUsed := s₂.slotsUsed } : State).setVm s₂.vm := by
      have : s₂ = ({ s₂ with vm := (U.calling g mk a).vm } : State).setVm s₂.vm := rfl
      rw [e2] at this
      exact this
    obtain ⟨c₂, i₂, len₂, hc₂, hd₂, hf₂⟩ := hend
    have hW' : U.WarmedH s₂.vm := hW₂
    have hcc : c₂ = c := by
      have h1 : s₂.code? g.method = U.code? g.method := by
        rw [State.code?_eq, State.code?_eq, hW'.alike.method?]
      exact Option.some.inj (hc₂.symm.trans (h1.trans h.code))
    subst hcc
    have hlen : len₂ = len := by rw [hdg] at hd₂; cases hd₂; rfl
    subst hlen
    have hs₂ : s₂ = (({ U with heap := s₂.heap, slotsUsed := s₂.slotsUsed } : State).setVm s₂.vm).setTop { g with pc := g.pc + len₂, stack := v.toList ++ g.stack } := by
      refine e3.trans ?_
      rw [hf₂, State.calling_eq h.top, State.setFrames_setFrames, State.setTop_of_frames _ hr', hr]
      rfl
    have hsame : U.sameButNew ({ U with heap := s₂.heap, slotsUsed := s₂.slotsUsed } : State) L mc ms := by
      refine ⟨?_, q2, q3, q4, q5, q6⟩
      obtain ⟨t, ht, -⟩ := State.frames_cons hr
      show ({ U with heap := s₂.heap, slotsUsed := s₂.slotsUsed } : State) = { U.setFrames U.frames with heap := s₂.heap, slotsUsed := s₂.slotsUsed }
      rw [State.setFrames_self ht]
    subst hg
    refine Or.inl ⟨v, ⟨(({ U with heap := s₂.heap, slotsUsed := s₂.slotsUsed } : State).setVm s₂.vm), Ls ++ L, c0 + mc, s0 + ms⟩,
      ⟨X.admits, X.cas, X.clock, X.frames, X.room, X.hears, X.method, X.code, (X.here.setHeapUsed s₂.heap s₂.slotsUsed).setVm hW'.alike, X.tail, State.WarmedH.trans X.warmed hW', X.limits, X.bytes, X.same.trans (hsame.setVm s.vm)⟩,
      ⟨g, mk, s₂, L, rfl, rfl, hqc, rfl, hL, rfl, rfl⟩, ?_⟩
    show Steps p.tables e below _ ((({ U with heap := s₂.heap, slotsUsed := s₂.slotsUsed } : State).setVm s₂.vm).setTop { g with pc := g.pc + len₂, stack := v.toList ++ g.stack })
    rw [← hs₂]
    exact hsteps
  · obtain ⟨e2, q2, q3, q4, q5, q6⟩ := id hsm
    have e3 : s₂ = ({ (U.calling g mk a).setFrames s₂.frames with heap := s₂.heap, slotsUsed := s₂.slotsUsed } : State).setVm s₂.vm := by
      have : s₂ = ({ s₂ with vm := (U.calling g mk a).vm } : State).setVm s₂.vm := rfl
      rw [e2] at this
      exact this
    have hf₂ : s₂.frames = .throwing q :: .java g :: U.frames.tail := hend
    have hW' : U.WarmedH s₂.vm := hW₂
    have hs₂ : s₂ = ((({ U with heap := s₂.heap, slotsUsed := s₂.slotsUsed } : State).setVm s₂.vm).setTop g).pushFrame (.throwing q) := by
      refine e3.trans ?_
      rw [hf₂, State.calling_eq h.top, State.setFrames_setFrames, State.pushFrame, State.frames_setTop _ hr', State.setTop_of_frames _ hr', State.setFrames_setFrames, hr]
      rfl
    have hsame : U.sameButNew ({ U with heap := s₂.heap, slotsUsed := s₂.slotsUsed } : State) L mc ms := by
      refine ⟨?_, q2, q3, q4, q5, q6⟩
      obtain ⟨t, ht, -⟩ := State.frames_cons hr
      show ({ U with heap := s₂.heap, slotsUsed := s₂.slotsUsed } : State) = { U.setFrames U.frames with heap := s₂.heap, slotsUsed := s₂.slotsUsed }
      rw [State.setFrames_self ht]
    subst hg
    refine Or.inr ⟨q, ⟨(({ U with heap := s₂.heap, slotsUsed := s₂.slotsUsed } : State).setVm s₂.vm), Ls ++ L, c0 + mc, s0 + ms⟩,
      ⟨X.admits, X.cas, X.clock, X.frames, X.room, X.hears, X.method, X.code, (X.here.setHeapUsed s₂.heap s₂.slotsUsed).setVm hW'.alike, X.tail, State.WarmedH.trans X.warmed hW', X.limits, X.bytes, X.same.trans (hsame.setVm s.vm)⟩,
      ⟨g, mk, s₂, L, E, ce, rfl, rfl, hx, hce, hcv, hcl, rfl, hL, rfl, rfl⟩, ?_⟩
    show Steps p.tables e below _ (((({ U with heap := s₂.heap, slotsUsed := s₂.slotsUsed } : State).setVm s₂.vm).setTop g).pushFrame (.throwing q))
    rw [← hs₂]
    exact hsteps
end
variable {p : Program} {l : Launch} {e : Env} {R : Room} {s : State} {m : MethodId} {args : Array Value} {below : List Frame} {meth : Method} {c : Code} {T : State} {H : Heap} {locs : List Loc} {cells slots : Nat}
theorem vx_callVX (X : Stand p l e R s m args below meth c T locs cells slots) (hexec : p.tables.exec = Jvm.exec) {own C : String} {index : Nat} {y : MethodName} {bytes : ByteArray} {maxL : Nat} {ret : Option FieldType} {hh : List (Nat × Nat × Nat × Nat)}
    (hown : s.vm.findClass own = some m.cls) (hlink : (Cond.methodLink own index y).before args s = true) (hinst : (Cond.instanceMethod y).before args s = true) (hsel : (Cond.selects C y y).before args s = true)
    (hcode : (Cond.codeWith y bytes maxL ret hh).before args s = true) (hy : y.cls ≠ "java/lang/invoke/MethodHandle" ∧ y.cls ≠ "java/lang/invoke/VarHandle")
    {W9 : Nat} {Pre : Pt → Array Value → Prop} {Post : Pt → Array Value → Option Value → Pt → Prop} {PostX : Pt → Array Value → Addr → Pt → Prop} (hK : vx_Back l R p e below s args y 3 W9 Pre Post PostX)
    {b : Addr} {cellB : Cell} (hcell : T.heap[b]? = some cellB) (hobj : cellB.vm.isStatics = false) (hcls : s.vm.findClass C = some cellB.cls)
    {g : JFrame} (hg : g.method = m) (hsize : g.locals.size = c.maxLocals) {argsL rest : List Value} (hlen : ∀ sig, parseMethodDescriptor y.desc = some sig → argsL.length = sig.parameters.length)
    (hstack : g.stack = argsL.reverse ++ .ref b :: rest) (hW : 2 * g.monitorRoom + (rest.map fun v => v.category).sum ≤ W9) (hdg : decode c.code g.pc = .ok (.invokevirtual index, 3))
    (hpre : ∀ vm₁, s.WarmedH vm₁ → Pre ⟨T.setVm vm₁, locs, cells, slots⟩ (Value.ref b :: argsL).toArray) :
    (∃ (v : Option Value) (vm₁ : Vm) (B : Pt), s.WarmedH vm₁ ∧ Stand p l e R s m args below meth c B.U B.locs B.cells B.slots ∧ Post ⟨T.setVm vm₁, locs, cells, slots⟩ (Value.ref b :: argsL).toArray v B ∧
      ∀ target, Steps p.tables e below (B.U.setTop { g with pc := g.pc + 3, stack := v.toList ++ rest }) target → Steps p.tables e below (T.setTop g) target) ∨
    (∃ (q : Addr) (vm₁ : Vm) (B : Pt), s.WarmedH vm₁ ∧ Stand p l e R s m args below meth c B.U B.locs B.cells B.slots ∧ PostX ⟨T.setVm vm₁, locs, cells, slots⟩ (Value.ref b :: argsL).toArray q B ∧
      Steps p.tables e below (T.setTop g) ((B.U.setTop { g with stack := rest }).pushFrame (.throwing q))) := by
  obtain ⟨mk, methM, hnamed, hmethM, hstM, habM⟩ := Cond.instanceMethod_spec hinst
  obtain ⟨m8, methM', cM, hn8, hmethM', -, -, -, -, -, -, hsigM⟩ := Cond.codeWith_spec hcode
  cases Option.some.inj (hn8.symm.trans hnamed)
  cases hmethM.symm.trans hmethM'
  obtain ⟨c2, r2, m2, q1, q2, q3, q4, kP, hkP, hkPi⟩ := Cond.selects_spec hsel
  cases hcls.symm.trans q1
  cases (State.methodFound?_of_named hnamed hy).symm.trans q2
  cases hnamed.symm.trans q3
  have hselP : selectMethod e.platform s.vm cellB.cls mk = .method mk := by rw [Launch.admits_selectMethod X.admits]; exact q4
  obtain ⟨vm₁, X₁, hstep₁⟩ := X.invokevirtual hexec hown hlink hnamed hmethM hstM hkP hkPi hy (a := b) (cell := cellB) hcell
    (fun z h => by rw [h] at hobj; cases hobj) hselP hmethM habM hkP hkPi (g := g) hg (argsL := argsL) (rest := rest) (hlen _ hsigM) hstack hdg
  rcases hK m meth c ⟨T.setVm vm₁, locs, cells, slots⟩ { g with stack := rest } (.invokevirtual index) mk (Value.ref b :: argsL).toArray X₁ hg hsize hdg hW (X₁.named hnamed) (hpre vm₁ X₁.warmed) with ⟨v, B, X', hpost, hsteps⟩ | ⟨q, B, X', hpost, hsteps⟩
  · exact Or.inl ⟨v, vm₁, B, X₁.warmed, X', hpost, fun target h => hstep₁ _ fun acts => by rw [doInvoke_state]; exact hsteps.trans h⟩
  · exact Or.inr ⟨q, vm₁, B, X₁.warmed, X', hpost, hstep₁ _ fun acts => by rw [doInvoke_state]; exact hsteps⟩
theorem vx_callSX (X : Stand p l e R s m args below meth c T locs cells slots) (hexec : p.tables.exec = Jvm.exec) {own : String} {index : Nat} {y : MethodName} {bytes : ByteArray} {maxL : Nat} {ret : Option FieldType} {hh : List (Nat × Nat × Nat × Nat)}
    (hown : s.vm.findClass own = some m.cls) (hlink : (Cond.methodLink own index y).before args s = true) (hstat : (Cond.static y).before args s = true) (hinit : (Cond.initialized y.cls).before args s = true)
    (hcode : (Cond.codeWith y bytes maxL ret hh).before args s = true) (hy : y.cls ≠ "java/lang/invoke/MethodHandle" ∧ y.cls ≠ "java/lang/invoke/VarHandle")
    {W9 : Nat} {Pre : Pt → Array Value → Prop} {Post : Pt → Array Value → Option Value → Pt → Prop} {PostX : Pt → Array Value → Addr → Pt → Prop} (hK : vx_Back l R p e below s args y 3 W9 Pre Post PostX)
    {g : JFrame} (hg : g.method = m) (hsize : g.locals.size = c.maxLocals) {argsL rest : List Value} (hlen : ∀ sig, parseMethodDescriptor y.desc = some sig → argsL.length = sig.parameters.length)
    (hstack : g.stack = argsL.reverse ++ rest) (hW : 2 * g.monitorRoom + (rest.map fun v => v.category).sum ≤ W9) (hdg : decode c.code g.pc = .ok (.invokestatic index, 3))
    (hpre : ∀ vm₁, s.WarmedH vm₁ → Pre ⟨T.setVm vm₁, locs, cells, slots⟩ argsL.toArray) :
    (∃ (v : Option Value) (vm₁ : Vm) (B : Pt), s.WarmedH vm₁ ∧ Stand p l e R s m args below meth c B.U B.locs B.cells B.slots ∧ Post ⟨T.setVm vm₁, locs, cells, slots⟩ argsL.toArray v B ∧
      ∀ target, Steps p.tables e below (B.U.setTop { g with pc := g.pc + 3, stack := v.toList ++ rest }) target → Steps p.tables e below (T.setTop g) target) ∨
    (∃ (q : Addr) (vm₁ : Vm) (B : Pt), s.WarmedH vm₁ ∧ Stand p l e R s m args below meth c B.U B.locs B.cells B.slots ∧ PostX ⟨T.setVm vm₁, locs, cells, slots⟩ argsL.toArray q B ∧
      Steps p.tables e below (T.setTop g) ((B.U.setTop { g with stack := rest }).pushFrame (.throwing q))) := by
  obtain ⟨mk, methM, cM, hnamed, hmethM, -, -, -, -, -, -, hsigM⟩ := Cond.codeWith_spec hcode
  have hstatic : methM.isStatic = true := Cond.static_spec hnamed hmethM hstat
  obtain ⟨kP, hkP, -⟩ := className_of_methodNamed hnamed
  have hinitP : kP.init = .initialized := Cond.initialized_spec (findClass_of_methodNamed hnamed) hkP hinit
  obtain ⟨vm₁, X₁, hstep₁⟩ := X.invokestatic hexec hown hlink hnamed hmethM hstatic hkP hinitP hy (g := g) hg (argsL := argsL) (rest := rest) (hlen _ hsigM) hstack hdg
  rcases hK m meth c ⟨T.setVm vm₁, locs, cells, slots⟩ { g with stack := rest } (.invokestatic index) mk argsL.toArray X₁ hg hsize hdg hW (X₁.named hnamed) (hpre vm₁ X₁.warmed) with ⟨v, B, X', hpost, hsteps⟩ | ⟨q, B, X', hpost, hsteps⟩
  · exact Or.inl ⟨v, vm₁, B, X₁.warmed, X', hpost, fun target h => hstep₁ _ fun acts => by rw [doInvoke_state]; exact hsteps.trans h⟩
  · exact Or.inr ⟨q, vm₁, B, X₁.warmed, X', hpost, hstep₁ _ fun acts => by rw [doInvoke_state]; exact hsteps⟩
theorem vx_callVW (X : Stand p l e R s m args below meth c T locs cells slots) (hexec : p.tables.exec = Jvm.exec) {own C : String} {index : Nat} {y : MethodName} {bytes : ByteArray} {maxL : Nat} {ret : Option FieldType} {hh : List (Nat × Nat × Nat × Nat)}
    (hown : s.vm.findClass own = some m.cls) (hlink : (Cond.methodLink own index y).before args s = true) (hinst : (Cond.instanceMethod y).before args s = true) (hsel : (Cond.selects C y y).before args s = true)
    (hcode : (Cond.codeWith y bytes maxL ret hh).before args s = true) (hy : y.cls ≠ "java/lang/invoke/MethodHandle" ∧ y.cls ≠ "java/lang/invoke/VarHandle")
    {W9 : Nat} {Pre : Pt → Array Value → Prop} {Post : Pt → Array Value → Option Value → Pt → Prop} (hK : Back l R p e below s args y 3 W9 Pre Post)
    {b : Addr} {cellB : Cell} (hcell : T.heap[b]? = some cellB) (hobj : cellB.vm.isStatics = false) (hcls : s.vm.findClass C = some cellB.cls)
    {g : JFrame} (hg : g.method = m) (hsize : g.locals.size = c.maxLocals) {argsL rest : List Value} (hlen : ∀ sig, parseMethodDescriptor y.desc = some sig → argsL.length = sig.parameters.length)
    (hstack : g.stack = argsL.reverse ++ .ref b :: rest) (hW : 2 * g.monitorRoom + (rest.map fun v => v.category).sum ≤ W9) (hdg : decode c.code g.pc = .ok (.invokevirtual index, 3))
    (hpre : ∀ vm₁, s.WarmedH vm₁ → Pre ⟨T.setVm vm₁, locs, cells, slots⟩ (Value.ref b :: argsL).toArray) :
    ∃ (v : Option Value) (vm₁ : Vm) (B : Pt), s.WarmedH vm₁ ∧ Stand p l e R s m args below meth c B.U B.locs B.cells B.slots ∧ Post ⟨T.setVm vm₁, locs, cells, slots⟩ (Value.ref b :: argsL).toArray v B ∧
      ∀ target, Steps p.tables e below (B.U.setTop { g with pc := g.pc + 3, stack := v.toList ++ rest }) target → Steps p.tables e below (T.setTop g) target := by
  obtain ⟨mk, methM, hnamed, hmethM, hstM, habM⟩ := Cond.instanceMethod_spec hinst
  obtain ⟨m8, methM', cM, hn8, hmethM', -, -, -, -, -, -, hsigM⟩ := Cond.codeWith_spec hcode
  cases Option.some.inj (hn8.symm.trans hnamed)
  cases hmethM.symm.trans hmethM'
  obtain ⟨c2, r2, m2, q1, q2, q3, q4, kP, hkP, hkPi⟩ := Cond.selects_spec hsel
  cases hcls.symm.trans q1
  cases (State.methodFound?_of_named hnamed hy).symm.trans q2
  cases hnamed.symm.trans q3
  have hselP : selectMethod e.platform s.vm cellB.cls mk = .method mk := by rw [Launch.admits_selectMethod X.admits]; exact q4
  obtain ⟨vm₁, X₁, hstep₁⟩ := X.invokevirtual hexec hown hlink hnamed hmethM hstM hkP hkPi hy (a := b) (cell := cellB) hcell
    (fun z h => by rw [h] at hobj; cases hobj) hselP hmethM habM hkP hkPi (g := g) hg (argsL := argsL) (rest := rest) (hlen _ hsigM) hstack hdg
  obtain ⟨v, B, X', hpost, hsteps⟩ := hK m meth c ⟨T.setVm vm₁, locs, cells, slots⟩ { g with stack := rest } (.invokevirtual index) mk (Value.ref b :: argsL).toArray X₁ hg hsize hdg hW (X₁.named hnamed) (hpre vm₁ X₁.warmed)
  exact ⟨v, vm₁, B, X₁.warmed, X', hpost, fun target h => hstep₁ _ fun acts => by rw [doInvoke_state]; exact hsteps.trans h⟩
abbrev vx_CVW (R : Room) (s : State) (args : Array Value) (own C : String) (index : Nat) (y : MethodName) (bytes : ByteArray) (maxL : Nat) (ret : Option FieldType) (hh : List (Nat × Nat × Nat × Nat)) (ws : List Cond) (rm : Room) (mc ms n : Nat) : Prop :=
  (rm.cells = mc ∧ rm.slots = ms ∧ rm.frames + 1 ≤ R.frames ∧ 8 + (maxL + 11) + rm.locals ≤ R.locals ∧ (∀ w ∈ ws, ∀ (a' : Array Value) (U : State), s.WarmedH U.vm → w.before a' U = true) ∧ Cond.codeWith y bytes maxL ret hh ∈ ws) ∧
  (Cond.codeWith y bytes maxL ret hh).before args s = true ∧ (Cond.initialized y.cls).before args s = true ∧ (y.cls ≠ "java/lang/invoke/MethodHandle" ∧ y.cls ≠ "java/lang/invoke/VarHandle") ∧
  (∀ sig, parseMethodDescriptor y.desc = some sig → n = sig.parameters.length) ∧ (Cond.methodLink own index y).before args s = true ∧ (Cond.instanceMethod y).before args s = true ∧ (Cond.selects C y y).before args s = true
theorem vx_cwVW {own C : String} {index maxL mc ms : Nat} {y : MethodName} {bytes : ByteArray} {ret : Option FieldType} {hh : List (Nat × Nat × Nat × Nat)} {Ts ws ws' : List Cond} {rm : Room} (n : Nat) (ht : ∀ w ∈ Ts, w.before args s = true) (hT : GoodIn Ts (wsV own index C y ws)) (hw : ws = Cond.codeWith y bytes maxL ret hh :: ws') (hrc : rm.cells = mc) (hrs : rm.slots = ms)
    (hd : y.cls = C ∧ y.cls ≠ "java/lang/invoke/MethodHandle" ∧ y.cls ≠ "java/lang/invoke/VarHandle" ∧ (parseMethodDescriptor y.desc).map (fun d => d.parameters.length) = some n) (hR : rm.frames + 1 ≤ R.frames ∧ 8 + (maxL + 11) + rm.locals ≤ R.locals) :
    vx_CVW R s args own C index y bytes maxL ret hh ws rm mc ms n := by
  obtain ⟨hC, hd⟩ := hd
  subst hC
  have ok : ∀ w ∈ wsV own index y.cls y ws, w.before args s = true := fun w h => ht w (hT w h).1
  have hG : GoodIn Ts ws := fun w h => hT w (by unfold wsV; exact List.mem_append_right _ h)
  have hc : Cond.codeWith y bytes maxL ret hh ∈ ws := by rw [hw]; exact List.mem_cons_self
  refine ⟨⟨hrc, hrs, hR.1, hR.2, pay_in ht hG, hc⟩, ht _ (hG _ hc).1, ok _ (by simp [wsV]), ⟨hd.1, hd.2.1⟩, fun sig h => ?_, ok _ (by simp [wsV]), ok _ (by simp [wsV]), ok _ (by simp [wsV])⟩
  have h2 := hd.2.2
  rw [h] at h2
  exact (Option.some.inj h2).symm
theorem vx_runVW {y : MethodName} {bytes cc : ByteArray} {maxL nL mc ms n index : Nat} {ret : Option FieldType} {hh : List (Nat × Nat × Nat × Nat)} {ws : List Cond} {rm : Room} {Pc : Array Value → State → Prop} {Qc : Array Value → State → Outcome → State → Prop} {free : Addr → Prop} {Ts : List Cond} {own C : String} {b : Addr} {As rest : List Value} {g : JFrame}
    (S : CallFix p m c cc nL s args Ts own) (hM : Met l y ws rm Pc Qc mc ms free) (cw : vx_CVW R s args own C index y bytes maxL ret hh ws rm mc ms n) (hp : PreV s H C b Pc As)
    (hg : g.method = m) (hn : As.length = n) (hsize : g.locals.size = nL) (hstack : g.stack = As.reverse ++ .ref b :: rest) (hW : 2 * g.monitorRoom + (rest.map fun v => v.category).sum ≤ 8) (hdg : decode cc g.pc = .ok (.invokevirtual index, 3)) (hf : cells + mc ≤ R.cells ∧ slots + ms ≤ R.slots) :
    va_Run p l e R s m args below meth c H locs cells slots mc ms g rest (Qc (Value.ref b :: As).toArray) free := by
  obtain ⟨⟨hrc, hrs, hfr, hlo, hws, hcw⟩, hcode, hini, hy, hlen, hl, hin, hse⟩ := cw
  have hK : Back l R p e below s args y 3 8 (PreOf R mc ms Pc) (PostOf Qc mc ms free) := va_backW (hh := hh) (bytes := bytes) (maxL := maxL) (ret := ret) hM hp.1 hrc hrs hfr hlo hws hcw (fun a' U hW => word_at hW (Or.inl (by first | rfl | simp [Cond.onTables, Cond.keeps, Cond.steady])) hini)
  obtain ⟨hx, hb, hml, ho, -⟩ := S
  obtain ⟨-, ⟨cellB, hcB, hoB, hclB⟩, hPc⟩ := hp
  intro T hT X
  obtain ⟨v, vm₁, ⟨U', l2, c2, s2⟩, hW₁, X', ⟨g', mk, t, L, e1, e2, hq, h1, hL, h2, h3⟩, st⟩ := vx_callVW X hx (C := C) (hh := hh) (bytes := bytes) (maxL := maxL) (ret := ret) ho hl hin hse hcode hy hK (by rw [hT]; exact hcB) hoB hclB hg (hsize.trans hml.symm) (argsL := As) (rest := rest) (fun sig h => hn.trans (hlen sig h)) hstack hW (by rw [hb]; exact hdg)
    (fun vm₁ hW₁ => ⟨hf.1, hf.2, hPc (T.setVm vm₁) hT hW₁⟩)
  dsimp only [Pt.U, Pt.locs, Pt.cells, Pt.slots] at X' e1 e2 h1 h2 h3 st
  subst h1; subst h2; subst h3
  exact ⟨v, (T.setVm vm₁).calling g' mk (Value.ref b :: As).toArray, t, U', L, hT, X', hL, e1, e2, hq, st⟩
section
variable {y : MethodName} {bytes cc : ByteArray} {maxL nL mc ms n index : Nat} {ret : Option FieldType} {ws : List Cond} {rm : Room} {Pc : Array Value → State → Prop} {Qc : Array Value → State → Outcome → State → Prop} {XC : String → State → State → Prop} {free : Addr → Prop} {Ts : List Cond} {own C : String} {b : Addr} {As rest : List Value} {g : JFrame}
theorem vx_runVX {hh : List (Nat × Nat × Nat × Nat)} (S : CallFix p m c cc nL s args Ts own) (hM : vx_Met l y ws rm Pc Qc XC mc ms free) (cw : vx_CVW R s args own C index y bytes maxL ret hh ws rm mc ms n) (hp : PreV s H C b Pc As)
    (hg : g.method = m) (hn : As.length = n) (hsize : g.locals.size = nL) (hstack : g.stack = As.reverse ++ .ref b :: rest) (hW : 2 * g.monitorRoom + (rest.map fun v => v.category).sum ≤ 8) (hdg : decode cc g.pc = .ok (.invokevirtual index, 3)) (hf : cells + mc ≤ R.cells ∧ slots + ms ≤ R.slots) :
    vx_Run p l e R s m args below meth c H locs cells slots mc ms g rest (Qc (Value.ref b :: As).toArray) XC free := by
  obtain ⟨⟨hrc, hrs, hfr, hlo, hws, hcw⟩, hcode, hini, hy, hlen, hl, hin, hse⟩ := cw
  have hK : vx_Back l R p e below s args y 3 8 (PreOf R mc ms Pc) (PostOf Qc mc ms free) (vx_Post XC mc ms free) := vx_backW (hh := hh) (bytes := bytes) (maxL := maxL) (ret := ret) hM hp.1 hrc hrs hfr hlo hws hcw (fun a' U hW => word_at hW (Or.inl (by first | rfl | simp [Cond.onTables, Cond.keeps, Cond.steady])) hini)
  obtain ⟨hx, hb, hml, ho, -⟩ := S
  obtain ⟨-, ⟨cellB, hcB, hoB, hclB⟩, hPc⟩ := hp
  intro T hT X
  rcases vx_callVX X hx (C := C) (hh := hh) (bytes := bytes) (maxL := maxL) (ret := ret) ho hl hin hse hcode hy hK (by rw [hT]; exact hcB) hoB hclB hg (hsize.trans hml.symm) (argsL := As) (rest := rest) (fun sig h => hn.trans (hlen sig h)) hstack hW (by rw [hb]; exact hdg)
    (fun vm₁ hW₁ => ⟨hf.1, hf.2, hPc (T.setVm vm₁) hT hW₁⟩) with ⟨v, vm₁, ⟨U', l2, c2, s2⟩, hW₁, X', ⟨g', mk, t, L, e1, e2, hq, h1, hL, h2, h3⟩, st⟩ | ⟨q, vm₁, ⟨U', l2, c2, s2⟩, hW₁, X', ⟨g', mk, t, L, E, ce, e1, e2, hq, hce, hcv, hcl, h1, hL, h2, h3⟩, st⟩
  · dsimp only [Pt.U, Pt.locs, Pt.cells, Pt.slots] at X' e1 e2 h1 h2 h3 st
    subst h1; subst h2; subst h3
    exact Or.inl ⟨v, (T.setVm vm₁).calling g' mk (Value.ref b :: As).toArray, t, U', L, hT, X', hL, e1, e2, hq, st⟩
  · dsimp only [Pt.U, Pt.locs, Pt.cells, Pt.slots] at X' e1 e2 h1 h2 h3 st hcl
    subst h1; subst h2; subst h3
    exact Or.inr ⟨q, (T.setVm vm₁).calling g' mk (Value.ref b :: As).toArray, t, U', L, E, ce, hT, X', hL, e1, e2, hq, hce, hcv, vx_cls hW₁ hcl, st⟩
theorem vx_runSX {hh : List (Nat × Nat × Nat × Nat)} (S : CallFix p m c cc nL s args Ts own) (hM : vx_Met l y ws rm Pc Qc XC mc ms free) (cw : vx_CSW R s args own index y bytes maxL ret hh ws rm mc ms n) (hp : PreS s H Pc As)
    (hg : g.method = m) (hn : As.length = n) (hsize : g.locals.size = nL) (hstack : g.stack = As.reverse ++ rest) (hW : 2 * g.monitorRoom + (rest.map fun v => v.category).sum ≤ 8) (hdg : decode cc g.pc = .ok (.invokestatic index, 3)) (hf : cells + mc ≤ R.cells ∧ slots + ms ≤ R.slots) :
    vx_Run p l e R s m args below meth c H locs cells slots mc ms g rest (Qc As.toArray) XC free := by
  obtain ⟨⟨hrc, hrs, hfr, hlo, hws, hcw⟩, hcode, hini, hy, hlen, hl, hstt⟩ := cw
  have hK : vx_Back l R p e below s args y 3 8 (PreOf R mc ms Pc) (PostOf Qc mc ms free) (vx_Post XC mc ms free) := vx_backW (hh := hh) (bytes := bytes) (maxL := maxL) (ret := ret) hM hp.1 hrc hrs hfr hlo hws hcw (fun a' U hW => word_at hW (Or.inl (by first | rfl | simp [Cond.onTables, Cond.keeps, Cond.steady])) hini)
  obtain ⟨hx, hb, hml, ho, -⟩ := S
  intro T hT X
  rcases vx_callSX X hx (hh := hh) (bytes := bytes) (maxL := maxL) (ret := ret) ho hl hstt hini hcode hy hK hg (hsize.trans hml.symm) (argsL := As) (rest := rest) (fun sig h => hn.trans (hlen sig h)) hstack hW (by rw [hb]; exact hdg)
    (fun vm₁ hW₁ => ⟨hf.1, hf.2, hp.2 (T.setVm vm₁) hT hW₁⟩) with ⟨v, vm₁, ⟨U', l2, c2, s2⟩, hW₁, X', ⟨g', mk, t, L, e1, e2, hq, h1, hL, h2, h3⟩, st⟩ | ⟨q, vm₁, ⟨U', l2, c2, s2⟩, hW₁, X', ⟨g', mk, t, L, E, ce, e1, e2, hq, hce, hcv, hcl, h1, hL, h2, h3⟩, st⟩
  · dsimp only [Pt.U, Pt.locs, Pt.cells, Pt.slots] at X' e1 e2 h1 h2 h3 st
    subst h1; subst h2; subst h3
    exact Or.inl ⟨v, (T.setVm vm₁).calling g' mk As.toArray, t, U', L, hT, X', hL, e1, e2, hq, st⟩
  · dsimp only [Pt.U, Pt.locs, Pt.cells, Pt.slots] at X' e1 e2 h1 h2 h3 st hcl
    subst h1; subst h2; subst h3
    exact Or.inr ⟨q, (T.setVm vm₁).calling g' mk As.toArray, t, U', L, E, ce, hT, X', hL, e1, e2, hq, hce, hcv, vx_cls hW₁ hcl, st⟩
end
end VXH
theorem vx_ofWH {l : Launch} {y : MethodName} {ws ws' : List Cond} {rm : Room} {Pc : Array Value → State → Prop} {Qc : Array Value → State → Outcome → State → Prop} {XC : String → State → State → Prop} {mc ms : Nat} {free : Addr → Prop} {cc : ByteArray} {maxL : Nat} {ret : Option FieldType} {hh : List (Nat × Nat × Nat × Nat)}
    (hy : plainName y.cls = true) (hw : ws = Cond.codeWith y cc maxL ret hh :: ws')
    (body : ∀ p e s m args below meth c s₁, BodyLoose p l y (headSpec ws rm) cc maxL ret e s m args below meth c s₁ → c.maxLocals = maxL → Pc args s →
      W p l e (headSpec ws rm).room s m args below meth c s.heap [] 0 0 (vx_MQ below Qc XC args s mc ms free) (entryFrame m args maxL)) : vx_Met l y ws rm Pc Qc XC mc ms free := by
  refine MetFree.of_bodyS (code := cc) (maxLocals := maxL) (ret := ret) hy ?_ ?_
  · intro args s m h hn
    obtain ⟨m9, meth, c, hn9, h1, h2, h3, h4, -, h5, h6, -⟩ := Cond.codeWith_spec (atoms_spec (ws := ws) h _ (by rw [hw]; exact List.mem_cons_self))
    cases hn.symm.trans hn9
    exact ⟨meth, c, h1, h2, h3, h4, h5, h6⟩
  · intro p e s m args below meth c s₁ B hml hP _
    have hh0 : s₁.heap = s.heap := by rw [B.state]; rfl
    obtain ⟨t, a1, o, b1, b2, b3⟩ := body p e s m args below meth c s₁ B hml hP s₁ hh0 (Stand.of_body B)
    exact ⟨t, o, a1, b1, b2, b3⟩
/-! ===== END ===== -/

def RX0 : String := "StampedSlots$History"
def TX0 : u_T := fun k => match k with
  | 0 => ("StampedSlots$History", "states", "[LStampedSlots$State;", true)
  | _ => ("StampedSlots$History", "length", "I", false)
def tyX0 : Nat → FieldType := fun k => match k with
  | 0 => .array (.object "StampedSlots$State")
  | _ => .int
theorem nmX0 : ∀ a, a < 2 → ∀ b, b < 2 → a ≠ b → (TX0 a).2.1 ≠ (TX0 b).2.1 := by decide +kernel
theorem tyX0_ok : ∀ k, k < 2 → parseFieldDescriptor (TX0 k).2.2.1 = some (tyX0 k) := by decide +kernel
abbrev cX0_init : ByteArray := prog_2_method_1_code
def yX0_init : MethodName := ⟨RX0, "<init>", "()V"⟩
abbrev cX0_size : ByteArray := prog_2_method_2_code
def yX0_size : MethodName := ⟨RX0, "size", "()I"⟩
abbrev cX0_save : ByteArray := prog_2_method_3_code
def yX0_save : MethodName := ⟨RX0, "save", "(LStampedSlots$State;)V"⟩
abbrev cX0_dropOldest : ByteArray := prog_2_method_4_code
def yX0_dropOldest : MethodName := ⟨RX0, "dropOldest", "()V"⟩
abbrev cX0_bringBack : ByteArray := prog_2_method_5_code
def yX0_bringBack : MethodName := ⟨RX0, "bringBack", "(LStampedSlots$State;)V"⟩
def RX1 : String := "StampedSlots$Row"
def TX1 : u_T := fun k => match k with
  | 0 => ("StampedSlots$Row", "length", "I", false)
  | 1 => ("StampedSlots$Row", "entries", "[I", true)
  | _ => ("StampedSlots$Row", "stands", "[I", true)
def tyX1 : Nat → FieldType := fun k => match k with
  | 0 => .int
  | 1 => .array .int
  | _ => .array .int
theorem nmX1 : ∀ a, a < 3 → ∀ b, b < 3 → a ≠ b → (TX1 a).2.1 ≠ (TX1 b).2.1 := by decide +kernel
theorem tyX1_ok : ∀ k, k < 3 → parseFieldDescriptor (TX1 k).2.2.1 = some (tyX1 k) := by decide +kernel
abbrev cX1_init : ByteArray := prog_3_method_1_code
def yX1_init : MethodName := ⟨RX1, "<init>", "()V"⟩
abbrev cX1_copyFrom : ByteArray := prog_3_method_2_code
def yX1_copyFrom : MethodName := ⟨RX1, "copyFrom", "(LStampedSlots$Row;)V"⟩
abbrev cX1_size : ByteArray := prog_3_method_3_code
def yX1_size : MethodName := ⟨RX1, "size", "()I"⟩
abbrev cX1_isEntry : ByteArray := prog_3_method_4_code
def yX1_isEntry : MethodName := ⟨RX1, "isEntry", "(I)Z"⟩
abbrev cX1_thingIn : ByteArray := prog_3_method_5_code
def yX1_thingIn : MethodName := ⟨RX1, "thingIn", "(I)I"⟩
abbrev cX1_things : ByteArray := prog_3_method_6_code
def yX1_things : MethodName := ⟨RX1, "things", "()I"⟩
abbrev cX1_tombstones : ByteArray := prog_3_method_7_code
def yX1_tombstones : MethodName := ⟨RX1, "tombstones", "()I"⟩
abbrev cX1_thingsFrom : ByteArray := prog_3_method_8_code
def yX1_thingsFrom : MethodName := ⟨RX1, "thingsFrom", "(I)I"⟩
abbrev cX1_thingAtPlace : ByteArray := prog_3_method_9_code
def yX1_thingAtPlace : MethodName := ⟨RX1, "thingAtPlace", "(I)I"⟩
abbrev cX1_placeOf : ByteArray := prog_3_method_10_code
def yX1_placeOf : MethodName := ⟨RX1, "placeOf", "(I)I"⟩
abbrev cX1_indexOf : ByteArray := prog_3_method_11_code
def yX1_indexOf : MethodName := ⟨RX1, "indexOf", "(I)I"⟩
abbrev cX1_list : ByteArray := prog_3_method_12_code
def yX1_list : MethodName := ⟨RX1, "list", "([I)I"⟩
abbrev cX1_insert : ByteArray := prog_3_method_13_code
def yX1_insert : MethodName := ⟨RX1, "insert", "(II)V"⟩
abbrev cX1_sweep : ByteArray := prog_3_method_14_code
def yX1_sweep : MethodName := ⟨RX1, "sweep", "(I)V"⟩
abbrev cX1_bury : ByteArray := prog_3_method_15_code
def yX1_bury : MethodName := ⟨RX1, "bury", "(I)V"⟩
abbrev cX1_rename : ByteArray := prog_3_method_16_code
def yX1_rename : MethodName := ⟨RX1, "rename", "(II)V"⟩
abbrev cX1_walkersOn : ByteArray := prog_3_method_17_code
def yX1_walkersOn : MethodName := ⟨RX1, "walkersOn", "(I)I"⟩
abbrev cX1_standOf : ByteArray := prog_3_method_18_code
def yX1_standOf : MethodName := ⟨RX1, "standOf", "(I)I"⟩
abbrev cX1_thingUnder : ByteArray := prog_3_method_19_code
def yX1_thingUnder : MethodName := ⟨RX1, "thingUnder", "(I)I"⟩
abbrev cX1_thingsBehind : ByteArray := prog_3_method_20_code
def yX1_thingsBehind : MethodName := ⟨RX1, "thingsBehind", "(I)I"⟩
abbrev cX1_sendAhead : ByteArray := prog_3_method_21_code
def yX1_sendAhead : MethodName := ⟨RX1, "sendAhead", "(I)V"⟩
abbrev cX1_sendOn : ByteArray := prog_3_method_22_code
def yX1_sendOn : MethodName := ⟨RX1, "sendOn", "(I)V"⟩
abbrev cX1_indexUnder : ByteArray := prog_3_method_23_code
def yX1_indexUnder : MethodName := ⟨RX1, "indexUnder", "(I)I"⟩
abbrev cX1_nextThing : ByteArray := prog_3_method_24_code
def yX1_nextThing : MethodName := ⟨RX1, "nextThing", "(I)I"⟩
abbrev cX1_send : ByteArray := prog_3_method_25_code
def yX1_send : MethodName := ⟨RX1, "send", "(II)V"⟩
def RX2 : String := "StampedSlots$Slots"
def TX2 : u_T := fun k => match k with
  | 0 => ("StampedSlots$Slots", "cells", "I", false)
  | 1 => ("StampedSlots$Slots", "stamps", "[I", true)
  | 2 => ("StampedSlots$Slots", "owners", "[I", true)
  | 3 => ("StampedSlots$Slots", "sizes", "[I", true)
  | 4 => ("StampedSlots$Slots", "values", "[I", true)
  | 5 => ("StampedSlots$Slots", "kinds", "[I", true)
  | _ => ("StampedSlots$Slots", "fired", "[I", true)
def tyX2 : Nat → FieldType := fun k => match k with
  | 0 => .int
  | 1 => .array .int
  | 2 => .array .int
  | 3 => .array .int
  | 4 => .array .int
  | 5 => .array .int
  | _ => .array .int
theorem nmX2 : ∀ a, a < 7 → ∀ b, b < 7 → a ≠ b → (TX2 a).2.1 ≠ (TX2 b).2.1 := by decide +kernel
theorem tyX2_ok : ∀ k, k < 7 → parseFieldDescriptor (TX2 k).2.2.1 = some (tyX2 k) := by decide +kernel
abbrev cX2_init : ByteArray := prog_4_method_1_code
def yX2_init : MethodName := ⟨RX2, "<init>", "()V"⟩
abbrev cX2_copyFrom : ByteArray := prog_4_method_2_code
def yX2_copyFrom : MethodName := ⟨RX2, "copyFrom", "(LStampedSlots$Slots;)V"⟩
abbrev cX2_isCell : ByteArray := prog_4_method_3_code
def yX2_isCell : MethodName := ⟨RX2, "isCell", "(I)Z"⟩
abbrev cX2_cellsNow : ByteArray := prog_4_method_4_code
def yX2_cellsNow : MethodName := ⟨RX2, "cellsNow", "()I"⟩
abbrev cX2_stampAt : ByteArray := prog_4_method_5_code
def yX2_stampAt : MethodName := ⟨RX2, "stampAt", "(I)I"⟩
abbrev cX2_ownerOf : ByteArray := prog_4_method_6_code
def yX2_ownerOf : MethodName := ⟨RX2, "ownerOf", "(I)I"⟩
abbrev cX2_sizeAt : ByteArray := prog_4_method_7_code
def yX2_sizeAt : MethodName := ⟨RX2, "sizeAt", "(I)I"⟩
abbrev cX2_valueAt : ByteArray := prog_4_method_8_code
def yX2_valueAt : MethodName := ⟨RX2, "valueAt", "(I)I"⟩
abbrev cX2_kindAt : ByteArray := prog_4_method_9_code
def yX2_kindAt : MethodName := ⟨RX2, "kindAt", "(I)I"⟩
abbrev cX2_timesFired : ByteArray := prog_4_method_10_code
def yX2_timesFired : MethodName := ⟨RX2, "timesFired", "(I)I"⟩
abbrev cX2_handleOf : ByteArray := prog_4_method_11_code
def yX2_handleOf : MethodName := ⟨RX2, "handleOf", "(I)I"⟩
abbrev cX2_whyRefused : ByteArray := prog_4_method_12_code
def yX2_whyRefused : MethodName := ⟨RX2, "whyRefused", "(I)I"⟩
abbrev cX2_lowestFor : ByteArray := prog_4_method_13_code
def yX2_lowestFor : MethodName := ⟨RX2, "lowestFor", "(I)I"⟩
abbrev cX2_occupy : ByteArray := prog_4_method_14_code
def yX2_occupy : MethodName := ⟨RX2, "occupy", "(IIII)V"⟩
abbrev cX2_growTo : ByteArray := prog_4_method_15_code
def yX2_growTo : MethodName := ⟨RX2, "growTo", "(I)V"⟩
abbrev cX2_giveCells : ByteArray := prog_4_method_16_code
def yX2_giveCells : MethodName := ⟨RX2, "giveCells", "(III)V"⟩
abbrev cX2_release : ByteArray := prog_4_method_17_code
def yX2_release : MethodName := ⟨RX2, "release", "(I)V"⟩
abbrev cX2_carry : ByteArray := prog_4_method_18_code
def yX2_carry : MethodName := ⟨RX2, "carry", "(II)V"⟩
abbrev cX2_setValue : ByteArray := prog_4_method_19_code
def yX2_setValue : MethodName := ⟨RX2, "setValue", "(II)V"⟩
abbrev cX2_setTimesFired : ByteArray := prog_4_method_20_code
def yX2_setTimesFired : MethodName := ⟨RX2, "setTimesFired", "(II)V"⟩
abbrev cX2_freeCells : ByteArray := prog_4_method_21_code
def yX2_freeCells : MethodName := ⟨RX2, "freeCells", "()I"⟩
abbrev cX2_sumOfValues : ByteArray := prog_4_method_22_code
def yX2_sumOfValues : MethodName := ⟨RX2, "sumOfValues", "()I"⟩
abbrev cX2_roomFor : ByteArray := prog_4_method_23_code
def yX2_roomFor : MethodName := ⟨RX2, "roomFor", "(I)I"⟩
abbrev cX2_longestGap : ByteArray := prog_4_method_24_code
def yX2_longestGap : MethodName := ⟨RX2, "longestGap", "()I"⟩
abbrev cX2_beginOfLongestGap : ByteArray := prog_4_method_25_code
def yX2_beginOfLongestGap : MethodName := ⟨RX2, "beginOfLongestGap", "()I"⟩
def RX3 : String := "StampedSlots$State"
def TX3 : u_T := fun k => match k with
  | 0 => ("StampedSlots$State", "slots", "LStampedSlots$Slots;", true)
  | 1 => ("StampedSlots$State", "row", "LStampedSlots$Row;", true)
  | 2 => ("StampedSlots$State", "toFire", "[I", true)
  | 3 => ("StampedSlots$State", "events", "I", false)
  | 4 => ("StampedSlots$State", "thingsPut", "I", false)
  | 5 => ("StampedSlots$State", "thingsRemoved", "I", false)
  | _ => ("StampedSlots$State", "thingsMoved", "I", false)
def tyX3 : Nat → FieldType := fun k => match k with
  | 0 => .object "StampedSlots$Slots"
  | 1 => .object "StampedSlots$Row"
  | 2 => .array .int
  | 3 => .int
  | 4 => .int
  | 5 => .int
  | _ => .int
theorem nmX3 : ∀ a, a < 7 → ∀ b, b < 7 → a ≠ b → (TX3 a).2.1 ≠ (TX3 b).2.1 := by decide +kernel
theorem tyX3_ok : ∀ k, k < 7 → parseFieldDescriptor (TX3 k).2.2.1 = some (tyX3 k) := by decide +kernel
abbrev cX3_init : ByteArray := prog_5_method_1_code
def yX3_init : MethodName := ⟨RX3, "<init>", "()V"⟩
abbrev cX3_copyFrom : ByteArray := prog_5_method_2_code
def yX3_copyFrom : MethodName := ⟨RX3, "copyFrom", "(LStampedSlots$State;)V"⟩
abbrev cX3_addAt : ByteArray := prog_5_method_3_code
def yX3_addAt : MethodName := ⟨RX3, "addAt", "(IIII)I"⟩
abbrev cX3_drop : ByteArray := prog_5_method_4_code
def yX3_drop : MethodName := ⟨RX3, "drop", "(I)V"⟩
abbrev cX3_fireThings : ByteArray := prog_5_method_5_code
def yX3_fireThings : MethodName := ⟨RX3, "fireThings", "()I"⟩
abbrev cX3_moveThings : ByteArray := prog_5_method_6_code
def yX3_moveThings : MethodName := ⟨RX3, "moveThings", "()I"⟩
def RX4 : String := "StampedSlots$ThingText"
def TX4 : u_T := fun k => match k with
  | 0 => ("StampedSlots$ThingText", "codes", "[I", true)
  | _ => ("StampedSlots$ThingText", "length", "I", false)
def tyX4 : Nat → FieldType := fun k => match k with
  | 0 => .array .int
  | _ => .int
theorem nmX4 : ∀ a, a < 2 → ∀ b, b < 2 → a ≠ b → (TX4 a).2.1 ≠ (TX4 b).2.1 := by decide +kernel
theorem tyX4_ok : ∀ k, k < 2 → parseFieldDescriptor (TX4 k).2.2.1 = some (tyX4 k) := by decide +kernel
abbrev cX4_init : ByteArray := prog_6_method_1_code
def yX4_init : MethodName := ⟨RX4, "<init>", "()V"⟩
abbrev cX4_size : ByteArray := prog_6_method_2_code
def yX4_size : MethodName := ⟨RX4, "size", "()I"⟩
abbrev cX4_isFull : ByteArray := prog_6_method_3_code
def yX4_isFull : MethodName := ⟨RX4, "isFull", "()Z"⟩
abbrev cX4_add : ByteArray := prog_6_method_4_code
def yX4_add : MethodName := ⟨RX4, "add", "(I)V"⟩
abbrev cX4_empty : ByteArray := prog_6_method_5_code
def yX4_empty : MethodName := ⟨RX4, "empty", "()V"⟩
abbrev cX4_codeAt : ByteArray := prog_6_method_6_code
def yX4_codeAt : MethodName := ⟨RX4, "codeAt", "(I)I"⟩
abbrev cX4_indexOf : ByteArray := prog_6_method_7_code
def yX4_indexOf : MethodName := ⟨RX4, "indexOf", "(II)I"⟩
abbrev cX4_numberIn : ByteArray := prog_6_method_8_code
def yX4_numberIn : MethodName := ⟨RX4, "numberIn", "(II)I"⟩
abbrev cX4_firstWrong : ByteArray := prog_6_method_9_code
def yX4_firstWrong : MethodName := ⟨RX4, "firstWrong", "()I"⟩
abbrev cX4_isComplete : ByteArray := prog_6_method_10_code
def yX4_isComplete : MethodName := ⟨RX4, "isComplete", "()Z"⟩
abbrev cX4_stateBehind : ByteArray := prog_6_method_11_code
def yX4_stateBehind : MethodName := ⟨RX4, "stateBehind", "(II)I"⟩
abbrev cX4_firstDigit : ByteArray := prog_6_method_12_code
def yX4_firstDigit : MethodName := ⟨RX4, "firstDigit", "(I)I"⟩
abbrev cX4_laterDigit : ByteArray := prog_6_method_13_code
def yX4_laterDigit : MethodName := ⟨RX4, "laterDigit", "(II)I"⟩
abbrev cX4_behindSize : ByteArray := prog_6_method_14_code
def yX4_behindSize : MethodName := ⟨RX4, "behindSize", "(I)I"⟩
def RX5 : String := "StampedSlots"
def TX5 : u_T := fun k => match k with
  | 0 => ("StampedSlots", "now", "LStampedSlots$State;", true)
  | 1 => ("StampedSlots", "trial", "LStampedSlots$State;", true)
  | 2 => ("StampedSlots", "history", "LStampedSlots$History;", true)
  | _ => ("StampedSlots", "buffer", "LStampedSlots$ThingText;", true)
def tyX5 : Nat → FieldType := fun k => match k with
  | 0 => .object "StampedSlots$State"
  | 1 => .object "StampedSlots$State"
  | 2 => .object "StampedSlots$History"
  | _ => .object "StampedSlots$ThingText"
theorem nmX5 : ∀ a, a < 4 → ∀ b, b < 4 → a ≠ b → (TX5 a).2.1 ≠ (TX5 b).2.1 := by decide +kernel
theorem tyX5_ok : ∀ k, k < 4 → parseFieldDescriptor (TX5 k).2.2.1 = some (tyX5 k) := by decide +kernel
abbrev cX5_init : ByteArray := prog_1_method_1_code
def yX5_init : MethodName := ⟨RX5, "<init>", "()V"⟩
abbrev cX5_put : ByteArray := prog_1_method_2_code
def yX5_put : MethodName := ⟨RX5, "put", "(III)I"⟩
abbrev cX5_putBehind : ByteArray := prog_1_method_3_code
def yX5_putBehind : MethodName := ⟨RX5, "putBehind", "(IIII)I"⟩
abbrev cX5_remove : ByteArray := prog_1_method_4_code
def yX5_remove : MethodName := ⟨RX5, "remove", "(I)I"⟩
abbrev cX5_change : ByteArray := prog_1_method_5_code
def yX5_change : MethodName := ⟨RX5, "change", "(II)I"⟩
abbrev cX5_restart : ByteArray := prog_1_method_6_code
def yX5_restart : MethodName := ⟨RX5, "restart", "(I)I"⟩
abbrev cX5_goOn : ByteArray := prog_1_method_7_code
def yX5_goOn : MethodName := ⟨RX5, "goOn", "(I)I"⟩
abbrev cX5_take : ByteArray := prog_1_method_8_code
def yX5_take : MethodName := ⟨RX5, "take", "(I)I"⟩
abbrev cX5_fire : ByteArray := prog_1_method_9_code
def yX5_fire : MethodName := ⟨RX5, "fire", "()I"⟩
abbrev cX5_together : ByteArray := prog_1_method_10_code
def yX5_together : MethodName := ⟨RX5, "together", "()I"⟩
abbrev cX5_append : ByteArray := prog_1_method_11_code
def yX5_append : MethodName := ⟨RX5, "append", "(I)I"⟩
abbrev cX5_clearBuffer : ByteArray := prog_1_method_12_code
def yX5_clearBuffer : MethodName := ⟨RX5, "clearBuffer", "()I"⟩
abbrev cX5_firstError : ByteArray := prog_1_method_13_code
def yX5_firstError : MethodName := ⟨RX5, "firstError", "()I"⟩
abbrev cX5_putAll : ByteArray := prog_1_method_14_code
def yX5_putAll : MethodName := ⟨RX5, "putAll", "()I"⟩
abbrev cX5_undo : ByteArray := prog_1_method_15_code
def yX5_undo : MethodName := ⟨RX5, "undo", "()I"⟩
abbrev cX5_refusal : ByteArray := prog_1_method_16_code
def yX5_refusal : MethodName := ⟨RX5, "refusal", "(I)I"⟩
abbrev cX5_thing : ByteArray := prog_1_method_17_code
def yX5_thing : MethodName := ⟨RX5, "thing", "(II)I"⟩
abbrev cX5_at : ByteArray := prog_1_method_18_code
def yX5_at : MethodName := ⟨RX5, "at", "(I)I"⟩
abbrev cX5_cell : ByteArray := prog_1_method_19_code
def yX5_cell : MethodName := ⟨RX5, "cell", "(II)I"⟩
abbrev cX5_walker : ByteArray := prog_1_method_20_code
def yX5_walker : MethodName := ⟨RX5, "walker", "(II)I"⟩
abbrev cX5_count : ByteArray := prog_1_method_21_code
def yX5_count : MethodName := ⟨RX5, "count", "(I)I"⟩
abbrev cX5_begins : ByteArray := prog_1_method_22_code
def yX5_begins : MethodName := ⟨RX5, "begins", "(I)I"⟩
abbrev cX5_gap : ByteArray := prog_1_method_23_code
def yX5_gap : MethodName := ⟨RX5, "gap", "(I)I"⟩
abbrev cX5_ifFired : ByteArray := prog_1_method_24_code
def yX5_ifFired : MethodName := ⟨RX5, "ifFired", "(II)I"⟩
abbrev cX5_room : ByteArray := prog_1_method_25_code
def yX5_room : MethodName := ⟨RX5, "room", "(IZ)I"⟩
abbrev cX5_fullness : ByteArray := prog_1_method_26_code
def yX5_fullness : MethodName := ⟨RX5, "fullness", "()D"⟩
abbrev cX5_digest : ByteArray := prog_1_method_27_code
def yX5_digest : MethodName := ⟨RX5, "digest", "()J"⟩
abbrev cX5_hashThings : ByteArray := prog_1_method_28_code
def yX5_hashThings : MethodName := ⟨RX5, "hashThings", "(J)J"⟩
abbrev cX5_hashCellsAndWalkers : ByteArray := prog_1_method_29_code
def yX5_hashCellsAndWalkers : MethodName := ⟨RX5, "hashCellsAndWalkers", "(J)J"⟩
abbrev cX5_hashGaps : ByteArray := prog_1_method_30_code
def yX5_hashGaps : MethodName := ⟨RX5, "hashGaps", "(J)J"⟩
abbrev cX5_hashRoom : ByteArray := prog_1_method_31_code
def yX5_hashRoom : MethodName := ⟨RX5, "hashRoom", "(J)J"⟩
abbrev cX5_tryEvents : ByteArray := prog_1_method_32_code
def yX5_tryEvents : MethodName := ⟨RX5, "tryEvents", "(I)I"⟩
abbrev cX5_hashBuffer : ByteArray := prog_1_method_33_code
def yX5_hashBuffer : MethodName := ⟨RX5, "hashBuffer", "(J)J"⟩
abbrev cX5_bitsOfShare : ByteArray := prog_1_method_34_code
def yX5_bitsOfShare : MethodName := ⟨RX5, "bitsOfShare", "(D)J"⟩
abbrev cX5_putParts : ByteArray := prog_1_method_35_code
def yX5_putParts : MethodName := ⟨RX5, "putParts", "()I"⟩
abbrev cX5_kindOfSign : ByteArray := prog_1_method_36_code
def yX5_kindOfSign : MethodName := ⟨RX5, "kindOfSign", "(I)I"⟩
abbrev cX5_isThing : ByteArray := prog_1_method_37_code
def yX5_isThing : MethodName := ⟨RX5, "isThing", "(III)Z"⟩
abbrev cX5_isValue : ByteArray := prog_1_method_38_code
def yX5_isValue : MethodName := ⟨RX5, "isValue", "(I)Z"⟩
abbrev cX5_isSize : ByteArray := prog_1_method_39_code
def yX5_isSize : MethodName := ⟨RX5, "isSize", "(I)Z"⟩
abbrev cX5_isWalker : ByteArray := prog_1_method_40_code
def yX5_isWalker : MethodName := ⟨RX5, "isWalker", "(I)Z"⟩
def RX6 : String := "StampedSlotsModel"
def TX6 : u_T := fun k => match k with
  | _ => ("", "", "", false)
def tyX6 : Nat → FieldType := fun k => match k with
  | _ => .int
theorem nmX6 : ∀ a, a < 0 → ∀ b, b < 0 → a ≠ b → (TX6 a).2.1 ≠ (TX6 b).2.1 := by decide +kernel
theorem tyX6_ok : ∀ k, k < 0 → parseFieldDescriptor (TX6 k).2.2.1 = some (tyX6 k) := by decide +kernel
def RJ9 : String := "java/lang/Math"
def TJ9 : u_T := fun k => match k with
  | _ => ("", "", "", false)
def tyJ9 : Nat → FieldType := fun k => match k with
  | _ => .int
theorem nmJ9 : ∀ a, a < 0 → ∀ b, b < 0 → a ≠ b → (TJ9 a).2.1 ≠ (TJ9 b).2.1 := by decide +kernel
theorem tyJ9_ok : ∀ k, k < 0 → parseFieldDescriptor (TJ9 k).2.2.1 = some (tyJ9 k) := by decide +kernel
abbrev cJ9_max_7cf53 : ByteArray := prog_13_method_65_code
def yJ9_max_7cf53 : MethodName := ⟨RJ9, "max", "(II)I"⟩
def RJ0 : String := "java/lang/String"
def TJ0 : u_T := fun k => match k with
  | _ => ("", "", "", false)
def tyJ0 : Nat → FieldType := fun k => match k with
  | _ => .int
theorem nmJ0 : ∀ a, a < 0 → ∀ b, b < 0 → a ≠ b → (TJ0 a).2.1 ≠ (TJ0 b).2.1 := by decide +kernel
theorem tyJ0_ok : ∀ k, k < 0 → parseFieldDescriptor (TJ0 k).2.2.1 = some (tyJ0 k) := by decide +kernel
def RJ10 : String := "java/lang/System"
def TJ10 : u_T := fun k => match k with
  | _ => ("", "", "", false)
def tyJ10 : Nat → FieldType := fun k => match k with
  | _ => .int
theorem nmJ10 : ∀ a, a < 0 → ∀ b, b < 0 → a ≠ b → (TJ10 a).2.1 ≠ (TJ10 b).2.1 := by decide +kernel
theorem tyJ10_ok : ∀ k, k < 0 → parseFieldDescriptor (TJ10 k).2.2.1 = some (tyJ10 k) := by decide +kernel
def RL : String := "StampedSlotsLaw"
abbrev cL_part : ByteArray := method_2_code
def yL_part : MethodName := ⟨RL, "part", "(II)I"⟩
abbrev cL_drawn : ByteArray := method_3_code
def yL_drawn : MethodName := ⟨RL, "drawn", "([II)I"⟩
abbrev cL_call : ByteArray := method_4_code
def yL_call : MethodName := ⟨RL, "call", "(LStampedSlots;IIII)I"⟩
abbrev cL_refusesAny : ByteArray := method_5_code
def yL_refusesAny : MethodName := ⟨RL, "refusesAny", "(LStampedSlots;I)Z"⟩
abbrev cL_isRefused : ByteArray := method_6_code
def yL_isRefused : MethodName := ⟨RL, "isRefused", "(LStampedSlots;I)Z"⟩
abbrev cL_refused : ByteArray := method_7_code
def yL_refused : MethodName := ⟨RL, "refused", "(LStampedSlots;)Z"⟩
abbrev cL_row : ByteArray := method_8_code
def yL_row : MethodName := ⟨RL, "row", "()Z"⟩
abbrev cL_store : ByteArray := method_9_code
def yL_store : MethodName := ⟨RL, "store", "()Z"⟩
abbrev cL_isError : ByteArray := method_10_code
def yL_isError : MethodName := ⟨RL, "isError", "(LStampedSlots;JI)Z"⟩
abbrev cL_texts : ByteArray := method_11_code
def yL_texts : MethodName := ⟨RL, "texts", "()Z"⟩
abbrev cL_law : ByteArray := code
def yL_law : MethodName := ⟨RL, "law", "([I)Z"⟩
abbrev cL_seen : ByteArray := method_13_code
def yL_seen : MethodName := ⟨RL, "seen", "(LStampedSlots;)J"⟩
theorem dX0_init_0 : decode cX0_init 0 = .ok (.aload_n 0, 1) := by decide +kernel
theorem dX0_init_1 : decode cX0_init 1 = .ok (.invokespecial 3, 3) := by decide +kernel
theorem dX0_init_4 : decode cX0_init 4 = .ok (.aload_n 0, 1) := by decide +kernel
theorem dX0_init_5 : decode cX0_init 5 = .ok (.iconst 0, 1) := by decide +kernel
theorem dX0_init_6 : decode cX0_init 6 = .ok (.putfield 9, 3) := by decide +kernel
theorem dX0_init_9 : decode cX0_init 9 = .ok (.aload_n 0, 1) := by decide +kernel
theorem dX0_init_10 : decode cX0_init 10 = .ok (.bipush 6, 2) := by decide +kernel
theorem dX0_init_12 : decode cX0_init 12 = .ok (.anewarray 15, 3) := by decide +kernel
theorem dX0_init_15 : decode cX0_init 15 = .ok (.putfield 17, 3) := by decide +kernel
theorem dX0_init_18 : decode cX0_init 18 = .ok (.iconst 0, 1) := by decide +kernel
theorem dX0_init_19 : decode cX0_init 19 = .ok (.istore_n 1, 1) := by decide +kernel
theorem dX0_init_20 : decode cX0_init 20 = .ok (.iload_n 1, 1) := by decide +kernel
theorem dX0_init_21 : decode cX0_init 21 = .ok (.bipush 6, 2) := by decide +kernel
theorem dX0_init_23 : decode cX0_init 23 = .ok (.if_icmp .ge 22, 3) := by decide +kernel
theorem dX0_init_26 : decode cX0_init 26 = .ok (.aload_n 0, 1) := by decide +kernel
theorem dX0_init_27 : decode cX0_init 27 = .ok (.getfield 17, 3) := by decide +kernel
theorem dX0_init_30 : decode cX0_init 30 = .ok (.iload_n 1, 1) := by decide +kernel
theorem dX0_init_31 : decode cX0_init 31 = .ok (.new 15, 3) := by decide +kernel
theorem dX0_init_34 : decode cX0_init 34 = .ok (.dup, 1) := by decide +kernel
theorem dX0_init_35 : decode cX0_init 35 = .ok (.invokespecial 21, 3) := by decide +kernel
theorem dX0_init_38 : decode cX0_init 38 = .ok (.aastore, 1) := by decide +kernel
theorem dX0_init_39 : decode cX0_init 39 = .ok (.iinc 1 1, 3) := by decide +kernel
theorem dX0_init_42 : decode cX0_init 42 = .ok (.goto (-22), 3) := by decide +kernel
theorem dX0_init_45 : decode cX0_init 45 = .ok (.return_, 1) := by decide +kernel
theorem dX0_size_0 : decode cX0_size 0 = .ok (.aload_n 0, 1) := by decide +kernel
theorem dX0_size_1 : decode cX0_size 1 = .ok (.getfield 9, 3) := by decide +kernel
theorem dX0_size_4 : decode cX0_size 4 = .ok (.ireturn, 1) := by decide +kernel
theorem dX0_save_0 : decode cX0_save 0 = .ok (.aload_n 0, 1) := by decide +kernel
theorem dX0_save_1 : decode cX0_save 1 = .ok (.getfield 9, 3) := by decide +kernel
theorem dX0_save_4 : decode cX0_save 4 = .ok (.bipush 6, 2) := by decide +kernel
theorem dX0_save_6 : decode cX0_save 6 = .ok (.if_icmp .lt 7, 3) := by decide +kernel
theorem dX0_save_9 : decode cX0_save 9 = .ok (.aload_n 0, 1) := by decide +kernel
theorem dX0_save_10 : decode cX0_save 10 = .ok (.invokevirtual 22, 3) := by decide +kernel
theorem dX0_save_13 : decode cX0_save 13 = .ok (.aload_n 0, 1) := by decide +kernel
theorem dX0_save_14 : decode cX0_save 14 = .ok (.getfield 9, 3) := by decide +kernel
theorem dX0_save_17 : decode cX0_save 17 = .ok (.ifCond .lt 12, 3) := by decide +kernel
theorem dX0_save_20 : decode cX0_save 20 = .ok (.aload_n 0, 1) := by decide +kernel
theorem dX0_save_21 : decode cX0_save 21 = .ok (.getfield 9, 3) := by decide +kernel
theorem dX0_save_24 : decode cX0_save 24 = .ok (.bipush 6, 2) := by decide +kernel
theorem dX0_save_26 : decode cX0_save 26 = .ok (.if_icmp .lt 4, 3) := by decide +kernel
theorem dX0_save_29 : decode cX0_save 29 = .ok (.return_, 1) := by decide +kernel
theorem dX0_save_30 : decode cX0_save 30 = .ok (.aload_n 0, 1) := by decide +kernel
theorem dX0_save_31 : decode cX0_save 31 = .ok (.getfield 17, 3) := by decide +kernel
theorem dX0_save_34 : decode cX0_save 34 = .ok (.aload_n 0, 1) := by decide +kernel
theorem dX0_save_35 : decode cX0_save 35 = .ok (.getfield 9, 3) := by decide +kernel
theorem dX0_save_38 : decode cX0_save 38 = .ok (.aaload, 1) := by decide +kernel
theorem dX0_save_39 : decode cX0_save 39 = .ok (.astore_n 2, 1) := by decide +kernel
theorem dX0_save_40 : decode cX0_save 40 = .ok (.aload_n 2, 1) := by decide +kernel
theorem dX0_save_41 : decode cX0_save 41 = .ok (.ifnull 18, 3) := by decide +kernel
theorem dX0_save_44 : decode cX0_save 44 = .ok (.aload_n 2, 1) := by decide +kernel
theorem dX0_save_45 : decode cX0_save 45 = .ok (.aload_n 1, 1) := by decide +kernel
theorem dX0_save_46 : decode cX0_save 46 = .ok (.invokevirtual 25, 3) := by decide +kernel
theorem dX0_save_49 : decode cX0_save 49 = .ok (.aload_n 0, 1) := by decide +kernel
theorem dX0_save_50 : decode cX0_save 50 = .ok (.dup, 1) := by decide +kernel
theorem dX0_save_51 : decode cX0_save 51 = .ok (.getfield 9, 3) := by decide +kernel
theorem dX0_save_54 : decode cX0_save 54 = .ok (.iconst 1, 1) := by decide +kernel
theorem dX0_save_55 : decode cX0_save 55 = .ok (.iadd, 1) := by decide +kernel
theorem dX0_save_56 : decode cX0_save 56 = .ok (.putfield 9, 3) := by decide +kernel
theorem dX0_save_59 : decode cX0_save 59 = .ok (.return_, 1) := by decide +kernel
theorem dX0_dropOldest_0 : decode cX0_dropOldest 0 = .ok (.aload_n 0, 1) := by decide +kernel
theorem dX0_dropOldest_1 : decode cX0_dropOldest 1 = .ok (.getfield 17, 3) := by decide +kernel
theorem dX0_dropOldest_4 : decode cX0_dropOldest 4 = .ok (.iconst 0, 1) := by decide +kernel
theorem dX0_dropOldest_5 : decode cX0_dropOldest 5 = .ok (.aaload, 1) := by decide +kernel
theorem dX0_dropOldest_6 : decode cX0_dropOldest 6 = .ok (.astore_n 1, 1) := by decide +kernel
theorem dX0_dropOldest_7 : decode cX0_dropOldest 7 = .ok (.iconst 1, 1) := by decide +kernel
theorem dX0_dropOldest_8 : decode cX0_dropOldest 8 = .ok (.istore_n 2, 1) := by decide +kernel
theorem dX0_dropOldest_9 : decode cX0_dropOldest 9 = .ok (.iload_n 2, 1) := by decide +kernel
theorem dX0_dropOldest_10 : decode cX0_dropOldest 10 = .ok (.bipush 6, 2) := by decide +kernel
theorem dX0_dropOldest_12 : decode cX0_dropOldest 12 = .ok (.if_icmp .ge 23, 3) := by decide +kernel
theorem dX0_dropOldest_15 : decode cX0_dropOldest 15 = .ok (.aload_n 0, 1) := by decide +kernel
theorem dX0_dropOldest_16 : decode cX0_dropOldest 16 = .ok (.getfield 17, 3) := by decide +kernel
theorem dX0_dropOldest_19 : decode cX0_dropOldest 19 = .ok (.iload_n 2, 1) := by decide +kernel
theorem dX0_dropOldest_20 : decode cX0_dropOldest 20 = .ok (.iconst 1, 1) := by decide +kernel
theorem dX0_dropOldest_21 : decode cX0_dropOldest 21 = .ok (.isub, 1) := by decide +kernel
theorem dX0_dropOldest_22 : decode cX0_dropOldest 22 = .ok (.aload_n 0, 1) := by decide +kernel
theorem dX0_dropOldest_23 : decode cX0_dropOldest 23 = .ok (.getfield 17, 3) := by decide +kernel
theorem dX0_dropOldest_26 : decode cX0_dropOldest 26 = .ok (.iload_n 2, 1) := by decide +kernel
theorem dX0_dropOldest_27 : decode cX0_dropOldest 27 = .ok (.aaload, 1) := by decide +kernel
theorem dX0_dropOldest_28 : decode cX0_dropOldest 28 = .ok (.aastore, 1) := by decide +kernel
theorem dX0_dropOldest_29 : decode cX0_dropOldest 29 = .ok (.iinc 2 1, 3) := by decide +kernel
theorem dX0_dropOldest_32 : decode cX0_dropOldest 32 = .ok (.goto (-23), 3) := by decide +kernel
theorem dX0_dropOldest_35 : decode cX0_dropOldest 35 = .ok (.aload_n 0, 1) := by decide +kernel
theorem dX0_dropOldest_36 : decode cX0_dropOldest 36 = .ok (.getfield 17, 3) := by decide +kernel
theorem dX0_dropOldest_39 : decode cX0_dropOldest 39 = .ok (.iconst 5, 1) := by decide +kernel
theorem dX0_dropOldest_40 : decode cX0_dropOldest 40 = .ok (.aload_n 1, 1) := by decide +kernel
theorem dX0_dropOldest_41 : decode cX0_dropOldest 41 = .ok (.aastore, 1) := by decide +kernel
theorem dX0_dropOldest_42 : decode cX0_dropOldest 42 = .ok (.aload_n 0, 1) := by decide +kernel
theorem dX0_dropOldest_43 : decode cX0_dropOldest 43 = .ok (.iconst 5, 1) := by decide +kernel
theorem dX0_dropOldest_44 : decode cX0_dropOldest 44 = .ok (.putfield 9, 3) := by decide +kernel
theorem dX0_dropOldest_47 : decode cX0_dropOldest 47 = .ok (.return_, 1) := by decide +kernel
theorem dX0_bringBack_0 : decode cX0_bringBack 0 = .ok (.aload_n 0, 1) := by decide +kernel
theorem dX0_bringBack_1 : decode cX0_bringBack 1 = .ok (.getfield 9, 3) := by decide +kernel
theorem dX0_bringBack_4 : decode cX0_bringBack 4 = .ok (.iconst 1, 1) := by decide +kernel
theorem dX0_bringBack_5 : decode cX0_bringBack 5 = .ok (.if_icmp .lt 12, 3) := by decide +kernel
theorem dX0_bringBack_8 : decode cX0_bringBack 8 = .ok (.aload_n 0, 1) := by decide +kernel
theorem dX0_bringBack_9 : decode cX0_bringBack 9 = .ok (.getfield 9, 3) := by decide +kernel
theorem dX0_bringBack_12 : decode cX0_bringBack 12 = .ok (.bipush 6, 2) := by decide +kernel
theorem dX0_bringBack_14 : decode cX0_bringBack 14 = .ok (.if_icmp .le 4, 3) := by decide +kernel
theorem dX0_bringBack_17 : decode cX0_bringBack 17 = .ok (.return_, 1) := by decide +kernel
theorem dX0_bringBack_18 : decode cX0_bringBack 18 = .ok (.aload_n 0, 1) := by decide +kernel
theorem dX0_bringBack_19 : decode cX0_bringBack 19 = .ok (.dup, 1) := by decide +kernel
theorem dX0_bringBack_20 : decode cX0_bringBack 20 = .ok (.getfield 9, 3) := by decide +kernel
theorem dX0_bringBack_23 : decode cX0_bringBack 23 = .ok (.iconst 1, 1) := by decide +kernel
theorem dX0_bringBack_24 : decode cX0_bringBack 24 = .ok (.isub, 1) := by decide +kernel
theorem dX0_bringBack_25 : decode cX0_bringBack 25 = .ok (.putfield 9, 3) := by decide +kernel
theorem dX0_bringBack_28 : decode cX0_bringBack 28 = .ok (.aload_n 0, 1) := by decide +kernel
theorem dX0_bringBack_29 : decode cX0_bringBack 29 = .ok (.getfield 17, 3) := by decide +kernel
theorem dX0_bringBack_32 : decode cX0_bringBack 32 = .ok (.aload_n 0, 1) := by decide +kernel
theorem dX0_bringBack_33 : decode cX0_bringBack 33 = .ok (.getfield 9, 3) := by decide +kernel
theorem dX0_bringBack_36 : decode cX0_bringBack 36 = .ok (.aaload, 1) := by decide +kernel
theorem dX0_bringBack_37 : decode cX0_bringBack 37 = .ok (.astore_n 2, 1) := by decide +kernel
theorem dX0_bringBack_38 : decode cX0_bringBack 38 = .ok (.aload_n 2, 1) := by decide +kernel
theorem dX0_bringBack_39 : decode cX0_bringBack 39 = .ok (.ifnull 8, 3) := by decide +kernel
theorem dX0_bringBack_42 : decode cX0_bringBack 42 = .ok (.aload_n 1, 1) := by decide +kernel
theorem dX0_bringBack_43 : decode cX0_bringBack 43 = .ok (.aload_n 2, 1) := by decide +kernel
theorem dX0_bringBack_44 : decode cX0_bringBack 44 = .ok (.invokevirtual 25, 3) := by decide +kernel
theorem dX0_bringBack_47 : decode cX0_bringBack 47 = .ok (.return_, 1) := by decide +kernel
theorem dX1_init_0 : decode cX1_init 0 = .ok (.aload_n 0, 1) := by decide +kernel
theorem dX1_init_1 : decode cX1_init 1 = .ok (.invokespecial 3, 3) := by decide +kernel
theorem dX1_init_4 : decode cX1_init 4 = .ok (.aload_n 0, 1) := by decide +kernel
theorem dX1_init_5 : decode cX1_init 5 = .ok (.iconst 0, 1) := by decide +kernel
theorem dX1_init_6 : decode cX1_init 6 = .ok (.putfield 9, 3) := by decide +kernel
theorem dX1_init_9 : decode cX1_init 9 = .ok (.aload_n 0, 1) := by decide +kernel
theorem dX1_init_10 : decode cX1_init 10 = .ok (.bipush 68, 2) := by decide +kernel
theorem dX1_init_12 : decode cX1_init 12 = .ok (.newarray .int, 2) := by decide +kernel
theorem dX1_init_14 : decode cX1_init 14 = .ok (.putfield 15, 3) := by decide +kernel
theorem dX1_init_17 : decode cX1_init 17 = .ok (.aload_n 0, 1) := by decide +kernel
theorem dX1_init_18 : decode cX1_init 18 = .ok (.iconst 4, 1) := by decide +kernel
theorem dX1_init_19 : decode cX1_init 19 = .ok (.newarray .int, 2) := by decide +kernel
theorem dX1_init_21 : decode cX1_init 21 = .ok (.putfield 19, 3) := by decide +kernel
theorem dX1_init_24 : decode cX1_init 24 = .ok (.iconst 0, 1) := by decide +kernel
theorem dX1_init_25 : decode cX1_init 25 = .ok (.istore_n 1, 1) := by decide +kernel
theorem dX1_init_26 : decode cX1_init 26 = .ok (.iload_n 1, 1) := by decide +kernel
theorem dX1_init_27 : decode cX1_init 27 = .ok (.iconst 4, 1) := by decide +kernel
theorem dX1_init_28 : decode cX1_init 28 = .ok (.if_icmp .ge 16, 3) := by decide +kernel
theorem dX1_init_31 : decode cX1_init 31 = .ok (.aload_n 0, 1) := by decide +kernel
theorem dX1_init_32 : decode cX1_init 32 = .ok (.getfield 19, 3) := by decide +kernel
theorem dX1_init_35 : decode cX1_init 35 = .ok (.iload_n 1, 1) := by decide +kernel
theorem dX1_init_36 : decode cX1_init 36 = .ok (.iconst (-1), 1) := by decide +kernel
theorem dX1_init_37 : decode cX1_init 37 = .ok (.iastore, 1) := by decide +kernel
theorem dX1_init_38 : decode cX1_init 38 = .ok (.iinc 1 1, 3) := by decide +kernel
theorem dX1_init_41 : decode cX1_init 41 = .ok (.goto (-15), 3) := by decide +kernel
theorem dX1_init_44 : decode cX1_init 44 = .ok (.return_, 1) := by decide +kernel
theorem dX1_copyFrom_0 : decode cX1_copyFrom 0 = .ok (.aload_n 0, 1) := by decide +kernel
theorem dX1_copyFrom_1 : decode cX1_copyFrom 1 = .ok (.aload_n 1, 1) := by decide +kernel
theorem dX1_copyFrom_2 : decode cX1_copyFrom 2 = .ok (.getfield 9, 3) := by decide +kernel
theorem dX1_copyFrom_5 : decode cX1_copyFrom 5 = .ok (.putfield 9, 3) := by decide +kernel
theorem dX1_copyFrom_8 : decode cX1_copyFrom 8 = .ok (.aload_n 1, 1) := by decide +kernel
theorem dX1_copyFrom_9 : decode cX1_copyFrom 9 = .ok (.getfield 15, 3) := by decide +kernel
theorem dX1_copyFrom_12 : decode cX1_copyFrom 12 = .ok (.iconst 0, 1) := by decide +kernel
theorem dX1_copyFrom_13 : decode cX1_copyFrom 13 = .ok (.aload_n 0, 1) := by decide +kernel
theorem dX1_copyFrom_14 : decode cX1_copyFrom 14 = .ok (.getfield 15, 3) := by decide +kernel
theorem dX1_copyFrom_17 : decode cX1_copyFrom 17 = .ok (.iconst 0, 1) := by decide +kernel
theorem dX1_copyFrom_18 : decode cX1_copyFrom 18 = .ok (.bipush 68, 2) := by decide +kernel
theorem dX1_copyFrom_20 : decode cX1_copyFrom 20 = .ok (.invokestatic 22, 3) := by decide +kernel
theorem dX1_copyFrom_23 : decode cX1_copyFrom 23 = .ok (.aload_n 1, 1) := by decide +kernel
theorem dX1_copyFrom_24 : decode cX1_copyFrom 24 = .ok (.getfield 19, 3) := by decide +kernel
theorem dX1_copyFrom_27 : decode cX1_copyFrom 27 = .ok (.iconst 0, 1) := by decide +kernel
theorem dX1_copyFrom_28 : decode cX1_copyFrom 28 = .ok (.aload_n 0, 1) := by decide +kernel
theorem dX1_copyFrom_29 : decode cX1_copyFrom 29 = .ok (.getfield 19, 3) := by decide +kernel
theorem dX1_copyFrom_32 : decode cX1_copyFrom 32 = .ok (.iconst 0, 1) := by decide +kernel
theorem dX1_copyFrom_33 : decode cX1_copyFrom 33 = .ok (.iconst 4, 1) := by decide +kernel
theorem dX1_copyFrom_34 : decode cX1_copyFrom 34 = .ok (.invokestatic 22, 3) := by decide +kernel
theorem dX1_copyFrom_37 : decode cX1_copyFrom 37 = .ok (.return_, 1) := by decide +kernel
theorem dX1_size_0 : decode cX1_size 0 = .ok (.aload_n 0, 1) := by decide +kernel
theorem dX1_size_1 : decode cX1_size 1 = .ok (.getfield 9, 3) := by decide +kernel
theorem dX1_size_4 : decode cX1_size 4 = .ok (.ireturn, 1) := by decide +kernel
theorem dX1_isEntry_0 : decode cX1_isEntry 0 = .ok (.iload_n 1, 1) := by decide +kernel
theorem dX1_isEntry_1 : decode cX1_isEntry 1 = .ok (.ifCond .lt 21, 3) := by decide +kernel
theorem dX1_isEntry_4 : decode cX1_isEntry 4 = .ok (.iload_n 1, 1) := by decide +kernel
theorem dX1_isEntry_5 : decode cX1_isEntry 5 = .ok (.aload_n 0, 1) := by decide +kernel
theorem dX1_isEntry_6 : decode cX1_isEntry 6 = .ok (.getfield 9, 3) := by decide +kernel
theorem dX1_isEntry_9 : decode cX1_isEntry 9 = .ok (.if_icmp .ge 13, 3) := by decide +kernel
theorem dX1_isEntry_12 : decode cX1_isEntry 12 = .ok (.iload_n 1, 1) := by decide +kernel
theorem dX1_isEntry_13 : decode cX1_isEntry 13 = .ok (.bipush 68, 2) := by decide +kernel
theorem dX1_isEntry_15 : decode cX1_isEntry 15 = .ok (.if_icmp .ge 7, 3) := by decide +kernel
theorem dX1_isEntry_18 : decode cX1_isEntry 18 = .ok (.iconst 1, 1) := by decide +kernel
theorem dX1_isEntry_19 : decode cX1_isEntry 19 = .ok (.goto 4, 3) := by decide +kernel
theorem dX1_isEntry_22 : decode cX1_isEntry 22 = .ok (.iconst 0, 1) := by decide +kernel
theorem dX1_isEntry_23 : decode cX1_isEntry 23 = .ok (.ireturn, 1) := by decide +kernel
theorem dX1_thingIn_0 : decode cX1_thingIn 0 = .ok (.aload_n 0, 1) := by decide +kernel
theorem dX1_thingIn_1 : decode cX1_thingIn 1 = .ok (.iload_n 1, 1) := by decide +kernel
theorem dX1_thingIn_2 : decode cX1_thingIn 2 = .ok (.invokevirtual 28, 3) := by decide +kernel
theorem dX1_thingIn_5 : decode cX1_thingIn 5 = .ok (.ifCond .eq 12, 3) := by decide +kernel
theorem dX1_thingIn_8 : decode cX1_thingIn 8 = .ok (.aload_n 0, 1) := by decide +kernel
theorem dX1_thingIn_9 : decode cX1_thingIn 9 = .ok (.getfield 15, 3) := by decide +kernel
theorem dX1_thingIn_12 : decode cX1_thingIn 12 = .ok (.iload_n 1, 1) := by decide +kernel
theorem dX1_thingIn_13 : decode cX1_thingIn 13 = .ok (.iaload, 1) := by decide +kernel
theorem dX1_thingIn_14 : decode cX1_thingIn 14 = .ok (.goto 4, 3) := by decide +kernel
theorem dX1_thingIn_17 : decode cX1_thingIn 17 = .ok (.iconst (-1), 1) := by decide +kernel
theorem dX1_thingIn_18 : decode cX1_thingIn 18 = .ok (.ireturn, 1) := by decide +kernel
theorem dX1_things_0 : decode cX1_things 0 = .ok (.aload_n 0, 1) := by decide +kernel
theorem dX1_things_1 : decode cX1_things 1 = .ok (.iconst 0, 1) := by decide +kernel
theorem dX1_things_2 : decode cX1_things 2 = .ok (.invokevirtual 32, 3) := by decide +kernel
theorem dX1_things_5 : decode cX1_things 5 = .ok (.ireturn, 1) := by decide +kernel
theorem dX1_tombstones_0 : decode cX1_tombstones 0 = .ok (.aload_n 0, 1) := by decide +kernel
theorem dX1_tombstones_1 : decode cX1_tombstones 1 = .ok (.getfield 9, 3) := by decide +kernel
theorem dX1_tombstones_4 : decode cX1_tombstones 4 = .ok (.aload_n 0, 1) := by decide +kernel
theorem dX1_tombstones_5 : decode cX1_tombstones 5 = .ok (.invokevirtual 36, 3) := by decide +kernel
theorem dX1_tombstones_8 : decode cX1_tombstones 8 = .ok (.isub, 1) := by decide +kernel
theorem dX1_tombstones_9 : decode cX1_tombstones 9 = .ok (.ireturn, 1) := by decide +kernel
theorem dX1_thingsFrom_0 : decode cX1_thingsFrom 0 = .ok (.iconst 0, 1) := by decide +kernel
theorem dX1_thingsFrom_1 : decode cX1_thingsFrom 1 = .ok (.istore_n 2, 1) := by decide +kernel
theorem dX1_thingsFrom_2 : decode cX1_thingsFrom 2 = .ok (.iload_n 1, 1) := by decide +kernel
theorem dX1_thingsFrom_3 : decode cX1_thingsFrom 3 = .ok (.iconst 0, 1) := by decide +kernel
theorem dX1_thingsFrom_4 : decode cX1_thingsFrom 4 = .ok (.invokestatic 40, 3) := by decide +kernel
theorem dX1_thingsFrom_7 : decode cX1_thingsFrom 7 = .ok (.istore_n 3, 1) := by decide +kernel
theorem dX1_thingsFrom_8 : decode cX1_thingsFrom 8 = .ok (.iload_n 3, 1) := by decide +kernel
theorem dX1_thingsFrom_9 : decode cX1_thingsFrom 9 = .ok (.aload_n 0, 1) := by decide +kernel
theorem dX1_thingsFrom_10 : decode cX1_thingsFrom 10 = .ok (.getfield 9, 3) := by decide +kernel
theorem dX1_thingsFrom_13 : decode cX1_thingsFrom 13 = .ok (.if_icmp .ge 21, 3) := by decide +kernel
theorem dX1_thingsFrom_16 : decode cX1_thingsFrom 16 = .ok (.aload_n 0, 1) := by decide +kernel
theorem dX1_thingsFrom_17 : decode cX1_thingsFrom 17 = .ok (.iload_n 3, 1) := by decide +kernel
theorem dX1_thingsFrom_18 : decode cX1_thingsFrom 18 = .ok (.invokevirtual 46, 3) := by decide +kernel
theorem dX1_thingsFrom_21 : decode cX1_thingsFrom 21 = .ok (.iconst (-1), 1) := by decide +kernel
theorem dX1_thingsFrom_22 : decode cX1_thingsFrom 22 = .ok (.if_icmp .eq 6, 3) := by decide +kernel
theorem dX1_thingsFrom_25 : decode cX1_thingsFrom 25 = .ok (.iinc 2 1, 3) := by decide +kernel
theorem dX1_thingsFrom_28 : decode cX1_thingsFrom 28 = .ok (.iinc 3 1, 3) := by decide +kernel
theorem dX1_thingsFrom_31 : decode cX1_thingsFrom 31 = .ok (.goto (-23), 3) := by decide +kernel
theorem dX1_thingsFrom_34 : decode cX1_thingsFrom 34 = .ok (.iload_n 2, 1) := by decide +kernel
theorem dX1_thingsFrom_35 : decode cX1_thingsFrom 35 = .ok (.ireturn, 1) := by decide +kernel
theorem dX1_thingAtPlace_0 : decode cX1_thingAtPlace 0 = .ok (.iconst 0, 1) := by decide +kernel
theorem dX1_thingAtPlace_1 : decode cX1_thingAtPlace 1 = .ok (.istore_n 2, 1) := by decide +kernel
theorem dX1_thingAtPlace_2 : decode cX1_thingAtPlace 2 = .ok (.iconst 0, 1) := by decide +kernel
theorem dX1_thingAtPlace_3 : decode cX1_thingAtPlace 3 = .ok (.istore_n 3, 1) := by decide +kernel
theorem dX1_thingAtPlace_4 : decode cX1_thingAtPlace 4 = .ok (.iload_n 3, 1) := by decide +kernel
theorem dX1_thingAtPlace_5 : decode cX1_thingAtPlace 5 = .ok (.aload_n 0, 1) := by decide +kernel
theorem dX1_thingAtPlace_6 : decode cX1_thingAtPlace 6 = .ok (.getfield 9, 3) := by decide +kernel
theorem dX1_thingAtPlace_9 : decode cX1_thingAtPlace 9 = .ok (.if_icmp .ge 33, 3) := by decide +kernel
theorem dX1_thingAtPlace_12 : decode cX1_thingAtPlace 12 = .ok (.aload_n 0, 1) := by decide +kernel
theorem dX1_thingAtPlace_13 : decode cX1_thingAtPlace 13 = .ok (.iload_n 3, 1) := by decide +kernel
theorem dX1_thingAtPlace_14 : decode cX1_thingAtPlace 14 = .ok (.invokevirtual 46, 3) := by decide +kernel
theorem dX1_thingAtPlace_17 : decode cX1_thingAtPlace 17 = .ok (.istore 4, 2) := by decide +kernel
theorem dX1_thingAtPlace_19 : decode cX1_thingAtPlace 19 = .ok (.iload 4, 2) := by decide +kernel
theorem dX1_thingAtPlace_21 : decode cX1_thingAtPlace 21 = .ok (.iconst (-1), 1) := by decide +kernel
theorem dX1_thingAtPlace_22 : decode cX1_thingAtPlace 22 = .ok (.if_icmp .eq 14, 3) := by decide +kernel
theorem dX1_thingAtPlace_25 : decode cX1_thingAtPlace 25 = .ok (.iload_n 2, 1) := by decide +kernel
theorem dX1_thingAtPlace_26 : decode cX1_thingAtPlace 26 = .ok (.iload_n 1, 1) := by decide +kernel
theorem dX1_thingAtPlace_27 : decode cX1_thingAtPlace 27 = .ok (.if_icmp .ne 6, 3) := by decide +kernel
theorem dX1_thingAtPlace_30 : decode cX1_thingAtPlace 30 = .ok (.iload 4, 2) := by decide +kernel
theorem dX1_thingAtPlace_32 : decode cX1_thingAtPlace 32 = .ok (.ireturn, 1) := by decide +kernel
theorem dX1_thingAtPlace_33 : decode cX1_thingAtPlace 33 = .ok (.iinc 2 1, 3) := by decide +kernel
theorem dX1_thingAtPlace_36 : decode cX1_thingAtPlace 36 = .ok (.iinc 3 1, 3) := by decide +kernel
theorem dX1_thingAtPlace_39 : decode cX1_thingAtPlace 39 = .ok (.goto (-35), 3) := by decide +kernel
theorem dX1_thingAtPlace_42 : decode cX1_thingAtPlace 42 = .ok (.iconst (-1), 1) := by decide +kernel
theorem dX1_thingAtPlace_43 : decode cX1_thingAtPlace 43 = .ok (.ireturn, 1) := by decide +kernel
theorem dX1_placeOf_0 : decode cX1_placeOf 0 = .ok (.iconst 0, 1) := by decide +kernel
theorem dX1_placeOf_1 : decode cX1_placeOf 1 = .ok (.istore_n 2, 1) := by decide +kernel
theorem dX1_placeOf_2 : decode cX1_placeOf 2 = .ok (.iconst 0, 1) := by decide +kernel
theorem dX1_placeOf_3 : decode cX1_placeOf 3 = .ok (.istore_n 3, 1) := by decide +kernel
theorem dX1_placeOf_4 : decode cX1_placeOf 4 = .ok (.iload_n 3, 1) := by decide +kernel
theorem dX1_placeOf_5 : decode cX1_placeOf 5 = .ok (.aload_n 0, 1) := by decide +kernel
theorem dX1_placeOf_6 : decode cX1_placeOf 6 = .ok (.getfield 9, 3) := by decide +kernel
theorem dX1_placeOf_9 : decode cX1_placeOf 9 = .ok (.if_icmp .ge 30, 3) := by decide +kernel
theorem dX1_placeOf_12 : decode cX1_placeOf 12 = .ok (.aload_n 0, 1) := by decide +kernel
theorem dX1_placeOf_13 : decode cX1_placeOf 13 = .ok (.iload_n 3, 1) := by decide +kernel
theorem dX1_placeOf_14 : decode cX1_placeOf 14 = .ok (.invokevirtual 46, 3) := by decide +kernel
theorem dX1_placeOf_17 : decode cX1_placeOf 17 = .ok (.iload_n 1, 1) := by decide +kernel
theorem dX1_placeOf_18 : decode cX1_placeOf 18 = .ok (.if_icmp .eq 21, 3) := by decide +kernel
theorem dX1_placeOf_21 : decode cX1_placeOf 21 = .ok (.aload_n 0, 1) := by decide +kernel
theorem dX1_placeOf_22 : decode cX1_placeOf 22 = .ok (.iload_n 3, 1) := by decide +kernel
theorem dX1_placeOf_23 : decode cX1_placeOf 23 = .ok (.invokevirtual 46, 3) := by decide +kernel
theorem dX1_placeOf_26 : decode cX1_placeOf 26 = .ok (.iconst (-1), 1) := by decide +kernel
theorem dX1_placeOf_27 : decode cX1_placeOf 27 = .ok (.if_icmp .eq 6, 3) := by decide +kernel
theorem dX1_placeOf_30 : decode cX1_placeOf 30 = .ok (.iinc 2 1, 3) := by decide +kernel
theorem dX1_placeOf_33 : decode cX1_placeOf 33 = .ok (.iinc 3 1, 3) := by decide +kernel
theorem dX1_placeOf_36 : decode cX1_placeOf 36 = .ok (.goto (-32), 3) := by decide +kernel
theorem dX1_placeOf_39 : decode cX1_placeOf 39 = .ok (.iload_n 2, 1) := by decide +kernel
theorem dX1_placeOf_40 : decode cX1_placeOf 40 = .ok (.ireturn, 1) := by decide +kernel
theorem dX1_indexOf_0 : decode cX1_indexOf 0 = .ok (.iconst 0, 1) := by decide +kernel
theorem dX1_indexOf_1 : decode cX1_indexOf 1 = .ok (.istore_n 2, 1) := by decide +kernel
theorem dX1_indexOf_2 : decode cX1_indexOf 2 = .ok (.iload_n 2, 1) := by decide +kernel
theorem dX1_indexOf_3 : decode cX1_indexOf 3 = .ok (.aload_n 0, 1) := by decide +kernel
theorem dX1_indexOf_4 : decode cX1_indexOf 4 = .ok (.getfield 9, 3) := by decide +kernel
theorem dX1_indexOf_7 : decode cX1_indexOf 7 = .ok (.if_icmp .ge 20, 3) := by decide +kernel
theorem dX1_indexOf_10 : decode cX1_indexOf 10 = .ok (.aload_n 0, 1) := by decide +kernel
theorem dX1_indexOf_11 : decode cX1_indexOf 11 = .ok (.iload_n 2, 1) := by decide +kernel
theorem dX1_indexOf_12 : decode cX1_indexOf 12 = .ok (.invokevirtual 46, 3) := by decide +kernel
theorem dX1_indexOf_15 : decode cX1_indexOf 15 = .ok (.iload_n 1, 1) := by decide +kernel
theorem dX1_indexOf_16 : decode cX1_indexOf 16 = .ok (.if_icmp .ne 5, 3) := by decide +kernel
theorem dX1_indexOf_19 : decode cX1_indexOf 19 = .ok (.iload_n 2, 1) := by decide +kernel
theorem dX1_indexOf_20 : decode cX1_indexOf 20 = .ok (.ireturn, 1) := by decide +kernel
theorem dX1_indexOf_21 : decode cX1_indexOf 21 = .ok (.iinc 2 1, 3) := by decide +kernel
theorem dX1_indexOf_24 : decode cX1_indexOf 24 = .ok (.goto (-22), 3) := by decide +kernel
theorem dX1_indexOf_27 : decode cX1_indexOf 27 = .ok (.aload_n 0, 1) := by decide +kernel
theorem dX1_indexOf_28 : decode cX1_indexOf 28 = .ok (.getfield 9, 3) := by decide +kernel
theorem dX1_indexOf_31 : decode cX1_indexOf 31 = .ok (.ireturn, 1) := by decide +kernel
theorem dX1_list_0 : decode cX1_list 0 = .ok (.iconst 0, 1) := by decide +kernel
theorem dX1_list_1 : decode cX1_list 1 = .ok (.istore_n 2, 1) := by decide +kernel
theorem dX1_list_2 : decode cX1_list 2 = .ok (.iconst 0, 1) := by decide +kernel
theorem dX1_list_3 : decode cX1_list 3 = .ok (.istore_n 3, 1) := by decide +kernel
theorem dX1_list_4 : decode cX1_list 4 = .ok (.iload_n 3, 1) := by decide +kernel
theorem dX1_list_5 : decode cX1_list 5 = .ok (.aload_n 0, 1) := by decide +kernel
theorem dX1_list_6 : decode cX1_list 6 = .ok (.getfield 9, 3) := by decide +kernel
theorem dX1_list_9 : decode cX1_list 9 = .ok (.if_icmp .ge 36, 3) := by decide +kernel
theorem dX1_list_12 : decode cX1_list 12 = .ok (.aload_n 0, 1) := by decide +kernel
theorem dX1_list_13 : decode cX1_list 13 = .ok (.iload_n 3, 1) := by decide +kernel
theorem dX1_list_14 : decode cX1_list 14 = .ok (.invokevirtual 46, 3) := by decide +kernel
theorem dX1_list_17 : decode cX1_list 17 = .ok (.istore 4, 2) := by decide +kernel
theorem dX1_list_19 : decode cX1_list 19 = .ok (.iload 4, 2) := by decide +kernel
theorem dX1_list_21 : decode cX1_list 21 = .ok (.iconst (-1), 1) := by decide +kernel
theorem dX1_list_22 : decode cX1_list 22 = .ok (.if_icmp .eq 17, 3) := by decide +kernel
theorem dX1_list_25 : decode cX1_list 25 = .ok (.iload_n 2, 1) := by decide +kernel
theorem dX1_list_26 : decode cX1_list 26 = .ok (.aload_n 1, 1) := by decide +kernel
theorem dX1_list_27 : decode cX1_list 27 = .ok (.arraylength, 1) := by decide +kernel
theorem dX1_list_28 : decode cX1_list 28 = .ok (.if_icmp .ge 11, 3) := by decide +kernel
theorem dX1_list_31 : decode cX1_list 31 = .ok (.aload_n 1, 1) := by decide +kernel
theorem dX1_list_32 : decode cX1_list 32 = .ok (.iload_n 2, 1) := by decide +kernel
theorem dX1_list_33 : decode cX1_list 33 = .ok (.iload 4, 2) := by decide +kernel
theorem dX1_list_35 : decode cX1_list 35 = .ok (.iastore, 1) := by decide +kernel
theorem dX1_list_36 : decode cX1_list 36 = .ok (.iinc 2 1, 3) := by decide +kernel
theorem dX1_list_39 : decode cX1_list 39 = .ok (.iinc 3 1, 3) := by decide +kernel
theorem dX1_list_42 : decode cX1_list 42 = .ok (.goto (-38), 3) := by decide +kernel
theorem dX1_list_45 : decode cX1_list 45 = .ok (.iload_n 2, 1) := by decide +kernel
theorem dX1_list_46 : decode cX1_list 46 = .ok (.ireturn, 1) := by decide +kernel
theorem dX1_insert_0 : decode cX1_insert 0 = .ok (.iload_n 1, 1) := by decide +kernel
theorem dX1_insert_1 : decode cX1_insert 1 = .ok (.ifCond .lt 20, 3) := by decide +kernel
theorem dX1_insert_4 : decode cX1_insert 4 = .ok (.iload_n 1, 1) := by decide +kernel
theorem dX1_insert_5 : decode cX1_insert 5 = .ok (.aload_n 0, 1) := by decide +kernel
theorem dX1_insert_6 : decode cX1_insert 6 = .ok (.getfield 9, 3) := by decide +kernel
theorem dX1_insert_9 : decode cX1_insert 9 = .ok (.if_icmp .gt 12, 3) := by decide +kernel
theorem dX1_insert_12 : decode cX1_insert 12 = .ok (.aload_n 0, 1) := by decide +kernel
theorem dX1_insert_13 : decode cX1_insert 13 = .ok (.getfield 9, 3) := by decide +kernel
theorem dX1_insert_16 : decode cX1_insert 16 = .ok (.bipush 68, 2) := by decide +kernel
theorem dX1_insert_18 : decode cX1_insert 18 = .ok (.if_icmp .lt 4, 3) := by decide +kernel
theorem dX1_insert_21 : decode cX1_insert 21 = .ok (.return_, 1) := by decide +kernel
theorem dX1_insert_22 : decode cX1_insert 22 = .ok (.aload_n 0, 1) := by decide +kernel
theorem dX1_insert_23 : decode cX1_insert 23 = .ok (.getfield 15, 3) := by decide +kernel
theorem dX1_insert_26 : decode cX1_insert 26 = .ok (.iload_n 1, 1) := by decide +kernel
theorem dX1_insert_27 : decode cX1_insert 27 = .ok (.aload_n 0, 1) := by decide +kernel
theorem dX1_insert_28 : decode cX1_insert 28 = .ok (.getfield 15, 3) := by decide +kernel
theorem dX1_insert_31 : decode cX1_insert 31 = .ok (.iload_n 1, 1) := by decide +kernel
theorem dX1_insert_32 : decode cX1_insert 32 = .ok (.iconst 1, 1) := by decide +kernel
theorem dX1_insert_33 : decode cX1_insert 33 = .ok (.iadd, 1) := by decide +kernel
theorem dX1_insert_34 : decode cX1_insert 34 = .ok (.aload_n 0, 1) := by decide +kernel
theorem dX1_insert_35 : decode cX1_insert 35 = .ok (.getfield 9, 3) := by decide +kernel
theorem dX1_insert_38 : decode cX1_insert 38 = .ok (.iload_n 1, 1) := by decide +kernel
theorem dX1_insert_39 : decode cX1_insert 39 = .ok (.isub, 1) := by decide +kernel
theorem dX1_insert_40 : decode cX1_insert 40 = .ok (.invokestatic 22, 3) := by decide +kernel
theorem dX1_insert_43 : decode cX1_insert 43 = .ok (.aload_n 0, 1) := by decide +kernel
theorem dX1_insert_44 : decode cX1_insert 44 = .ok (.getfield 15, 3) := by decide +kernel
theorem dX1_insert_47 : decode cX1_insert 47 = .ok (.iload_n 1, 1) := by decide +kernel
theorem dX1_insert_48 : decode cX1_insert 48 = .ok (.iload_n 2, 1) := by decide +kernel
theorem dX1_insert_49 : decode cX1_insert 49 = .ok (.iastore, 1) := by decide +kernel
theorem dX1_insert_50 : decode cX1_insert 50 = .ok (.aload_n 0, 1) := by decide +kernel
theorem dX1_insert_51 : decode cX1_insert 51 = .ok (.dup, 1) := by decide +kernel
theorem dX1_insert_52 : decode cX1_insert 52 = .ok (.getfield 9, 3) := by decide +kernel
theorem dX1_insert_55 : decode cX1_insert 55 = .ok (.iconst 1, 1) := by decide +kernel
theorem dX1_insert_56 : decode cX1_insert 56 = .ok (.iadd, 1) := by decide +kernel
theorem dX1_insert_57 : decode cX1_insert 57 = .ok (.putfield 9, 3) := by decide +kernel
theorem dX1_insert_60 : decode cX1_insert 60 = .ok (.iconst 0, 1) := by decide +kernel
theorem dX1_insert_61 : decode cX1_insert 61 = .ok (.istore_n 3, 1) := by decide +kernel
theorem dX1_insert_62 : decode cX1_insert 62 = .ok (.iload_n 3, 1) := by decide +kernel
theorem dX1_insert_63 : decode cX1_insert 63 = .ok (.iconst 4, 1) := by decide +kernel
theorem dX1_insert_64 : decode cX1_insert 64 = .ok (.if_icmp .ge 29, 3) := by decide +kernel
theorem dX1_insert_67 : decode cX1_insert 67 = .ok (.aload_n 0, 1) := by decide +kernel
theorem dX1_insert_68 : decode cX1_insert 68 = .ok (.getfield 19, 3) := by decide +kernel
theorem dX1_insert_71 : decode cX1_insert 71 = .ok (.iload_n 3, 1) := by decide +kernel
theorem dX1_insert_72 : decode cX1_insert 72 = .ok (.iaload, 1) := by decide +kernel
theorem dX1_insert_73 : decode cX1_insert 73 = .ok (.iload_n 1, 1) := by decide +kernel
theorem dX1_insert_74 : decode cX1_insert 74 = .ok (.if_icmp .lt 13, 3) := by decide +kernel
theorem dX1_insert_77 : decode cX1_insert 77 = .ok (.aload_n 0, 1) := by decide +kernel
theorem dX1_insert_78 : decode cX1_insert 78 = .ok (.getfield 19, 3) := by decide +kernel
theorem dX1_insert_81 : decode cX1_insert 81 = .ok (.iload_n 3, 1) := by decide +kernel
theorem dX1_insert_82 : decode cX1_insert 82 = .ok (.dup2, 1) := by decide +kernel
theorem dX1_insert_83 : decode cX1_insert 83 = .ok (.iaload, 1) := by decide +kernel
theorem dX1_insert_84 : decode cX1_insert 84 = .ok (.iconst 1, 1) := by decide +kernel
theorem dX1_insert_85 : decode cX1_insert 85 = .ok (.iadd, 1) := by decide +kernel
theorem dX1_insert_86 : decode cX1_insert 86 = .ok (.iastore, 1) := by decide +kernel
theorem dX1_insert_87 : decode cX1_insert 87 = .ok (.iinc 3 1, 3) := by decide +kernel
theorem dX1_insert_90 : decode cX1_insert 90 = .ok (.goto (-28), 3) := by decide +kernel
theorem dX1_insert_93 : decode cX1_insert 93 = .ok (.return_, 1) := by decide +kernel
theorem dX1_sweep_0 : decode cX1_sweep 0 = .ok (.aload_n 0, 1) := by decide +kernel
theorem dX1_sweep_1 : decode cX1_sweep 1 = .ok (.iload_n 1, 1) := by decide +kernel
theorem dX1_sweep_2 : decode cX1_sweep 2 = .ok (.invokevirtual 28, 3) := by decide +kernel
theorem dX1_sweep_5 : decode cX1_sweep 5 = .ok (.ifCond .eq 21, 3) := by decide +kernel
theorem dX1_sweep_8 : decode cX1_sweep 8 = .ok (.aload_n 0, 1) := by decide +kernel
theorem dX1_sweep_9 : decode cX1_sweep 9 = .ok (.getfield 15, 3) := by decide +kernel
theorem dX1_sweep_12 : decode cX1_sweep 12 = .ok (.iload_n 1, 1) := by decide +kernel
theorem dX1_sweep_13 : decode cX1_sweep 13 = .ok (.iaload, 1) := by decide +kernel
theorem dX1_sweep_14 : decode cX1_sweep 14 = .ok (.iconst (-1), 1) := by decide +kernel
theorem dX1_sweep_15 : decode cX1_sweep 15 = .ok (.if_icmp .ne 11, 3) := by decide +kernel
theorem dX1_sweep_18 : decode cX1_sweep 18 = .ok (.aload_n 0, 1) := by decide +kernel
theorem dX1_sweep_19 : decode cX1_sweep 19 = .ok (.iload_n 1, 1) := by decide +kernel
theorem dX1_sweep_20 : decode cX1_sweep 20 = .ok (.invokevirtual 49, 3) := by decide +kernel
theorem dX1_sweep_23 : decode cX1_sweep 23 = .ok (.ifCond .le 4, 3) := by decide +kernel
theorem dX1_sweep_26 : decode cX1_sweep 26 = .ok (.return_, 1) := by decide +kernel
theorem dX1_sweep_27 : decode cX1_sweep 27 = .ok (.aload_n 0, 1) := by decide +kernel
theorem dX1_sweep_28 : decode cX1_sweep 28 = .ok (.getfield 15, 3) := by decide +kernel
theorem dX1_sweep_31 : decode cX1_sweep 31 = .ok (.iload_n 1, 1) := by decide +kernel
theorem dX1_sweep_32 : decode cX1_sweep 32 = .ok (.iconst 1, 1) := by decide +kernel
theorem dX1_sweep_33 : decode cX1_sweep 33 = .ok (.iadd, 1) := by decide +kernel
theorem dX1_sweep_34 : decode cX1_sweep 34 = .ok (.aload_n 0, 1) := by decide +kernel
theorem dX1_sweep_35 : decode cX1_sweep 35 = .ok (.getfield 15, 3) := by decide +kernel
theorem dX1_sweep_38 : decode cX1_sweep 38 = .ok (.iload_n 1, 1) := by decide +kernel
theorem dX1_sweep_39 : decode cX1_sweep 39 = .ok (.aload_n 0, 1) := by decide +kernel
theorem dX1_sweep_40 : decode cX1_sweep 40 = .ok (.getfield 9, 3) := by decide +kernel
theorem dX1_sweep_43 : decode cX1_sweep 43 = .ok (.iload_n 1, 1) := by decide +kernel
theorem dX1_sweep_44 : decode cX1_sweep 44 = .ok (.isub, 1) := by decide +kernel
theorem dX1_sweep_45 : decode cX1_sweep 45 = .ok (.iconst 1, 1) := by decide +kernel
theorem dX1_sweep_46 : decode cX1_sweep 46 = .ok (.isub, 1) := by decide +kernel
theorem dX1_sweep_47 : decode cX1_sweep 47 = .ok (.invokestatic 22, 3) := by decide +kernel
theorem dX1_sweep_50 : decode cX1_sweep 50 = .ok (.aload_n 0, 1) := by decide +kernel
theorem dX1_sweep_51 : decode cX1_sweep 51 = .ok (.dup, 1) := by decide +kernel
theorem dX1_sweep_52 : decode cX1_sweep 52 = .ok (.getfield 9, 3) := by decide +kernel
theorem dX1_sweep_55 : decode cX1_sweep 55 = .ok (.iconst 1, 1) := by decide +kernel
theorem dX1_sweep_56 : decode cX1_sweep 56 = .ok (.isub, 1) := by decide +kernel
theorem dX1_sweep_57 : decode cX1_sweep 57 = .ok (.putfield 9, 3) := by decide +kernel
theorem dX1_sweep_60 : decode cX1_sweep 60 = .ok (.iconst 0, 1) := by decide +kernel
theorem dX1_sweep_61 : decode cX1_sweep 61 = .ok (.istore_n 2, 1) := by decide +kernel
theorem dX1_sweep_62 : decode cX1_sweep 62 = .ok (.iload_n 2, 1) := by decide +kernel
theorem dX1_sweep_63 : decode cX1_sweep 63 = .ok (.iconst 4, 1) := by decide +kernel
theorem dX1_sweep_64 : decode cX1_sweep 64 = .ok (.if_icmp .ge 29, 3) := by decide +kernel
theorem dX1_sweep_67 : decode cX1_sweep 67 = .ok (.aload_n 0, 1) := by decide +kernel
theorem dX1_sweep_68 : decode cX1_sweep 68 = .ok (.getfield 19, 3) := by decide +kernel
theorem dX1_sweep_71 : decode cX1_sweep 71 = .ok (.iload_n 2, 1) := by decide +kernel
theorem dX1_sweep_72 : decode cX1_sweep 72 = .ok (.iaload, 1) := by decide +kernel
theorem dX1_sweep_73 : decode cX1_sweep 73 = .ok (.iload_n 1, 1) := by decide +kernel
theorem dX1_sweep_74 : decode cX1_sweep 74 = .ok (.if_icmp .le 13, 3) := by decide +kernel
theorem dX1_sweep_77 : decode cX1_sweep 77 = .ok (.aload_n 0, 1) := by decide +kernel
theorem dX1_sweep_78 : decode cX1_sweep 78 = .ok (.getfield 19, 3) := by decide +kernel
theorem dX1_sweep_81 : decode cX1_sweep 81 = .ok (.iload_n 2, 1) := by decide +kernel
theorem dX1_sweep_82 : decode cX1_sweep 82 = .ok (.dup2, 1) := by decide +kernel
theorem dX1_sweep_83 : decode cX1_sweep 83 = .ok (.iaload, 1) := by decide +kernel
theorem dX1_sweep_84 : decode cX1_sweep 84 = .ok (.iconst 1, 1) := by decide +kernel
theorem dX1_sweep_85 : decode cX1_sweep 85 = .ok (.isub, 1) := by decide +kernel
theorem dX1_sweep_86 : decode cX1_sweep 86 = .ok (.iastore, 1) := by decide +kernel
theorem dX1_sweep_87 : decode cX1_sweep 87 = .ok (.iinc 2 1, 3) := by decide +kernel
theorem dX1_sweep_90 : decode cX1_sweep 90 = .ok (.goto (-28), 3) := by decide +kernel
theorem dX1_sweep_93 : decode cX1_sweep 93 = .ok (.return_, 1) := by decide +kernel
theorem dX1_bury_0 : decode cX1_bury 0 = .ok (.aload_n 0, 1) := by decide +kernel
theorem dX1_bury_1 : decode cX1_bury 1 = .ok (.iload_n 1, 1) := by decide +kernel
theorem dX1_bury_2 : decode cX1_bury 2 = .ok (.invokevirtual 52, 3) := by decide +kernel
theorem dX1_bury_5 : decode cX1_bury 5 = .ok (.istore_n 2, 1) := by decide +kernel
theorem dX1_bury_6 : decode cX1_bury 6 = .ok (.aload_n 0, 1) := by decide +kernel
theorem dX1_bury_7 : decode cX1_bury 7 = .ok (.iload_n 2, 1) := by decide +kernel
theorem dX1_bury_8 : decode cX1_bury 8 = .ok (.invokevirtual 28, 3) := by decide +kernel
theorem dX1_bury_11 : decode cX1_bury 11 = .ok (.ifCond .eq 15, 3) := by decide +kernel
theorem dX1_bury_14 : decode cX1_bury 14 = .ok (.aload_n 0, 1) := by decide +kernel
theorem dX1_bury_15 : decode cX1_bury 15 = .ok (.getfield 15, 3) := by decide +kernel
theorem dX1_bury_18 : decode cX1_bury 18 = .ok (.iload_n 2, 1) := by decide +kernel
theorem dX1_bury_19 : decode cX1_bury 19 = .ok (.iconst (-1), 1) := by decide +kernel
theorem dX1_bury_20 : decode cX1_bury 20 = .ok (.iastore, 1) := by decide +kernel
theorem dX1_bury_21 : decode cX1_bury 21 = .ok (.aload_n 0, 1) := by decide +kernel
theorem dX1_bury_22 : decode cX1_bury 22 = .ok (.iload_n 2, 1) := by decide +kernel
theorem dX1_bury_23 : decode cX1_bury 23 = .ok (.invokevirtual 55, 3) := by decide +kernel
theorem dX1_bury_26 : decode cX1_bury 26 = .ok (.return_, 1) := by decide +kernel
theorem dX1_rename_0 : decode cX1_rename 0 = .ok (.aload_n 0, 1) := by decide +kernel
theorem dX1_rename_1 : decode cX1_rename 1 = .ok (.iload_n 1, 1) := by decide +kernel
theorem dX1_rename_2 : decode cX1_rename 2 = .ok (.invokevirtual 52, 3) := by decide +kernel
theorem dX1_rename_5 : decode cX1_rename 5 = .ok (.istore_n 3, 1) := by decide +kernel
theorem dX1_rename_6 : decode cX1_rename 6 = .ok (.aload_n 0, 1) := by decide +kernel
theorem dX1_rename_7 : decode cX1_rename 7 = .ok (.iload_n 3, 1) := by decide +kernel
theorem dX1_rename_8 : decode cX1_rename 8 = .ok (.invokevirtual 28, 3) := by decide +kernel
theorem dX1_rename_11 : decode cX1_rename 11 = .ok (.ifCond .eq 10, 3) := by decide +kernel
theorem dX1_rename_14 : decode cX1_rename 14 = .ok (.aload_n 0, 1) := by decide +kernel
theorem dX1_rename_15 : decode cX1_rename 15 = .ok (.getfield 15, 3) := by decide +kernel
theorem dX1_rename_18 : decode cX1_rename 18 = .ok (.iload_n 3, 1) := by decide +kernel
theorem dX1_rename_19 : decode cX1_rename 19 = .ok (.iload_n 2, 1) := by decide +kernel
theorem dX1_rename_20 : decode cX1_rename 20 = .ok (.iastore, 1) := by decide +kernel
theorem dX1_rename_21 : decode cX1_rename 21 = .ok (.return_, 1) := by decide +kernel
theorem dX1_walkersOn_0 : decode cX1_walkersOn 0 = .ok (.iconst 0, 1) := by decide +kernel
theorem dX1_walkersOn_1 : decode cX1_walkersOn 1 = .ok (.istore_n 2, 1) := by decide +kernel
theorem dX1_walkersOn_2 : decode cX1_walkersOn 2 = .ok (.iconst 0, 1) := by decide +kernel
theorem dX1_walkersOn_3 : decode cX1_walkersOn 3 = .ok (.istore_n 3, 1) := by decide +kernel
theorem dX1_walkersOn_4 : decode cX1_walkersOn 4 = .ok (.iload_n 3, 1) := by decide +kernel
theorem dX1_walkersOn_5 : decode cX1_walkersOn 5 = .ok (.iconst 4, 1) := by decide +kernel
theorem dX1_walkersOn_6 : decode cX1_walkersOn 6 = .ok (.if_icmp .ge 22, 3) := by decide +kernel
theorem dX1_walkersOn_9 : decode cX1_walkersOn 9 = .ok (.aload_n 0, 1) := by decide +kernel
theorem dX1_walkersOn_10 : decode cX1_walkersOn 10 = .ok (.getfield 19, 3) := by decide +kernel
theorem dX1_walkersOn_13 : decode cX1_walkersOn 13 = .ok (.iload_n 3, 1) := by decide +kernel
theorem dX1_walkersOn_14 : decode cX1_walkersOn 14 = .ok (.iaload, 1) := by decide +kernel
theorem dX1_walkersOn_15 : decode cX1_walkersOn 15 = .ok (.iload_n 1, 1) := by decide +kernel
theorem dX1_walkersOn_16 : decode cX1_walkersOn 16 = .ok (.if_icmp .ne 6, 3) := by decide +kernel
theorem dX1_walkersOn_19 : decode cX1_walkersOn 19 = .ok (.iinc 2 1, 3) := by decide +kernel
theorem dX1_walkersOn_22 : decode cX1_walkersOn 22 = .ok (.iinc 3 1, 3) := by decide +kernel
theorem dX1_walkersOn_25 : decode cX1_walkersOn 25 = .ok (.goto (-21), 3) := by decide +kernel
theorem dX1_walkersOn_28 : decode cX1_walkersOn 28 = .ok (.iload_n 2, 1) := by decide +kernel
theorem dX1_walkersOn_29 : decode cX1_walkersOn 29 = .ok (.ireturn, 1) := by decide +kernel
theorem dX1_standOf_0 : decode cX1_standOf 0 = .ok (.aload_n 0, 1) := by decide +kernel
theorem dX1_standOf_1 : decode cX1_standOf 1 = .ok (.iload_n 1, 1) := by decide +kernel
theorem dX1_standOf_2 : decode cX1_standOf 2 = .ok (.invokevirtual 59, 3) := by decide +kernel
theorem dX1_standOf_5 : decode cX1_standOf 5 = .ok (.istore_n 2, 1) := by decide +kernel
theorem dX1_standOf_6 : decode cX1_standOf 6 = .ok (.iload_n 2, 1) := by decide +kernel
theorem dX1_standOf_7 : decode cX1_standOf 7 = .ok (.bipush (-2), 2) := by decide +kernel
theorem dX1_standOf_9 : decode cX1_standOf 9 = .ok (.if_icmp .ne 5, 3) := by decide +kernel
theorem dX1_standOf_12 : decode cX1_standOf 12 = .ok (.iconst 3, 1) := by decide +kernel
theorem dX1_standOf_13 : decode cX1_standOf 13 = .ok (.ireturn, 1) := by decide +kernel
theorem dX1_standOf_14 : decode cX1_standOf 14 = .ok (.iload_n 2, 1) := by decide +kernel
theorem dX1_standOf_15 : decode cX1_standOf 15 = .ok (.iconst (-1), 1) := by decide +kernel
theorem dX1_standOf_16 : decode cX1_standOf 16 = .ok (.if_icmp .ne 5, 3) := by decide +kernel
theorem dX1_standOf_19 : decode cX1_standOf 19 = .ok (.iconst 0, 1) := by decide +kernel
theorem dX1_standOf_20 : decode cX1_standOf 20 = .ok (.ireturn, 1) := by decide +kernel
theorem dX1_standOf_21 : decode cX1_standOf 21 = .ok (.aload_n 0, 1) := by decide +kernel
theorem dX1_standOf_22 : decode cX1_standOf 22 = .ok (.iload_n 2, 1) := by decide +kernel
theorem dX1_standOf_23 : decode cX1_standOf 23 = .ok (.invokevirtual 46, 3) := by decide +kernel
theorem dX1_standOf_26 : decode cX1_standOf 26 = .ok (.iconst (-1), 1) := by decide +kernel
theorem dX1_standOf_27 : decode cX1_standOf 27 = .ok (.if_icmp .eq 7, 3) := by decide +kernel
theorem dX1_standOf_30 : decode cX1_standOf 30 = .ok (.iconst 1, 1) := by decide +kernel
theorem dX1_standOf_31 : decode cX1_standOf 31 = .ok (.goto 4, 3) := by decide +kernel
theorem dX1_standOf_34 : decode cX1_standOf 34 = .ok (.iconst 2, 1) := by decide +kernel
theorem dX1_standOf_35 : decode cX1_standOf 35 = .ok (.ireturn, 1) := by decide +kernel
theorem dX1_thingUnder_0 : decode cX1_thingUnder 0 = .ok (.aload_n 0, 1) := by decide +kernel
theorem dX1_thingUnder_1 : decode cX1_thingUnder 1 = .ok (.aload_n 0, 1) := by decide +kernel
theorem dX1_thingUnder_2 : decode cX1_thingUnder 2 = .ok (.iload_n 1, 1) := by decide +kernel
theorem dX1_thingUnder_3 : decode cX1_thingUnder 3 = .ok (.invokevirtual 59, 3) := by decide +kernel
theorem dX1_thingUnder_6 : decode cX1_thingUnder 6 = .ok (.invokevirtual 46, 3) := by decide +kernel
theorem dX1_thingUnder_9 : decode cX1_thingUnder 9 = .ok (.ireturn, 1) := by decide +kernel
theorem dX1_thingsBehind_0 : decode cX1_thingsBehind 0 = .ok (.aload_n 0, 1) := by decide +kernel
theorem dX1_thingsBehind_1 : decode cX1_thingsBehind 1 = .ok (.iload_n 1, 1) := by decide +kernel
theorem dX1_thingsBehind_2 : decode cX1_thingsBehind 2 = .ok (.invokevirtual 59, 3) := by decide +kernel
theorem dX1_thingsBehind_5 : decode cX1_thingsBehind 5 = .ok (.istore_n 2, 1) := by decide +kernel
theorem dX1_thingsBehind_6 : decode cX1_thingsBehind 6 = .ok (.iload_n 2, 1) := by decide +kernel
theorem dX1_thingsBehind_7 : decode cX1_thingsBehind 7 = .ok (.bipush (-2), 2) := by decide +kernel
theorem dX1_thingsBehind_9 : decode cX1_thingsBehind 9 = .ok (.if_icmp .ne 7, 3) := by decide +kernel
theorem dX1_thingsBehind_12 : decode cX1_thingsBehind 12 = .ok (.iconst 0, 1) := by decide +kernel
theorem dX1_thingsBehind_13 : decode cX1_thingsBehind 13 = .ok (.goto 10, 3) := by decide +kernel
theorem dX1_thingsBehind_16 : decode cX1_thingsBehind 16 = .ok (.aload_n 0, 1) := by decide +kernel
theorem dX1_thingsBehind_17 : decode cX1_thingsBehind 17 = .ok (.iload_n 2, 1) := by decide +kernel
theorem dX1_thingsBehind_18 : decode cX1_thingsBehind 18 = .ok (.iconst 1, 1) := by decide +kernel
theorem dX1_thingsBehind_19 : decode cX1_thingsBehind 19 = .ok (.iadd, 1) := by decide +kernel
theorem dX1_thingsBehind_20 : decode cX1_thingsBehind 20 = .ok (.invokevirtual 32, 3) := by decide +kernel
theorem dX1_thingsBehind_23 : decode cX1_thingsBehind 23 = .ok (.ireturn, 1) := by decide +kernel
theorem dX1_sendAhead_0 : decode cX1_sendAhead 0 = .ok (.aload_n 0, 1) := by decide +kernel
theorem dX1_sendAhead_1 : decode cX1_sendAhead 1 = .ok (.iload_n 1, 1) := by decide +kernel
theorem dX1_sendAhead_2 : decode cX1_sendAhead 2 = .ok (.iconst (-1), 1) := by decide +kernel
theorem dX1_sendAhead_3 : decode cX1_sendAhead 3 = .ok (.invokevirtual 62, 3) := by decide +kernel
theorem dX1_sendAhead_6 : decode cX1_sendAhead 6 = .ok (.return_, 1) := by decide +kernel
theorem dX1_sendOn_0 : decode cX1_sendOn 0 = .ok (.aload_n 0, 1) := by decide +kernel
theorem dX1_sendOn_1 : decode cX1_sendOn 1 = .ok (.iload_n 1, 1) := by decide +kernel
theorem dX1_sendOn_2 : decode cX1_sendOn 2 = .ok (.invokevirtual 59, 3) := by decide +kernel
theorem dX1_sendOn_5 : decode cX1_sendOn 5 = .ok (.istore_n 2, 1) := by decide +kernel
theorem dX1_sendOn_6 : decode cX1_sendOn 6 = .ok (.iload_n 2, 1) := by decide +kernel
theorem dX1_sendOn_7 : decode cX1_sendOn 7 = .ok (.bipush (-2), 2) := by decide +kernel
theorem dX1_sendOn_9 : decode cX1_sendOn 9 = .ok (.if_icmp .eq 15, 3) := by decide +kernel
theorem dX1_sendOn_12 : decode cX1_sendOn 12 = .ok (.aload_n 0, 1) := by decide +kernel
theorem dX1_sendOn_13 : decode cX1_sendOn 13 = .ok (.iload_n 1, 1) := by decide +kernel
theorem dX1_sendOn_14 : decode cX1_sendOn 14 = .ok (.aload_n 0, 1) := by decide +kernel
theorem dX1_sendOn_15 : decode cX1_sendOn 15 = .ok (.iload_n 2, 1) := by decide +kernel
theorem dX1_sendOn_16 : decode cX1_sendOn 16 = .ok (.iconst 1, 1) := by decide +kernel
theorem dX1_sendOn_17 : decode cX1_sendOn 17 = .ok (.iadd, 1) := by decide +kernel
theorem dX1_sendOn_18 : decode cX1_sendOn 18 = .ok (.invokevirtual 66, 3) := by decide +kernel
theorem dX1_sendOn_21 : decode cX1_sendOn 21 = .ok (.invokevirtual 62, 3) := by decide +kernel
theorem dX1_sendOn_24 : decode cX1_sendOn 24 = .ok (.return_, 1) := by decide +kernel
theorem dX1_indexUnder_0 : decode cX1_indexUnder 0 = .ok (.iload_n 1, 1) := by decide +kernel
theorem dX1_indexUnder_1 : decode cX1_indexUnder 1 = .ok (.invokestatic 69, 3) := by decide +kernel
theorem dX1_indexUnder_4 : decode cX1_indexUnder 4 = .ok (.ifCond .eq 12, 3) := by decide +kernel
theorem dX1_indexUnder_7 : decode cX1_indexUnder 7 = .ok (.aload_n 0, 1) := by decide +kernel
theorem dX1_indexUnder_8 : decode cX1_indexUnder 8 = .ok (.getfield 19, 3) := by decide +kernel
theorem dX1_indexUnder_11 : decode cX1_indexUnder 11 = .ok (.iload_n 1, 1) := by decide +kernel
theorem dX1_indexUnder_12 : decode cX1_indexUnder 12 = .ok (.iaload, 1) := by decide +kernel
theorem dX1_indexUnder_13 : decode cX1_indexUnder 13 = .ok (.goto 4, 3) := by decide +kernel
theorem dX1_indexUnder_16 : decode cX1_indexUnder 16 = .ok (.iconst (-1), 1) := by decide +kernel
theorem dX1_indexUnder_17 : decode cX1_indexUnder 17 = .ok (.ireturn, 1) := by decide +kernel
theorem dX1_nextThing_0 : decode cX1_nextThing 0 = .ok (.iload_n 1, 1) := by decide +kernel
theorem dX1_nextThing_1 : decode cX1_nextThing 1 = .ok (.istore_n 2, 1) := by decide +kernel
theorem dX1_nextThing_2 : decode cX1_nextThing 2 = .ok (.iload_n 2, 1) := by decide +kernel
theorem dX1_nextThing_3 : decode cX1_nextThing 3 = .ok (.aload_n 0, 1) := by decide +kernel
theorem dX1_nextThing_4 : decode cX1_nextThing 4 = .ok (.getfield 9, 3) := by decide +kernel
theorem dX1_nextThing_7 : decode cX1_nextThing 7 = .ok (.if_icmp .ge 20, 3) := by decide +kernel
theorem dX1_nextThing_10 : decode cX1_nextThing 10 = .ok (.aload_n 0, 1) := by decide +kernel
theorem dX1_nextThing_11 : decode cX1_nextThing 11 = .ok (.iload_n 2, 1) := by decide +kernel
theorem dX1_nextThing_12 : decode cX1_nextThing 12 = .ok (.invokevirtual 46, 3) := by decide +kernel
theorem dX1_nextThing_15 : decode cX1_nextThing 15 = .ok (.iconst (-1), 1) := by decide +kernel
theorem dX1_nextThing_16 : decode cX1_nextThing 16 = .ok (.if_icmp .eq 5, 3) := by decide +kernel
theorem dX1_nextThing_19 : decode cX1_nextThing 19 = .ok (.iload_n 2, 1) := by decide +kernel
theorem dX1_nextThing_20 : decode cX1_nextThing 20 = .ok (.ireturn, 1) := by decide +kernel
theorem dX1_nextThing_21 : decode cX1_nextThing 21 = .ok (.iinc 2 1, 3) := by decide +kernel
theorem dX1_nextThing_24 : decode cX1_nextThing 24 = .ok (.goto (-22), 3) := by decide +kernel
theorem dX1_nextThing_27 : decode cX1_nextThing 27 = .ok (.bipush (-2), 2) := by decide +kernel
theorem dX1_nextThing_29 : decode cX1_nextThing 29 = .ok (.ireturn, 1) := by decide +kernel
theorem dX1_send_0 : decode cX1_send 0 = .ok (.iload_n 1, 1) := by decide +kernel
theorem dX1_send_1 : decode cX1_send 1 = .ok (.invokestatic 69, 3) := by decide +kernel
theorem dX1_send_4 : decode cX1_send 4 = .ok (.ifCond .eq 22, 3) := by decide +kernel
theorem dX1_send_7 : decode cX1_send 7 = .ok (.aload_n 0, 1) := by decide +kernel
theorem dX1_send_8 : decode cX1_send 8 = .ok (.getfield 19, 3) := by decide +kernel
theorem dX1_send_11 : decode cX1_send 11 = .ok (.iload_n 1, 1) := by decide +kernel
theorem dX1_send_12 : decode cX1_send 12 = .ok (.iaload, 1) := by decide +kernel
theorem dX1_send_13 : decode cX1_send 13 = .ok (.istore_n 3, 1) := by decide +kernel
theorem dX1_send_14 : decode cX1_send 14 = .ok (.aload_n 0, 1) := by decide +kernel
theorem dX1_send_15 : decode cX1_send 15 = .ok (.getfield 19, 3) := by decide +kernel
theorem dX1_send_18 : decode cX1_send 18 = .ok (.iload_n 1, 1) := by decide +kernel
theorem dX1_send_19 : decode cX1_send 19 = .ok (.iload_n 2, 1) := by decide +kernel
theorem dX1_send_20 : decode cX1_send 20 = .ok (.iastore, 1) := by decide +kernel
theorem dX1_send_21 : decode cX1_send 21 = .ok (.aload_n 0, 1) := by decide +kernel
theorem dX1_send_22 : decode cX1_send 22 = .ok (.iload_n 3, 1) := by decide +kernel
theorem dX1_send_23 : decode cX1_send 23 = .ok (.invokevirtual 55, 3) := by decide +kernel
theorem dX1_send_26 : decode cX1_send 26 = .ok (.return_, 1) := by decide +kernel
theorem dX2_init_0 : decode cX2_init 0 = .ok (.aload_n 0, 1) := by decide +kernel
theorem dX2_init_1 : decode cX2_init 1 = .ok (.invokespecial 3, 3) := by decide +kernel
theorem dX2_init_4 : decode cX2_init 4 = .ok (.aload_n 0, 1) := by decide +kernel
theorem dX2_init_5 : decode cX2_init 5 = .ok (.bipush 16, 2) := by decide +kernel
theorem dX2_init_7 : decode cX2_init 7 = .ok (.putfield 9, 3) := by decide +kernel
theorem dX2_init_10 : decode cX2_init 10 = .ok (.aload_n 0, 1) := by decide +kernel
theorem dX2_init_11 : decode cX2_init 11 = .ok (.bipush 64, 2) := by decide +kernel
theorem dX2_init_13 : decode cX2_init 13 = .ok (.newarray .int, 2) := by decide +kernel
theorem dX2_init_15 : decode cX2_init 15 = .ok (.putfield 15, 3) := by decide +kernel
theorem dX2_init_18 : decode cX2_init 18 = .ok (.aload_n 0, 1) := by decide +kernel
theorem dX2_init_19 : decode cX2_init 19 = .ok (.bipush 64, 2) := by decide +kernel
theorem dX2_init_21 : decode cX2_init 21 = .ok (.newarray .int, 2) := by decide +kernel
theorem dX2_init_23 : decode cX2_init 23 = .ok (.putfield 19, 3) := by decide +kernel
theorem dX2_init_26 : decode cX2_init 26 = .ok (.aload_n 0, 1) := by decide +kernel
theorem dX2_init_27 : decode cX2_init 27 = .ok (.bipush 64, 2) := by decide +kernel
theorem dX2_init_29 : decode cX2_init 29 = .ok (.newarray .int, 2) := by decide +kernel
theorem dX2_init_31 : decode cX2_init 31 = .ok (.putfield 22, 3) := by decide +kernel
theorem dX2_init_34 : decode cX2_init 34 = .ok (.aload_n 0, 1) := by decide +kernel
theorem dX2_init_35 : decode cX2_init 35 = .ok (.bipush 64, 2) := by decide +kernel
theorem dX2_init_37 : decode cX2_init 37 = .ok (.newarray .int, 2) := by decide +kernel
theorem dX2_init_39 : decode cX2_init 39 = .ok (.putfield 25, 3) := by decide +kernel
theorem dX2_init_42 : decode cX2_init 42 = .ok (.aload_n 0, 1) := by decide +kernel
theorem dX2_init_43 : decode cX2_init 43 = .ok (.bipush 64, 2) := by decide +kernel
theorem dX2_init_45 : decode cX2_init 45 = .ok (.newarray .int, 2) := by decide +kernel
theorem dX2_init_47 : decode cX2_init 47 = .ok (.putfield 28, 3) := by decide +kernel
theorem dX2_init_50 : decode cX2_init 50 = .ok (.aload_n 0, 1) := by decide +kernel
theorem dX2_init_51 : decode cX2_init 51 = .ok (.bipush 64, 2) := by decide +kernel
theorem dX2_init_53 : decode cX2_init 53 = .ok (.newarray .int, 2) := by decide +kernel
theorem dX2_init_55 : decode cX2_init 55 = .ok (.putfield 31, 3) := by decide +kernel
theorem dX2_init_58 : decode cX2_init 58 = .ok (.iconst 0, 1) := by decide +kernel
theorem dX2_init_59 : decode cX2_init 59 = .ok (.istore_n 1, 1) := by decide +kernel
theorem dX2_init_60 : decode cX2_init 60 = .ok (.iload_n 1, 1) := by decide +kernel
theorem dX2_init_61 : decode cX2_init 61 = .ok (.bipush 64, 2) := by decide +kernel
theorem dX2_init_63 : decode cX2_init 63 = .ok (.if_icmp .ge 16, 3) := by decide +kernel
theorem dX2_init_66 : decode cX2_init 66 = .ok (.aload_n 0, 1) := by decide +kernel
theorem dX2_init_67 : decode cX2_init 67 = .ok (.getfield 19, 3) := by decide +kernel
theorem dX2_init_70 : decode cX2_init 70 = .ok (.iload_n 1, 1) := by decide +kernel
theorem dX2_init_71 : decode cX2_init 71 = .ok (.iconst (-1), 1) := by decide +kernel
theorem dX2_init_72 : decode cX2_init 72 = .ok (.iastore, 1) := by decide +kernel
theorem dX2_init_73 : decode cX2_init 73 = .ok (.iinc 1 1, 3) := by decide +kernel
theorem dX2_init_76 : decode cX2_init 76 = .ok (.goto (-16), 3) := by decide +kernel
theorem dX2_init_79 : decode cX2_init 79 = .ok (.return_, 1) := by decide +kernel
theorem dX2_copyFrom_0 : decode cX2_copyFrom 0 = .ok (.aload_n 0, 1) := by decide +kernel
theorem dX2_copyFrom_1 : decode cX2_copyFrom 1 = .ok (.aload_n 1, 1) := by decide +kernel
theorem dX2_copyFrom_2 : decode cX2_copyFrom 2 = .ok (.getfield 9, 3) := by decide +kernel
theorem dX2_copyFrom_5 : decode cX2_copyFrom 5 = .ok (.putfield 9, 3) := by decide +kernel
theorem dX2_copyFrom_8 : decode cX2_copyFrom 8 = .ok (.aload_n 1, 1) := by decide +kernel
theorem dX2_copyFrom_9 : decode cX2_copyFrom 9 = .ok (.getfield 15, 3) := by decide +kernel
theorem dX2_copyFrom_12 : decode cX2_copyFrom 12 = .ok (.iconst 0, 1) := by decide +kernel
theorem dX2_copyFrom_13 : decode cX2_copyFrom 13 = .ok (.aload_n 0, 1) := by decide +kernel
theorem dX2_copyFrom_14 : decode cX2_copyFrom 14 = .ok (.getfield 15, 3) := by decide +kernel
theorem dX2_copyFrom_17 : decode cX2_copyFrom 17 = .ok (.iconst 0, 1) := by decide +kernel
theorem dX2_copyFrom_18 : decode cX2_copyFrom 18 = .ok (.bipush 64, 2) := by decide +kernel
theorem dX2_copyFrom_20 : decode cX2_copyFrom 20 = .ok (.invokestatic 34, 3) := by decide +kernel
theorem dX2_copyFrom_23 : decode cX2_copyFrom 23 = .ok (.aload_n 1, 1) := by decide +kernel
theorem dX2_copyFrom_24 : decode cX2_copyFrom 24 = .ok (.getfield 19, 3) := by decide +kernel
theorem dX2_copyFrom_27 : decode cX2_copyFrom 27 = .ok (.iconst 0, 1) := by decide +kernel
theorem dX2_copyFrom_28 : decode cX2_copyFrom 28 = .ok (.aload_n 0, 1) := by decide +kernel
theorem dX2_copyFrom_29 : decode cX2_copyFrom 29 = .ok (.getfield 19, 3) := by decide +kernel
theorem dX2_copyFrom_32 : decode cX2_copyFrom 32 = .ok (.iconst 0, 1) := by decide +kernel
theorem dX2_copyFrom_33 : decode cX2_copyFrom 33 = .ok (.bipush 64, 2) := by decide +kernel
theorem dX2_copyFrom_35 : decode cX2_copyFrom 35 = .ok (.invokestatic 34, 3) := by decide +kernel
theorem dX2_copyFrom_38 : decode cX2_copyFrom 38 = .ok (.aload_n 1, 1) := by decide +kernel
theorem dX2_copyFrom_39 : decode cX2_copyFrom 39 = .ok (.getfield 22, 3) := by decide +kernel
theorem dX2_copyFrom_42 : decode cX2_copyFrom 42 = .ok (.iconst 0, 1) := by decide +kernel
theorem dX2_copyFrom_43 : decode cX2_copyFrom 43 = .ok (.aload_n 0, 1) := by decide +kernel
theorem dX2_copyFrom_44 : decode cX2_copyFrom 44 = .ok (.getfield 22, 3) := by decide +kernel
theorem dX2_copyFrom_47 : decode cX2_copyFrom 47 = .ok (.iconst 0, 1) := by decide +kernel
theorem dX2_copyFrom_48 : decode cX2_copyFrom 48 = .ok (.bipush 64, 2) := by decide +kernel
theorem dX2_copyFrom_50 : decode cX2_copyFrom 50 = .ok (.invokestatic 34, 3) := by decide +kernel
theorem dX2_copyFrom_53 : decode cX2_copyFrom 53 = .ok (.aload_n 1, 1) := by decide +kernel
theorem dX2_copyFrom_54 : decode cX2_copyFrom 54 = .ok (.getfield 25, 3) := by decide +kernel
theorem dX2_copyFrom_57 : decode cX2_copyFrom 57 = .ok (.iconst 0, 1) := by decide +kernel
theorem dX2_copyFrom_58 : decode cX2_copyFrom 58 = .ok (.aload_n 0, 1) := by decide +kernel
theorem dX2_copyFrom_59 : decode cX2_copyFrom 59 = .ok (.getfield 25, 3) := by decide +kernel
theorem dX2_copyFrom_62 : decode cX2_copyFrom 62 = .ok (.iconst 0, 1) := by decide +kernel
theorem dX2_copyFrom_63 : decode cX2_copyFrom 63 = .ok (.bipush 64, 2) := by decide +kernel
theorem dX2_copyFrom_65 : decode cX2_copyFrom 65 = .ok (.invokestatic 34, 3) := by decide +kernel
theorem dX2_copyFrom_68 : decode cX2_copyFrom 68 = .ok (.aload_n 1, 1) := by decide +kernel
theorem dX2_copyFrom_69 : decode cX2_copyFrom 69 = .ok (.getfield 28, 3) := by decide +kernel
theorem dX2_copyFrom_72 : decode cX2_copyFrom 72 = .ok (.iconst 0, 1) := by decide +kernel
theorem dX2_copyFrom_73 : decode cX2_copyFrom 73 = .ok (.aload_n 0, 1) := by decide +kernel
theorem dX2_copyFrom_74 : decode cX2_copyFrom 74 = .ok (.getfield 28, 3) := by decide +kernel
theorem dX2_copyFrom_77 : decode cX2_copyFrom 77 = .ok (.iconst 0, 1) := by decide +kernel
theorem dX2_copyFrom_78 : decode cX2_copyFrom 78 = .ok (.bipush 64, 2) := by decide +kernel
theorem dX2_copyFrom_80 : decode cX2_copyFrom 80 = .ok (.invokestatic 34, 3) := by decide +kernel
theorem dX2_copyFrom_83 : decode cX2_copyFrom 83 = .ok (.aload_n 1, 1) := by decide +kernel
theorem dX2_copyFrom_84 : decode cX2_copyFrom 84 = .ok (.getfield 31, 3) := by decide +kernel
theorem dX2_copyFrom_87 : decode cX2_copyFrom 87 = .ok (.iconst 0, 1) := by decide +kernel
theorem dX2_copyFrom_88 : decode cX2_copyFrom 88 = .ok (.aload_n 0, 1) := by decide +kernel
theorem dX2_copyFrom_89 : decode cX2_copyFrom 89 = .ok (.getfield 31, 3) := by decide +kernel
theorem dX2_copyFrom_92 : decode cX2_copyFrom 92 = .ok (.iconst 0, 1) := by decide +kernel
theorem dX2_copyFrom_93 : decode cX2_copyFrom 93 = .ok (.bipush 64, 2) := by decide +kernel
theorem dX2_copyFrom_95 : decode cX2_copyFrom 95 = .ok (.invokestatic 34, 3) := by decide +kernel
theorem dX2_copyFrom_98 : decode cX2_copyFrom 98 = .ok (.return_, 1) := by decide +kernel
theorem dX2_isCell_0 : decode cX2_isCell 0 = .ok (.iload_n 1, 1) := by decide +kernel
theorem dX2_isCell_1 : decode cX2_isCell 1 = .ok (.ifCond .lt 21, 3) := by decide +kernel
theorem dX2_isCell_4 : decode cX2_isCell 4 = .ok (.iload_n 1, 1) := by decide +kernel
theorem dX2_isCell_5 : decode cX2_isCell 5 = .ok (.aload_n 0, 1) := by decide +kernel
theorem dX2_isCell_6 : decode cX2_isCell 6 = .ok (.getfield 9, 3) := by decide +kernel
theorem dX2_isCell_9 : decode cX2_isCell 9 = .ok (.if_icmp .ge 13, 3) := by decide +kernel
theorem dX2_isCell_12 : decode cX2_isCell 12 = .ok (.iload_n 1, 1) := by decide +kernel
theorem dX2_isCell_13 : decode cX2_isCell 13 = .ok (.bipush 64, 2) := by decide +kernel
theorem dX2_isCell_15 : decode cX2_isCell 15 = .ok (.if_icmp .ge 7, 3) := by decide +kernel
theorem dX2_isCell_18 : decode cX2_isCell 18 = .ok (.iconst 1, 1) := by decide +kernel
theorem dX2_isCell_19 : decode cX2_isCell 19 = .ok (.goto 4, 3) := by decide +kernel
theorem dX2_isCell_22 : decode cX2_isCell 22 = .ok (.iconst 0, 1) := by decide +kernel
theorem dX2_isCell_23 : decode cX2_isCell 23 = .ok (.ireturn, 1) := by decide +kernel
theorem dX2_cellsNow_0 : decode cX2_cellsNow 0 = .ok (.aload_n 0, 1) := by decide +kernel
theorem dX2_cellsNow_1 : decode cX2_cellsNow 1 = .ok (.getfield 9, 3) := by decide +kernel
theorem dX2_cellsNow_4 : decode cX2_cellsNow 4 = .ok (.ireturn, 1) := by decide +kernel
theorem dX2_stampAt_0 : decode cX2_stampAt 0 = .ok (.aload_n 0, 1) := by decide +kernel
theorem dX2_stampAt_1 : decode cX2_stampAt 1 = .ok (.iload_n 1, 1) := by decide +kernel
theorem dX2_stampAt_2 : decode cX2_stampAt 2 = .ok (.invokevirtual 40, 3) := by decide +kernel
theorem dX2_stampAt_5 : decode cX2_stampAt 5 = .ok (.ifCond .eq 12, 3) := by decide +kernel
theorem dX2_stampAt_8 : decode cX2_stampAt 8 = .ok (.aload_n 0, 1) := by decide +kernel
theorem dX2_stampAt_9 : decode cX2_stampAt 9 = .ok (.getfield 15, 3) := by decide +kernel
theorem dX2_stampAt_12 : decode cX2_stampAt 12 = .ok (.iload_n 1, 1) := by decide +kernel
theorem dX2_stampAt_13 : decode cX2_stampAt 13 = .ok (.iaload, 1) := by decide +kernel
theorem dX2_stampAt_14 : decode cX2_stampAt 14 = .ok (.goto 4, 3) := by decide +kernel
theorem dX2_stampAt_17 : decode cX2_stampAt 17 = .ok (.iconst 0, 1) := by decide +kernel
theorem dX2_stampAt_18 : decode cX2_stampAt 18 = .ok (.ireturn, 1) := by decide +kernel
theorem dX2_ownerOf_0 : decode cX2_ownerOf 0 = .ok (.aload_n 0, 1) := by decide +kernel
theorem dX2_ownerOf_1 : decode cX2_ownerOf 1 = .ok (.iload_n 1, 1) := by decide +kernel
theorem dX2_ownerOf_2 : decode cX2_ownerOf 2 = .ok (.invokevirtual 40, 3) := by decide +kernel
theorem dX2_ownerOf_5 : decode cX2_ownerOf 5 = .ok (.ifCond .eq 12, 3) := by decide +kernel
theorem dX2_ownerOf_8 : decode cX2_ownerOf 8 = .ok (.aload_n 0, 1) := by decide +kernel
theorem dX2_ownerOf_9 : decode cX2_ownerOf 9 = .ok (.getfield 19, 3) := by decide +kernel
theorem dX2_ownerOf_12 : decode cX2_ownerOf 12 = .ok (.iload_n 1, 1) := by decide +kernel
theorem dX2_ownerOf_13 : decode cX2_ownerOf 13 = .ok (.iaload, 1) := by decide +kernel
theorem dX2_ownerOf_14 : decode cX2_ownerOf 14 = .ok (.goto 4, 3) := by decide +kernel
theorem dX2_ownerOf_17 : decode cX2_ownerOf 17 = .ok (.iconst (-1), 1) := by decide +kernel
theorem dX2_ownerOf_18 : decode cX2_ownerOf 18 = .ok (.ireturn, 1) := by decide +kernel
theorem dX2_sizeAt_0 : decode cX2_sizeAt 0 = .ok (.aload_n 0, 1) := by decide +kernel
theorem dX2_sizeAt_1 : decode cX2_sizeAt 1 = .ok (.iload_n 1, 1) := by decide +kernel
theorem dX2_sizeAt_2 : decode cX2_sizeAt 2 = .ok (.invokevirtual 40, 3) := by decide +kernel
theorem dX2_sizeAt_5 : decode cX2_sizeAt 5 = .ok (.ifCond .eq 12, 3) := by decide +kernel
theorem dX2_sizeAt_8 : decode cX2_sizeAt 8 = .ok (.aload_n 0, 1) := by decide +kernel
theorem dX2_sizeAt_9 : decode cX2_sizeAt 9 = .ok (.getfield 22, 3) := by decide +kernel
theorem dX2_sizeAt_12 : decode cX2_sizeAt 12 = .ok (.iload_n 1, 1) := by decide +kernel
theorem dX2_sizeAt_13 : decode cX2_sizeAt 13 = .ok (.iaload, 1) := by decide +kernel
theorem dX2_sizeAt_14 : decode cX2_sizeAt 14 = .ok (.goto 4, 3) := by decide +kernel
theorem dX2_sizeAt_17 : decode cX2_sizeAt 17 = .ok (.iconst 0, 1) := by decide +kernel
theorem dX2_sizeAt_18 : decode cX2_sizeAt 18 = .ok (.ireturn, 1) := by decide +kernel
theorem dX2_valueAt_0 : decode cX2_valueAt 0 = .ok (.aload_n 0, 1) := by decide +kernel
theorem dX2_valueAt_1 : decode cX2_valueAt 1 = .ok (.iload_n 1, 1) := by decide +kernel
theorem dX2_valueAt_2 : decode cX2_valueAt 2 = .ok (.invokevirtual 40, 3) := by decide +kernel
theorem dX2_valueAt_5 : decode cX2_valueAt 5 = .ok (.ifCond .eq 12, 3) := by decide +kernel
theorem dX2_valueAt_8 : decode cX2_valueAt 8 = .ok (.aload_n 0, 1) := by decide +kernel
theorem dX2_valueAt_9 : decode cX2_valueAt 9 = .ok (.getfield 25, 3) := by decide +kernel
theorem dX2_valueAt_12 : decode cX2_valueAt 12 = .ok (.iload_n 1, 1) := by decide +kernel
theorem dX2_valueAt_13 : decode cX2_valueAt 13 = .ok (.iaload, 1) := by decide +kernel
theorem dX2_valueAt_14 : decode cX2_valueAt 14 = .ok (.goto 4, 3) := by decide +kernel
theorem dX2_valueAt_17 : decode cX2_valueAt 17 = .ok (.iconst 0, 1) := by decide +kernel
theorem dX2_valueAt_18 : decode cX2_valueAt 18 = .ok (.ireturn, 1) := by decide +kernel
theorem dX2_kindAt_0 : decode cX2_kindAt 0 = .ok (.aload_n 0, 1) := by decide +kernel
theorem dX2_kindAt_1 : decode cX2_kindAt 1 = .ok (.iload_n 1, 1) := by decide +kernel
theorem dX2_kindAt_2 : decode cX2_kindAt 2 = .ok (.invokevirtual 40, 3) := by decide +kernel
theorem dX2_kindAt_5 : decode cX2_kindAt 5 = .ok (.ifCond .eq 12, 3) := by decide +kernel
theorem dX2_kindAt_8 : decode cX2_kindAt 8 = .ok (.aload_n 0, 1) := by decide +kernel
theorem dX2_kindAt_9 : decode cX2_kindAt 9 = .ok (.getfield 28, 3) := by decide +kernel
theorem dX2_kindAt_12 : decode cX2_kindAt 12 = .ok (.iload_n 1, 1) := by decide +kernel
theorem dX2_kindAt_13 : decode cX2_kindAt 13 = .ok (.iaload, 1) := by decide +kernel
theorem dX2_kindAt_14 : decode cX2_kindAt 14 = .ok (.goto 4, 3) := by decide +kernel
theorem dX2_kindAt_17 : decode cX2_kindAt 17 = .ok (.iconst 0, 1) := by decide +kernel
theorem dX2_kindAt_18 : decode cX2_kindAt 18 = .ok (.ireturn, 1) := by decide +kernel
theorem dX2_timesFired_0 : decode cX2_timesFired 0 = .ok (.aload_n 0, 1) := by decide +kernel
theorem dX2_timesFired_1 : decode cX2_timesFired 1 = .ok (.iload_n 1, 1) := by decide +kernel
theorem dX2_timesFired_2 : decode cX2_timesFired 2 = .ok (.invokevirtual 40, 3) := by decide +kernel
theorem dX2_timesFired_5 : decode cX2_timesFired 5 = .ok (.ifCond .eq 12, 3) := by decide +kernel
theorem dX2_timesFired_8 : decode cX2_timesFired 8 = .ok (.aload_n 0, 1) := by decide +kernel
theorem dX2_timesFired_9 : decode cX2_timesFired 9 = .ok (.getfield 31, 3) := by decide +kernel
theorem dX2_timesFired_12 : decode cX2_timesFired 12 = .ok (.iload_n 1, 1) := by decide +kernel
theorem dX2_timesFired_13 : decode cX2_timesFired 13 = .ok (.iaload, 1) := by decide +kernel
theorem dX2_timesFired_14 : decode cX2_timesFired 14 = .ok (.goto 4, 3) := by decide +kernel
theorem dX2_timesFired_17 : decode cX2_timesFired 17 = .ok (.iconst 0, 1) := by decide +kernel
theorem dX2_timesFired_18 : decode cX2_timesFired 18 = .ok (.ireturn, 1) := by decide +kernel
theorem dX2_handleOf_0 : decode cX2_handleOf 0 = .ok (.aload_n 0, 1) := by decide +kernel
theorem dX2_handleOf_1 : decode cX2_handleOf 1 = .ok (.iload_n 1, 1) := by decide +kernel
theorem dX2_handleOf_2 : decode cX2_handleOf 2 = .ok (.invokevirtual 40, 3) := by decide +kernel
theorem dX2_handleOf_5 : decode cX2_handleOf 5 = .ok (.ifCond .eq 18, 3) := by decide +kernel
theorem dX2_handleOf_8 : decode cX2_handleOf 8 = .ok (.iload_n 1, 1) := by decide +kernel
theorem dX2_handleOf_9 : decode cX2_handleOf 9 = .ok (.sipush 1000, 3) := by decide +kernel
theorem dX2_handleOf_12 : decode cX2_handleOf 12 = .ok (.imul, 1) := by decide +kernel
theorem dX2_handleOf_13 : decode cX2_handleOf 13 = .ok (.aload_n 0, 1) := by decide +kernel
theorem dX2_handleOf_14 : decode cX2_handleOf 14 = .ok (.getfield 15, 3) := by decide +kernel
theorem dX2_handleOf_17 : decode cX2_handleOf 17 = .ok (.iload_n 1, 1) := by decide +kernel
theorem dX2_handleOf_18 : decode cX2_handleOf 18 = .ok (.iaload, 1) := by decide +kernel
theorem dX2_handleOf_19 : decode cX2_handleOf 19 = .ok (.iadd, 1) := by decide +kernel
theorem dX2_handleOf_20 : decode cX2_handleOf 20 = .ok (.goto 4, 3) := by decide +kernel
theorem dX2_handleOf_23 : decode cX2_handleOf 23 = .ok (.iconst (-1), 1) := by decide +kernel
theorem dX2_handleOf_24 : decode cX2_handleOf 24 = .ok (.ireturn, 1) := by decide +kernel
theorem dX2_whyRefused_0 : decode cX2_whyRefused 0 = .ok (.iload_n 1, 1) := by decide +kernel
theorem dX2_whyRefused_1 : decode cX2_whyRefused 1 = .ok (.ifCond .lt 15, 3) := by decide +kernel
theorem dX2_whyRefused_4 : decode cX2_whyRefused 4 = .ok (.aload_n 0, 1) := by decide +kernel
theorem dX2_whyRefused_5 : decode cX2_whyRefused 5 = .ok (.iload_n 1, 1) := by decide +kernel
theorem dX2_whyRefused_6 : decode cX2_whyRefused 6 = .ok (.sipush 1000, 3) := by decide +kernel
theorem dX2_whyRefused_9 : decode cX2_whyRefused 9 = .ok (.idiv, 1) := by decide +kernel
theorem dX2_whyRefused_10 : decode cX2_whyRefused 10 = .ok (.invokevirtual 40, 3) := by decide +kernel
theorem dX2_whyRefused_13 : decode cX2_whyRefused 13 = .ok (.ifCond .ne 5, 3) := by decide +kernel
theorem dX2_whyRefused_16 : decode cX2_whyRefused 16 = .ok (.iconst 1, 1) := by decide +kernel
theorem dX2_whyRefused_17 : decode cX2_whyRefused 17 = .ok (.ireturn, 1) := by decide +kernel
theorem dX2_whyRefused_18 : decode cX2_whyRefused 18 = .ok (.aload_n 0, 1) := by decide +kernel
theorem dX2_whyRefused_19 : decode cX2_whyRefused 19 = .ok (.iload_n 1, 1) := by decide +kernel
theorem dX2_whyRefused_20 : decode cX2_whyRefused 20 = .ok (.sipush 1000, 3) := by decide +kernel
theorem dX2_whyRefused_23 : decode cX2_whyRefused 23 = .ok (.idiv, 1) := by decide +kernel
theorem dX2_whyRefused_24 : decode cX2_whyRefused 24 = .ok (.invokevirtual 44, 3) := by decide +kernel
theorem dX2_whyRefused_27 : decode cX2_whyRefused 27 = .ok (.iload_n 1, 1) := by decide +kernel
theorem dX2_whyRefused_28 : decode cX2_whyRefused 28 = .ok (.sipush 1000, 3) := by decide +kernel
theorem dX2_whyRefused_31 : decode cX2_whyRefused 31 = .ok (.irem, 1) := by decide +kernel
theorem dX2_whyRefused_32 : decode cX2_whyRefused 32 = .ok (.if_icmp .eq 5, 3) := by decide +kernel
theorem dX2_whyRefused_35 : decode cX2_whyRefused 35 = .ok (.iconst 2, 1) := by decide +kernel
theorem dX2_whyRefused_36 : decode cX2_whyRefused 36 = .ok (.ireturn, 1) := by decide +kernel
theorem dX2_whyRefused_37 : decode cX2_whyRefused 37 = .ok (.aload_n 0, 1) := by decide +kernel
theorem dX2_whyRefused_38 : decode cX2_whyRefused 38 = .ok (.iload_n 1, 1) := by decide +kernel
theorem dX2_whyRefused_39 : decode cX2_whyRefused 39 = .ok (.sipush 1000, 3) := by decide +kernel
theorem dX2_whyRefused_42 : decode cX2_whyRefused 42 = .ok (.idiv, 1) := by decide +kernel
theorem dX2_whyRefused_43 : decode cX2_whyRefused 43 = .ok (.invokevirtual 48, 3) := by decide +kernel
theorem dX2_whyRefused_46 : decode cX2_whyRefused 46 = .ok (.ifCond .ne 7, 3) := by decide +kernel
theorem dX2_whyRefused_49 : decode cX2_whyRefused 49 = .ok (.iconst 3, 1) := by decide +kernel
theorem dX2_whyRefused_50 : decode cX2_whyRefused 50 = .ok (.goto 4, 3) := by decide +kernel
theorem dX2_whyRefused_53 : decode cX2_whyRefused 53 = .ok (.iconst 0, 1) := by decide +kernel
theorem dX2_whyRefused_54 : decode cX2_whyRefused 54 = .ok (.ireturn, 1) := by decide +kernel
theorem dX2_lowestFor_0 : decode cX2_lowestFor 0 = .ok (.iconst 0, 1) := by decide +kernel
theorem dX2_lowestFor_1 : decode cX2_lowestFor 1 = .ok (.istore_n 2, 1) := by decide +kernel
theorem dX2_lowestFor_2 : decode cX2_lowestFor 2 = .ok (.iconst 0, 1) := by decide +kernel
theorem dX2_lowestFor_3 : decode cX2_lowestFor 3 = .ok (.istore_n 3, 1) := by decide +kernel
theorem dX2_lowestFor_4 : decode cX2_lowestFor 4 = .ok (.iload_n 3, 1) := by decide +kernel
theorem dX2_lowestFor_5 : decode cX2_lowestFor 5 = .ok (.bipush 64, 2) := by decide +kernel
theorem dX2_lowestFor_7 : decode cX2_lowestFor 7 = .ok (.if_icmp .ge 38, 3) := by decide +kernel
theorem dX2_lowestFor_10 : decode cX2_lowestFor 10 = .ok (.aload_n 0, 1) := by decide +kernel
theorem dX2_lowestFor_11 : decode cX2_lowestFor 11 = .ok (.getfield 19, 3) := by decide +kernel
theorem dX2_lowestFor_14 : decode cX2_lowestFor 14 = .ok (.iload_n 3, 1) := by decide +kernel
theorem dX2_lowestFor_15 : decode cX2_lowestFor 15 = .ok (.iaload, 1) := by decide +kernel
theorem dX2_lowestFor_16 : decode cX2_lowestFor 16 = .ok (.iconst (-1), 1) := by decide +kernel
theorem dX2_lowestFor_17 : decode cX2_lowestFor 17 = .ok (.if_icmp .ne 9, 3) := by decide +kernel
theorem dX2_lowestFor_20 : decode cX2_lowestFor 20 = .ok (.iload_n 2, 1) := by decide +kernel
theorem dX2_lowestFor_21 : decode cX2_lowestFor 21 = .ok (.iconst 1, 1) := by decide +kernel
theorem dX2_lowestFor_22 : decode cX2_lowestFor 22 = .ok (.iadd, 1) := by decide +kernel
theorem dX2_lowestFor_23 : decode cX2_lowestFor 23 = .ok (.goto 4, 3) := by decide +kernel
theorem dX2_lowestFor_26 : decode cX2_lowestFor 26 = .ok (.iconst 0, 1) := by decide +kernel
theorem dX2_lowestFor_27 : decode cX2_lowestFor 27 = .ok (.istore_n 2, 1) := by decide +kernel
theorem dX2_lowestFor_28 : decode cX2_lowestFor 28 = .ok (.iload_n 2, 1) := by decide +kernel
theorem dX2_lowestFor_29 : decode cX2_lowestFor 29 = .ok (.iload_n 1, 1) := by decide +kernel
theorem dX2_lowestFor_30 : decode cX2_lowestFor 30 = .ok (.if_icmp .ne 9, 3) := by decide +kernel
theorem dX2_lowestFor_33 : decode cX2_lowestFor 33 = .ok (.iload_n 3, 1) := by decide +kernel
theorem dX2_lowestFor_34 : decode cX2_lowestFor 34 = .ok (.iload_n 1, 1) := by decide +kernel
theorem dX2_lowestFor_35 : decode cX2_lowestFor 35 = .ok (.isub, 1) := by decide +kernel
theorem dX2_lowestFor_36 : decode cX2_lowestFor 36 = .ok (.iconst 1, 1) := by decide +kernel
theorem dX2_lowestFor_37 : decode cX2_lowestFor 37 = .ok (.iadd, 1) := by decide +kernel
theorem dX2_lowestFor_38 : decode cX2_lowestFor 38 = .ok (.ireturn, 1) := by decide +kernel
theorem dX2_lowestFor_39 : decode cX2_lowestFor 39 = .ok (.iinc 3 1, 3) := by decide +kernel
theorem dX2_lowestFor_42 : decode cX2_lowestFor 42 = .ok (.goto (-38), 3) := by decide +kernel
theorem dX2_lowestFor_45 : decode cX2_lowestFor 45 = .ok (.iconst (-1), 1) := by decide +kernel
theorem dX2_lowestFor_46 : decode cX2_lowestFor 46 = .ok (.ireturn, 1) := by decide +kernel
theorem dX2_occupy_0 : decode cX2_occupy 0 = .ok (.aload_n 0, 1) := by decide +kernel
theorem dX2_occupy_1 : decode cX2_occupy 1 = .ok (.iload_n 1, 1) := by decide +kernel
theorem dX2_occupy_2 : decode cX2_occupy 2 = .ok (.iload_n 3, 1) := by decide +kernel
theorem dX2_occupy_3 : decode cX2_occupy 3 = .ok (.iadd, 1) := by decide +kernel
theorem dX2_occupy_4 : decode cX2_occupy 4 = .ok (.invokevirtual 51, 3) := by decide +kernel
theorem dX2_occupy_7 : decode cX2_occupy 7 = .ok (.aload_n 0, 1) := by decide +kernel
theorem dX2_occupy_8 : decode cX2_occupy 8 = .ok (.iload_n 1, 1) := by decide +kernel
theorem dX2_occupy_9 : decode cX2_occupy 9 = .ok (.invokevirtual 40, 3) := by decide +kernel
theorem dX2_occupy_12 : decode cX2_occupy 12 = .ok (.ifCond .ne 4, 3) := by decide +kernel
theorem dX2_occupy_15 : decode cX2_occupy 15 = .ok (.return_, 1) := by decide +kernel
theorem dX2_occupy_16 : decode cX2_occupy 16 = .ok (.aload_n 0, 1) := by decide +kernel
theorem dX2_occupy_17 : decode cX2_occupy 17 = .ok (.getfield 22, 3) := by decide +kernel
theorem dX2_occupy_20 : decode cX2_occupy 20 = .ok (.iload_n 1, 1) := by decide +kernel
theorem dX2_occupy_21 : decode cX2_occupy 21 = .ok (.iload_n 3, 1) := by decide +kernel
theorem dX2_occupy_22 : decode cX2_occupy 22 = .ok (.iastore, 1) := by decide +kernel
theorem dX2_occupy_23 : decode cX2_occupy 23 = .ok (.aload_n 0, 1) := by decide +kernel
theorem dX2_occupy_24 : decode cX2_occupy 24 = .ok (.getfield 25, 3) := by decide +kernel
theorem dX2_occupy_27 : decode cX2_occupy 27 = .ok (.iload_n 1, 1) := by decide +kernel
theorem dX2_occupy_28 : decode cX2_occupy 28 = .ok (.iload_n 2, 1) := by decide +kernel
theorem dX2_occupy_29 : decode cX2_occupy 29 = .ok (.iastore, 1) := by decide +kernel
theorem dX2_occupy_30 : decode cX2_occupy 30 = .ok (.aload_n 0, 1) := by decide +kernel
theorem dX2_occupy_31 : decode cX2_occupy 31 = .ok (.getfield 28, 3) := by decide +kernel
theorem dX2_occupy_34 : decode cX2_occupy 34 = .ok (.iload_n 1, 1) := by decide +kernel
theorem dX2_occupy_35 : decode cX2_occupy 35 = .ok (.iload 4, 2) := by decide +kernel
theorem dX2_occupy_37 : decode cX2_occupy 37 = .ok (.iastore, 1) := by decide +kernel
theorem dX2_occupy_38 : decode cX2_occupy 38 = .ok (.aload_n 0, 1) := by decide +kernel
theorem dX2_occupy_39 : decode cX2_occupy 39 = .ok (.getfield 31, 3) := by decide +kernel
theorem dX2_occupy_42 : decode cX2_occupy 42 = .ok (.iload_n 1, 1) := by decide +kernel
theorem dX2_occupy_43 : decode cX2_occupy 43 = .ok (.iconst 0, 1) := by decide +kernel
theorem dX2_occupy_44 : decode cX2_occupy 44 = .ok (.iastore, 1) := by decide +kernel
theorem dX2_occupy_45 : decode cX2_occupy 45 = .ok (.aload_n 0, 1) := by decide +kernel
theorem dX2_occupy_46 : decode cX2_occupy 46 = .ok (.iload_n 1, 1) := by decide +kernel
theorem dX2_occupy_47 : decode cX2_occupy 47 = .ok (.iload_n 3, 1) := by decide +kernel
theorem dX2_occupy_48 : decode cX2_occupy 48 = .ok (.iload_n 1, 1) := by decide +kernel
theorem dX2_occupy_49 : decode cX2_occupy 49 = .ok (.invokevirtual 55, 3) := by decide +kernel
theorem dX2_occupy_52 : decode cX2_occupy 52 = .ok (.return_, 1) := by decide +kernel
theorem dX2_growTo_0 : decode cX2_growTo 0 = .ok (.iconst 0, 1) := by decide +kernel
theorem dX2_growTo_1 : decode cX2_growTo 1 = .ok (.istore_n 2, 1) := by decide +kernel
theorem dX2_growTo_2 : decode cX2_growTo 2 = .ok (.iload_n 2, 1) := by decide +kernel
theorem dX2_growTo_3 : decode cX2_growTo 3 = .ok (.iconst 2, 1) := by decide +kernel
theorem dX2_growTo_4 : decode cX2_growTo 4 = .ok (.if_icmp .ge 36, 3) := by decide +kernel
theorem dX2_growTo_7 : decode cX2_growTo 7 = .ok (.aload_n 0, 1) := by decide +kernel
theorem dX2_growTo_8 : decode cX2_growTo 8 = .ok (.getfield 9, 3) := by decide +kernel
theorem dX2_growTo_11 : decode cX2_growTo 11 = .ok (.iload_n 1, 1) := by decide +kernel
theorem dX2_growTo_12 : decode cX2_growTo 12 = .ok (.if_icmp .ge 22, 3) := by decide +kernel
theorem dX2_growTo_15 : decode cX2_growTo 15 = .ok (.aload_n 0, 1) := by decide +kernel
theorem dX2_growTo_16 : decode cX2_growTo 16 = .ok (.getfield 9, 3) := by decide +kernel
theorem dX2_growTo_19 : decode cX2_growTo 19 = .ok (.bipush 64, 2) := by decide +kernel
theorem dX2_growTo_21 : decode cX2_growTo 21 = .ok (.if_icmp .ge 13, 3) := by decide +kernel
theorem dX2_growTo_24 : decode cX2_growTo 24 = .ok (.aload_n 0, 1) := by decide +kernel
theorem dX2_growTo_25 : decode cX2_growTo 25 = .ok (.iconst 2, 1) := by decide +kernel
theorem dX2_growTo_26 : decode cX2_growTo 26 = .ok (.aload_n 0, 1) := by decide +kernel
theorem dX2_growTo_27 : decode cX2_growTo 27 = .ok (.getfield 9, 3) := by decide +kernel
theorem dX2_growTo_30 : decode cX2_growTo 30 = .ok (.imul, 1) := by decide +kernel
theorem dX2_growTo_31 : decode cX2_growTo 31 = .ok (.putfield 9, 3) := by decide +kernel
theorem dX2_growTo_34 : decode cX2_growTo 34 = .ok (.iinc 2 1, 3) := by decide +kernel
theorem dX2_growTo_37 : decode cX2_growTo 37 = .ok (.goto (-35), 3) := by decide +kernel
theorem dX2_growTo_40 : decode cX2_growTo 40 = .ok (.return_, 1) := by decide +kernel
theorem dX2_giveCells_0 : decode cX2_giveCells 0 = .ok (.iload_n 1, 1) := by decide +kernel
theorem dX2_giveCells_1 : decode cX2_giveCells 1 = .ok (.istore 4, 2) := by decide +kernel
theorem dX2_giveCells_3 : decode cX2_giveCells 3 = .ok (.iload 4, 2) := by decide +kernel
theorem dX2_giveCells_5 : decode cX2_giveCells 5 = .ok (.iload_n 1, 1) := by decide +kernel
theorem dX2_giveCells_6 : decode cX2_giveCells 6 = .ok (.iload_n 2, 1) := by decide +kernel
theorem dX2_giveCells_7 : decode cX2_giveCells 7 = .ok (.iadd, 1) := by decide +kernel
theorem dX2_giveCells_8 : decode cX2_giveCells 8 = .ok (.if_icmp .ge 26, 3) := by decide +kernel
theorem dX2_giveCells_11 : decode cX2_giveCells 11 = .ok (.aload_n 0, 1) := by decide +kernel
theorem dX2_giveCells_12 : decode cX2_giveCells 12 = .ok (.iload 4, 2) := by decide +kernel
theorem dX2_giveCells_14 : decode cX2_giveCells 14 = .ok (.invokevirtual 40, 3) := by decide +kernel
theorem dX2_giveCells_17 : decode cX2_giveCells 17 = .ok (.ifCond .eq 11, 3) := by decide +kernel
theorem dX2_giveCells_20 : decode cX2_giveCells 20 = .ok (.aload_n 0, 1) := by decide +kernel
theorem dX2_giveCells_21 : decode cX2_giveCells 21 = .ok (.getfield 19, 3) := by decide +kernel
theorem dX2_giveCells_24 : decode cX2_giveCells 24 = .ok (.iload 4, 2) := by decide +kernel
theorem dX2_giveCells_26 : decode cX2_giveCells 26 = .ok (.iload_n 3, 1) := by decide +kernel
theorem dX2_giveCells_27 : decode cX2_giveCells 27 = .ok (.iastore, 1) := by decide +kernel
theorem dX2_giveCells_28 : decode cX2_giveCells 28 = .ok (.iinc 4 1, 3) := by decide +kernel
theorem dX2_giveCells_31 : decode cX2_giveCells 31 = .ok (.goto (-28), 3) := by decide +kernel
theorem dX2_giveCells_34 : decode cX2_giveCells 34 = .ok (.return_, 1) := by decide +kernel
theorem dX2_release_0 : decode cX2_release 0 = .ok (.aload_n 0, 1) := by decide +kernel
theorem dX2_release_1 : decode cX2_release 1 = .ok (.iload_n 1, 1) := by decide +kernel
theorem dX2_release_2 : decode cX2_release 2 = .ok (.invokevirtual 40, 3) := by decide +kernel
theorem dX2_release_5 : decode cX2_release 5 = .ok (.ifCond .ne 4, 3) := by decide +kernel
theorem dX2_release_8 : decode cX2_release 8 = .ok (.return_, 1) := by decide +kernel
theorem dX2_release_9 : decode cX2_release 9 = .ok (.aload_n 0, 1) := by decide +kernel
theorem dX2_release_10 : decode cX2_release 10 = .ok (.iload_n 1, 1) := by decide +kernel
theorem dX2_release_11 : decode cX2_release 11 = .ok (.aload_n 0, 1) := by decide +kernel
theorem dX2_release_12 : decode cX2_release 12 = .ok (.getfield 22, 3) := by decide +kernel
theorem dX2_release_15 : decode cX2_release 15 = .ok (.iload_n 1, 1) := by decide +kernel
theorem dX2_release_16 : decode cX2_release 16 = .ok (.iaload, 1) := by decide +kernel
theorem dX2_release_17 : decode cX2_release 17 = .ok (.iconst (-1), 1) := by decide +kernel
theorem dX2_release_18 : decode cX2_release 18 = .ok (.invokevirtual 55, 3) := by decide +kernel
theorem dX2_release_21 : decode cX2_release 21 = .ok (.aload_n 0, 1) := by decide +kernel
theorem dX2_release_22 : decode cX2_release 22 = .ok (.getfield 22, 3) := by decide +kernel
theorem dX2_release_25 : decode cX2_release 25 = .ok (.iload_n 1, 1) := by decide +kernel
theorem dX2_release_26 : decode cX2_release 26 = .ok (.iconst 0, 1) := by decide +kernel
theorem dX2_release_27 : decode cX2_release 27 = .ok (.iastore, 1) := by decide +kernel
theorem dX2_release_28 : decode cX2_release 28 = .ok (.aload_n 0, 1) := by decide +kernel
theorem dX2_release_29 : decode cX2_release 29 = .ok (.getfield 15, 3) := by decide +kernel
theorem dX2_release_32 : decode cX2_release 32 = .ok (.iload_n 1, 1) := by decide +kernel
theorem dX2_release_33 : decode cX2_release 33 = .ok (.aload_n 0, 1) := by decide +kernel
theorem dX2_release_34 : decode cX2_release 34 = .ok (.getfield 15, 3) := by decide +kernel
theorem dX2_release_37 : decode cX2_release 37 = .ok (.iload_n 1, 1) := by decide +kernel
theorem dX2_release_38 : decode cX2_release 38 = .ok (.iaload, 1) := by decide +kernel
theorem dX2_release_39 : decode cX2_release 39 = .ok (.iconst 1, 1) := by decide +kernel
theorem dX2_release_40 : decode cX2_release 40 = .ok (.iadd, 1) := by decide +kernel
theorem dX2_release_41 : decode cX2_release 41 = .ok (.sipush 1000, 3) := by decide +kernel
theorem dX2_release_44 : decode cX2_release 44 = .ok (.irem, 1) := by decide +kernel
theorem dX2_release_45 : decode cX2_release 45 = .ok (.iastore, 1) := by decide +kernel
theorem dX2_release_46 : decode cX2_release 46 = .ok (.return_, 1) := by decide +kernel
theorem dX2_carry_0 : decode cX2_carry 0 = .ok (.aload_n 0, 1) := by decide +kernel
theorem dX2_carry_1 : decode cX2_carry 1 = .ok (.iload_n 1, 1) := by decide +kernel
theorem dX2_carry_2 : decode cX2_carry 2 = .ok (.invokevirtual 59, 3) := by decide +kernel
theorem dX2_carry_5 : decode cX2_carry 5 = .ok (.istore_n 3, 1) := by decide +kernel
theorem dX2_carry_6 : decode cX2_carry 6 = .ok (.aload_n 0, 1) := by decide +kernel
theorem dX2_carry_7 : decode cX2_carry 7 = .ok (.iload_n 1, 1) := by decide +kernel
theorem dX2_carry_8 : decode cX2_carry 8 = .ok (.invokevirtual 48, 3) := by decide +kernel
theorem dX2_carry_11 : decode cX2_carry 11 = .ok (.istore 4, 2) := by decide +kernel
theorem dX2_carry_13 : decode cX2_carry 13 = .ok (.aload_n 0, 1) := by decide +kernel
theorem dX2_carry_14 : decode cX2_carry 14 = .ok (.iload_n 1, 1) := by decide +kernel
theorem dX2_carry_15 : decode cX2_carry 15 = .ok (.invokevirtual 62, 3) := by decide +kernel
theorem dX2_carry_18 : decode cX2_carry 18 = .ok (.istore 5, 2) := by decide +kernel
theorem dX2_carry_20 : decode cX2_carry 20 = .ok (.aload_n 0, 1) := by decide +kernel
theorem dX2_carry_21 : decode cX2_carry 21 = .ok (.iload_n 1, 1) := by decide +kernel
theorem dX2_carry_22 : decode cX2_carry 22 = .ok (.invokevirtual 65, 3) := by decide +kernel
theorem dX2_carry_25 : decode cX2_carry 25 = .ok (.istore 6, 2) := by decide +kernel
theorem dX2_carry_27 : decode cX2_carry 27 = .ok (.aload_n 0, 1) := by decide +kernel
theorem dX2_carry_28 : decode cX2_carry 28 = .ok (.iload_n 1, 1) := by decide +kernel
theorem dX2_carry_29 : decode cX2_carry 29 = .ok (.invokevirtual 68, 3) := by decide +kernel
theorem dX2_carry_32 : decode cX2_carry 32 = .ok (.aload_n 0, 1) := by decide +kernel
theorem dX2_carry_33 : decode cX2_carry 33 = .ok (.iload_n 2, 1) := by decide +kernel
theorem dX2_carry_34 : decode cX2_carry 34 = .ok (.iload_n 3, 1) := by decide +kernel
theorem dX2_carry_35 : decode cX2_carry 35 = .ok (.iload 4, 2) := by decide +kernel
theorem dX2_carry_37 : decode cX2_carry 37 = .ok (.iload 5, 2) := by decide +kernel
theorem dX2_carry_39 : decode cX2_carry 39 = .ok (.invokevirtual 71, 3) := by decide +kernel
theorem dX2_carry_42 : decode cX2_carry 42 = .ok (.aload_n 0, 1) := by decide +kernel
theorem dX2_carry_43 : decode cX2_carry 43 = .ok (.iload_n 2, 1) := by decide +kernel
theorem dX2_carry_44 : decode cX2_carry 44 = .ok (.iload 6, 2) := by decide +kernel
theorem dX2_carry_46 : decode cX2_carry 46 = .ok (.invokevirtual 75, 3) := by decide +kernel
theorem dX2_carry_49 : decode cX2_carry 49 = .ok (.return_, 1) := by decide +kernel
theorem dX2_setValue_0 : decode cX2_setValue 0 = .ok (.aload_n 0, 1) := by decide +kernel
theorem dX2_setValue_1 : decode cX2_setValue 1 = .ok (.iload_n 1, 1) := by decide +kernel
theorem dX2_setValue_2 : decode cX2_setValue 2 = .ok (.invokevirtual 40, 3) := by decide +kernel
theorem dX2_setValue_5 : decode cX2_setValue 5 = .ok (.ifCond .eq 10, 3) := by decide +kernel
theorem dX2_setValue_8 : decode cX2_setValue 8 = .ok (.aload_n 0, 1) := by decide +kernel
theorem dX2_setValue_9 : decode cX2_setValue 9 = .ok (.getfield 25, 3) := by decide +kernel
theorem dX2_setValue_12 : decode cX2_setValue 12 = .ok (.iload_n 1, 1) := by decide +kernel
theorem dX2_setValue_13 : decode cX2_setValue 13 = .ok (.iload_n 2, 1) := by decide +kernel
theorem dX2_setValue_14 : decode cX2_setValue 14 = .ok (.iastore, 1) := by decide +kernel
theorem dX2_setValue_15 : decode cX2_setValue 15 = .ok (.return_, 1) := by decide +kernel
theorem dX2_setTimesFired_0 : decode cX2_setTimesFired 0 = .ok (.aload_n 0, 1) := by decide +kernel
theorem dX2_setTimesFired_1 : decode cX2_setTimesFired 1 = .ok (.iload_n 1, 1) := by decide +kernel
theorem dX2_setTimesFired_2 : decode cX2_setTimesFired 2 = .ok (.invokevirtual 40, 3) := by decide +kernel
theorem dX2_setTimesFired_5 : decode cX2_setTimesFired 5 = .ok (.ifCond .eq 10, 3) := by decide +kernel
theorem dX2_setTimesFired_8 : decode cX2_setTimesFired 8 = .ok (.aload_n 0, 1) := by decide +kernel
theorem dX2_setTimesFired_9 : decode cX2_setTimesFired 9 = .ok (.getfield 31, 3) := by decide +kernel
theorem dX2_setTimesFired_12 : decode cX2_setTimesFired 12 = .ok (.iload_n 1, 1) := by decide +kernel
theorem dX2_setTimesFired_13 : decode cX2_setTimesFired 13 = .ok (.iload_n 2, 1) := by decide +kernel
theorem dX2_setTimesFired_14 : decode cX2_setTimesFired 14 = .ok (.iastore, 1) := by decide +kernel
theorem dX2_setTimesFired_15 : decode cX2_setTimesFired 15 = .ok (.return_, 1) := by decide +kernel
theorem dX2_freeCells_0 : decode cX2_freeCells 0 = .ok (.aload_n 0, 1) := by decide +kernel
theorem dX2_freeCells_1 : decode cX2_freeCells 1 = .ok (.iconst 1, 1) := by decide +kernel
theorem dX2_freeCells_2 : decode cX2_freeCells 2 = .ok (.invokevirtual 79, 3) := by decide +kernel
theorem dX2_freeCells_5 : decode cX2_freeCells 5 = .ok (.ireturn, 1) := by decide +kernel
theorem dX2_sumOfValues_0 : decode cX2_sumOfValues 0 = .ok (.iconst 0, 1) := by decide +kernel
theorem dX2_sumOfValues_1 : decode cX2_sumOfValues 1 = .ok (.istore_n 1, 1) := by decide +kernel
theorem dX2_sumOfValues_2 : decode cX2_sumOfValues 2 = .ok (.iconst 0, 1) := by decide +kernel
theorem dX2_sumOfValues_3 : decode cX2_sumOfValues 3 = .ok (.istore_n 2, 1) := by decide +kernel
theorem dX2_sumOfValues_4 : decode cX2_sumOfValues 4 = .ok (.iload_n 2, 1) := by decide +kernel
theorem dX2_sumOfValues_5 : decode cX2_sumOfValues 5 = .ok (.aload_n 0, 1) := by decide +kernel
theorem dX2_sumOfValues_6 : decode cX2_sumOfValues 6 = .ok (.getfield 9, 3) := by decide +kernel
theorem dX2_sumOfValues_9 : decode cX2_sumOfValues 9 = .ok (.if_icmp .ge 25, 3) := by decide +kernel
theorem dX2_sumOfValues_12 : decode cX2_sumOfValues 12 = .ok (.aload_n 0, 1) := by decide +kernel
theorem dX2_sumOfValues_13 : decode cX2_sumOfValues 13 = .ok (.iload_n 2, 1) := by decide +kernel
theorem dX2_sumOfValues_14 : decode cX2_sumOfValues 14 = .ok (.invokevirtual 48, 3) := by decide +kernel
theorem dX2_sumOfValues_17 : decode cX2_sumOfValues 17 = .ok (.ifCond .le 11, 3) := by decide +kernel
theorem dX2_sumOfValues_20 : decode cX2_sumOfValues 20 = .ok (.iload_n 1, 1) := by decide +kernel
theorem dX2_sumOfValues_21 : decode cX2_sumOfValues 21 = .ok (.aload_n 0, 1) := by decide +kernel
theorem dX2_sumOfValues_22 : decode cX2_sumOfValues 22 = .ok (.iload_n 2, 1) := by decide +kernel
theorem dX2_sumOfValues_23 : decode cX2_sumOfValues 23 = .ok (.invokevirtual 59, 3) := by decide +kernel
theorem dX2_sumOfValues_26 : decode cX2_sumOfValues 26 = .ok (.iadd, 1) := by decide +kernel
theorem dX2_sumOfValues_27 : decode cX2_sumOfValues 27 = .ok (.istore_n 1, 1) := by decide +kernel
theorem dX2_sumOfValues_28 : decode cX2_sumOfValues 28 = .ok (.iinc 2 1, 3) := by decide +kernel
theorem dX2_sumOfValues_31 : decode cX2_sumOfValues 31 = .ok (.goto (-27), 3) := by decide +kernel
theorem dX2_sumOfValues_34 : decode cX2_sumOfValues 34 = .ok (.iload_n 1, 1) := by decide +kernel
theorem dX2_sumOfValues_35 : decode cX2_sumOfValues 35 = .ok (.ireturn, 1) := by decide +kernel
theorem dX2_roomFor_0 : decode cX2_roomFor 0 = .ok (.iconst 0, 1) := by decide +kernel
theorem dX2_roomFor_1 : decode cX2_roomFor 1 = .ok (.istore_n 2, 1) := by decide +kernel
theorem dX2_roomFor_2 : decode cX2_roomFor 2 = .ok (.iconst 0, 1) := by decide +kernel
theorem dX2_roomFor_3 : decode cX2_roomFor 3 = .ok (.istore_n 3, 1) := by decide +kernel
theorem dX2_roomFor_4 : decode cX2_roomFor 4 = .ok (.iconst 0, 1) := by decide +kernel
theorem dX2_roomFor_5 : decode cX2_roomFor 5 = .ok (.istore 4, 2) := by decide +kernel
theorem dX2_roomFor_7 : decode cX2_roomFor 7 = .ok (.iload 4, 2) := by decide +kernel
theorem dX2_roomFor_9 : decode cX2_roomFor 9 = .ok (.aload_n 0, 1) := by decide +kernel
theorem dX2_roomFor_10 : decode cX2_roomFor 10 = .ok (.getfield 9, 3) := by decide +kernel
theorem dX2_roomFor_13 : decode cX2_roomFor 13 = .ok (.if_icmp .ge 37, 3) := by decide +kernel
theorem dX2_roomFor_16 : decode cX2_roomFor 16 = .ok (.aload_n 0, 1) := by decide +kernel
theorem dX2_roomFor_17 : decode cX2_roomFor 17 = .ok (.iload 4, 2) := by decide +kernel
theorem dX2_roomFor_19 : decode cX2_roomFor 19 = .ok (.invokevirtual 82, 3) := by decide +kernel
theorem dX2_roomFor_22 : decode cX2_roomFor 22 = .ok (.iconst (-1), 1) := by decide +kernel
theorem dX2_roomFor_23 : decode cX2_roomFor 23 = .ok (.if_icmp .ne 9, 3) := by decide +kernel
theorem dX2_roomFor_26 : decode cX2_roomFor 26 = .ok (.iload_n 3, 1) := by decide +kernel
theorem dX2_roomFor_27 : decode cX2_roomFor 27 = .ok (.iconst 1, 1) := by decide +kernel
theorem dX2_roomFor_28 : decode cX2_roomFor 28 = .ok (.iadd, 1) := by decide +kernel
theorem dX2_roomFor_29 : decode cX2_roomFor 29 = .ok (.goto 4, 3) := by decide +kernel
theorem dX2_roomFor_32 : decode cX2_roomFor 32 = .ok (.iconst 0, 1) := by decide +kernel
theorem dX2_roomFor_33 : decode cX2_roomFor 33 = .ok (.istore_n 3, 1) := by decide +kernel
theorem dX2_roomFor_34 : decode cX2_roomFor 34 = .ok (.iload_n 3, 1) := by decide +kernel
theorem dX2_roomFor_35 : decode cX2_roomFor 35 = .ok (.iload_n 1, 1) := by decide +kernel
theorem dX2_roomFor_36 : decode cX2_roomFor 36 = .ok (.if_icmp .ne 8, 3) := by decide +kernel
theorem dX2_roomFor_39 : decode cX2_roomFor 39 = .ok (.iinc 2 1, 3) := by decide +kernel
theorem dX2_roomFor_42 : decode cX2_roomFor 42 = .ok (.iconst 0, 1) := by decide +kernel
theorem dX2_roomFor_43 : decode cX2_roomFor 43 = .ok (.istore_n 3, 1) := by decide +kernel
theorem dX2_roomFor_44 : decode cX2_roomFor 44 = .ok (.iinc 4 1, 3) := by decide +kernel
theorem dX2_roomFor_47 : decode cX2_roomFor 47 = .ok (.goto (-40), 3) := by decide +kernel
theorem dX2_roomFor_50 : decode cX2_roomFor 50 = .ok (.iload_n 2, 1) := by decide +kernel
theorem dX2_roomFor_51 : decode cX2_roomFor 51 = .ok (.ireturn, 1) := by decide +kernel
theorem dX2_longestGap_0 : decode cX2_longestGap 0 = .ok (.iconst 0, 1) := by decide +kernel
theorem dX2_longestGap_1 : decode cX2_longestGap 1 = .ok (.istore_n 1, 1) := by decide +kernel
theorem dX2_longestGap_2 : decode cX2_longestGap 2 = .ok (.iconst 0, 1) := by decide +kernel
theorem dX2_longestGap_3 : decode cX2_longestGap 3 = .ok (.istore_n 2, 1) := by decide +kernel
theorem dX2_longestGap_4 : decode cX2_longestGap 4 = .ok (.iconst 0, 1) := by decide +kernel
theorem dX2_longestGap_5 : decode cX2_longestGap 5 = .ok (.istore_n 3, 1) := by decide +kernel
theorem dX2_longestGap_6 : decode cX2_longestGap 6 = .ok (.iload_n 3, 1) := by decide +kernel
theorem dX2_longestGap_7 : decode cX2_longestGap 7 = .ok (.aload_n 0, 1) := by decide +kernel
theorem dX2_longestGap_8 : decode cX2_longestGap 8 = .ok (.getfield 9, 3) := by decide +kernel
theorem dX2_longestGap_11 : decode cX2_longestGap 11 = .ok (.if_icmp .ge 32, 3) := by decide +kernel
theorem dX2_longestGap_14 : decode cX2_longestGap 14 = .ok (.aload_n 0, 1) := by decide +kernel
theorem dX2_longestGap_15 : decode cX2_longestGap 15 = .ok (.iload_n 3, 1) := by decide +kernel
theorem dX2_longestGap_16 : decode cX2_longestGap 16 = .ok (.invokevirtual 82, 3) := by decide +kernel
theorem dX2_longestGap_19 : decode cX2_longestGap 19 = .ok (.iconst (-1), 1) := by decide +kernel
theorem dX2_longestGap_20 : decode cX2_longestGap 20 = .ok (.if_icmp .ne 9, 3) := by decide +kernel
theorem dX2_longestGap_23 : decode cX2_longestGap 23 = .ok (.iload_n 2, 1) := by decide +kernel
theorem dX2_longestGap_24 : decode cX2_longestGap 24 = .ok (.iconst 1, 1) := by decide +kernel
theorem dX2_longestGap_25 : decode cX2_longestGap 25 = .ok (.iadd, 1) := by decide +kernel
theorem dX2_longestGap_26 : decode cX2_longestGap 26 = .ok (.goto 4, 3) := by decide +kernel
theorem dX2_longestGap_29 : decode cX2_longestGap 29 = .ok (.iconst 0, 1) := by decide +kernel
theorem dX2_longestGap_30 : decode cX2_longestGap 30 = .ok (.istore_n 2, 1) := by decide +kernel
theorem dX2_longestGap_31 : decode cX2_longestGap 31 = .ok (.iload_n 1, 1) := by decide +kernel
theorem dX2_longestGap_32 : decode cX2_longestGap 32 = .ok (.iload_n 2, 1) := by decide +kernel
theorem dX2_longestGap_33 : decode cX2_longestGap 33 = .ok (.invokestatic 85, 3) := by decide +kernel
theorem dX2_longestGap_36 : decode cX2_longestGap 36 = .ok (.istore_n 1, 1) := by decide +kernel
theorem dX2_longestGap_37 : decode cX2_longestGap 37 = .ok (.iinc 3 1, 3) := by decide +kernel
theorem dX2_longestGap_40 : decode cX2_longestGap 40 = .ok (.goto (-34), 3) := by decide +kernel
theorem dX2_longestGap_43 : decode cX2_longestGap 43 = .ok (.iload_n 1, 1) := by decide +kernel
theorem dX2_longestGap_44 : decode cX2_longestGap 44 = .ok (.ireturn, 1) := by decide +kernel
theorem dX2_beginOfLongestGap_0 : decode cX2_beginOfLongestGap 0 = .ok (.iconst 0, 1) := by decide +kernel
theorem dX2_beginOfLongestGap_1 : decode cX2_beginOfLongestGap 1 = .ok (.istore_n 1, 1) := by decide +kernel
theorem dX2_beginOfLongestGap_2 : decode cX2_beginOfLongestGap 2 = .ok (.iconst (-1), 1) := by decide +kernel
theorem dX2_beginOfLongestGap_3 : decode cX2_beginOfLongestGap 3 = .ok (.istore_n 2, 1) := by decide +kernel
theorem dX2_beginOfLongestGap_4 : decode cX2_beginOfLongestGap 4 = .ok (.iconst 0, 1) := by decide +kernel
theorem dX2_beginOfLongestGap_5 : decode cX2_beginOfLongestGap 5 = .ok (.istore_n 3, 1) := by decide +kernel
theorem dX2_beginOfLongestGap_6 : decode cX2_beginOfLongestGap 6 = .ok (.iconst 0, 1) := by decide +kernel
theorem dX2_beginOfLongestGap_7 : decode cX2_beginOfLongestGap 7 = .ok (.istore 4, 2) := by decide +kernel
theorem dX2_beginOfLongestGap_9 : decode cX2_beginOfLongestGap 9 = .ok (.iload 4, 2) := by decide +kernel
theorem dX2_beginOfLongestGap_11 : decode cX2_beginOfLongestGap 11 = .ok (.aload_n 0, 1) := by decide +kernel
theorem dX2_beginOfLongestGap_12 : decode cX2_beginOfLongestGap 12 = .ok (.getfield 9, 3) := by decide +kernel
theorem dX2_beginOfLongestGap_15 : decode cX2_beginOfLongestGap 15 = .ok (.if_icmp .ge 41, 3) := by decide +kernel
theorem dX2_beginOfLongestGap_18 : decode cX2_beginOfLongestGap 18 = .ok (.aload_n 0, 1) := by decide +kernel
theorem dX2_beginOfLongestGap_19 : decode cX2_beginOfLongestGap 19 = .ok (.iload 4, 2) := by decide +kernel
theorem dX2_beginOfLongestGap_21 : decode cX2_beginOfLongestGap 21 = .ok (.invokevirtual 82, 3) := by decide +kernel
theorem dX2_beginOfLongestGap_24 : decode cX2_beginOfLongestGap 24 = .ok (.iconst (-1), 1) := by decide +kernel
theorem dX2_beginOfLongestGap_25 : decode cX2_beginOfLongestGap 25 = .ok (.if_icmp .ne 9, 3) := by decide +kernel
theorem dX2_beginOfLongestGap_28 : decode cX2_beginOfLongestGap 28 = .ok (.iload_n 3, 1) := by decide +kernel
theorem dX2_beginOfLongestGap_29 : decode cX2_beginOfLongestGap 29 = .ok (.iconst 1, 1) := by decide +kernel
theorem dX2_beginOfLongestGap_30 : decode cX2_beginOfLongestGap 30 = .ok (.iadd, 1) := by decide +kernel
theorem dX2_beginOfLongestGap_31 : decode cX2_beginOfLongestGap 31 = .ok (.goto 4, 3) := by decide +kernel
theorem dX2_beginOfLongestGap_34 : decode cX2_beginOfLongestGap 34 = .ok (.iconst 0, 1) := by decide +kernel
theorem dX2_beginOfLongestGap_35 : decode cX2_beginOfLongestGap 35 = .ok (.istore_n 3, 1) := by decide +kernel
theorem dX2_beginOfLongestGap_36 : decode cX2_beginOfLongestGap 36 = .ok (.iload_n 3, 1) := by decide +kernel
theorem dX2_beginOfLongestGap_37 : decode cX2_beginOfLongestGap 37 = .ok (.iload_n 1, 1) := by decide +kernel
theorem dX2_beginOfLongestGap_38 : decode cX2_beginOfLongestGap 38 = .ok (.if_icmp .le 12, 3) := by decide +kernel
theorem dX2_beginOfLongestGap_41 : decode cX2_beginOfLongestGap 41 = .ok (.iload_n 3, 1) := by decide +kernel
theorem dX2_beginOfLongestGap_42 : decode cX2_beginOfLongestGap 42 = .ok (.istore_n 1, 1) := by decide +kernel
theorem dX2_beginOfLongestGap_43 : decode cX2_beginOfLongestGap 43 = .ok (.iload 4, 2) := by decide +kernel
theorem dX2_beginOfLongestGap_45 : decode cX2_beginOfLongestGap 45 = .ok (.iload_n 3, 1) := by decide +kernel
theorem dX2_beginOfLongestGap_46 : decode cX2_beginOfLongestGap 46 = .ok (.isub, 1) := by decide +kernel
theorem dX2_beginOfLongestGap_47 : decode cX2_beginOfLongestGap 47 = .ok (.iconst 1, 1) := by decide +kernel
theorem dX2_beginOfLongestGap_48 : decode cX2_beginOfLongestGap 48 = .ok (.iadd, 1) := by decide +kernel
theorem dX2_beginOfLongestGap_49 : decode cX2_beginOfLongestGap 49 = .ok (.istore_n 2, 1) := by decide +kernel
theorem dX2_beginOfLongestGap_50 : decode cX2_beginOfLongestGap 50 = .ok (.iinc 4 1, 3) := by decide +kernel
theorem dX2_beginOfLongestGap_53 : decode cX2_beginOfLongestGap 53 = .ok (.goto (-44), 3) := by decide +kernel
theorem dX2_beginOfLongestGap_56 : decode cX2_beginOfLongestGap 56 = .ok (.iload_n 2, 1) := by decide +kernel
theorem dX2_beginOfLongestGap_57 : decode cX2_beginOfLongestGap 57 = .ok (.ireturn, 1) := by decide +kernel
theorem dX3_init_0 : decode cX3_init 0 = .ok (.aload_n 0, 1) := by decide +kernel
theorem dX3_init_1 : decode cX3_init 1 = .ok (.invokespecial 3, 3) := by decide +kernel
theorem dX3_init_4 : decode cX3_init 4 = .ok (.aload_n 0, 1) := by decide +kernel
theorem dX3_init_5 : decode cX3_init 5 = .ok (.new 9, 3) := by decide +kernel
theorem dX3_init_8 : decode cX3_init 8 = .ok (.dup, 1) := by decide +kernel
theorem dX3_init_9 : decode cX3_init 9 = .ok (.invokespecial 11, 3) := by decide +kernel
theorem dX3_init_12 : decode cX3_init 12 = .ok (.putfield 12, 3) := by decide +kernel
theorem dX3_init_15 : decode cX3_init 15 = .ok (.aload_n 0, 1) := by decide +kernel
theorem dX3_init_16 : decode cX3_init 16 = .ok (.new 18, 3) := by decide +kernel
theorem dX3_init_19 : decode cX3_init 19 = .ok (.dup, 1) := by decide +kernel
theorem dX3_init_20 : decode cX3_init 20 = .ok (.invokespecial 20, 3) := by decide +kernel
theorem dX3_init_23 : decode cX3_init 23 = .ok (.putfield 21, 3) := by decide +kernel
theorem dX3_init_26 : decode cX3_init 26 = .ok (.aload_n 0, 1) := by decide +kernel
theorem dX3_init_27 : decode cX3_init 27 = .ok (.bipush 64, 2) := by decide +kernel
theorem dX3_init_29 : decode cX3_init 29 = .ok (.newarray .int, 2) := by decide +kernel
theorem dX3_init_31 : decode cX3_init 31 = .ok (.putfield 25, 3) := by decide +kernel
theorem dX3_init_34 : decode cX3_init 34 = .ok (.return_, 1) := by decide +kernel
theorem dX3_copyFrom_0 : decode cX3_copyFrom 0 = .ok (.aload_n 0, 1) := by decide +kernel
theorem dX3_copyFrom_1 : decode cX3_copyFrom 1 = .ok (.getfield 12, 3) := by decide +kernel
theorem dX3_copyFrom_4 : decode cX3_copyFrom 4 = .ok (.aload_n 1, 1) := by decide +kernel
theorem dX3_copyFrom_5 : decode cX3_copyFrom 5 = .ok (.getfield 12, 3) := by decide +kernel
theorem dX3_copyFrom_8 : decode cX3_copyFrom 8 = .ok (.invokevirtual 29, 3) := by decide +kernel
theorem dX3_copyFrom_11 : decode cX3_copyFrom 11 = .ok (.aload_n 0, 1) := by decide +kernel
theorem dX3_copyFrom_12 : decode cX3_copyFrom 12 = .ok (.getfield 21, 3) := by decide +kernel
theorem dX3_copyFrom_15 : decode cX3_copyFrom 15 = .ok (.aload_n 1, 1) := by decide +kernel
theorem dX3_copyFrom_16 : decode cX3_copyFrom 16 = .ok (.getfield 21, 3) := by decide +kernel
theorem dX3_copyFrom_19 : decode cX3_copyFrom 19 = .ok (.invokevirtual 33, 3) := by decide +kernel
theorem dX3_copyFrom_22 : decode cX3_copyFrom 22 = .ok (.aload_n 0, 1) := by decide +kernel
theorem dX3_copyFrom_23 : decode cX3_copyFrom 23 = .ok (.aload_n 1, 1) := by decide +kernel
theorem dX3_copyFrom_24 : decode cX3_copyFrom 24 = .ok (.getfield 36, 3) := by decide +kernel
theorem dX3_copyFrom_27 : decode cX3_copyFrom 27 = .ok (.putfield 36, 3) := by decide +kernel
theorem dX3_copyFrom_30 : decode cX3_copyFrom 30 = .ok (.aload_n 0, 1) := by decide +kernel
theorem dX3_copyFrom_31 : decode cX3_copyFrom 31 = .ok (.aload_n 1, 1) := by decide +kernel
theorem dX3_copyFrom_32 : decode cX3_copyFrom 32 = .ok (.getfield 40, 3) := by decide +kernel
theorem dX3_copyFrom_35 : decode cX3_copyFrom 35 = .ok (.putfield 40, 3) := by decide +kernel
theorem dX3_copyFrom_38 : decode cX3_copyFrom 38 = .ok (.aload_n 0, 1) := by decide +kernel
theorem dX3_copyFrom_39 : decode cX3_copyFrom 39 = .ok (.aload_n 1, 1) := by decide +kernel
theorem dX3_copyFrom_40 : decode cX3_copyFrom 40 = .ok (.getfield 43, 3) := by decide +kernel
theorem dX3_copyFrom_43 : decode cX3_copyFrom 43 = .ok (.putfield 43, 3) := by decide +kernel
theorem dX3_copyFrom_46 : decode cX3_copyFrom 46 = .ok (.aload_n 0, 1) := by decide +kernel
theorem dX3_copyFrom_47 : decode cX3_copyFrom 47 = .ok (.aload_n 1, 1) := by decide +kernel
theorem dX3_copyFrom_48 : decode cX3_copyFrom 48 = .ok (.getfield 46, 3) := by decide +kernel
theorem dX3_copyFrom_51 : decode cX3_copyFrom 51 = .ok (.putfield 46, 3) := by decide +kernel
theorem dX3_copyFrom_54 : decode cX3_copyFrom 54 = .ok (.return_, 1) := by decide +kernel
theorem dX3_addAt_0 : decode cX3_addAt 0 = .ok (.aload_n 0, 1) := by decide +kernel
theorem dX3_addAt_1 : decode cX3_addAt 1 = .ok (.getfield 12, 3) := by decide +kernel
theorem dX3_addAt_4 : decode cX3_addAt 4 = .ok (.iload_n 3, 1) := by decide +kernel
theorem dX3_addAt_5 : decode cX3_addAt 5 = .ok (.invokevirtual 49, 3) := by decide +kernel
theorem dX3_addAt_8 : decode cX3_addAt 8 = .ok (.istore 5, 2) := by decide +kernel
theorem dX3_addAt_10 : decode cX3_addAt 10 = .ok (.iload 5, 2) := by decide +kernel
theorem dX3_addAt_12 : decode cX3_addAt 12 = .ok (.iconst (-1), 1) := by decide +kernel
theorem dX3_addAt_13 : decode cX3_addAt 13 = .ok (.if_icmp .eq 36, 3) := by decide +kernel
theorem dX3_addAt_16 : decode cX3_addAt 16 = .ok (.aload_n 0, 1) := by decide +kernel
theorem dX3_addAt_17 : decode cX3_addAt 17 = .ok (.getfield 12, 3) := by decide +kernel
theorem dX3_addAt_20 : decode cX3_addAt 20 = .ok (.iload 5, 2) := by decide +kernel
theorem dX3_addAt_22 : decode cX3_addAt 22 = .ok (.iload_n 2, 1) := by decide +kernel
theorem dX3_addAt_23 : decode cX3_addAt 23 = .ok (.iload_n 3, 1) := by decide +kernel
theorem dX3_addAt_24 : decode cX3_addAt 24 = .ok (.iload 4, 2) := by decide +kernel
theorem dX3_addAt_26 : decode cX3_addAt 26 = .ok (.invokevirtual 53, 3) := by decide +kernel
theorem dX3_addAt_29 : decode cX3_addAt 29 = .ok (.aload_n 0, 1) := by decide +kernel
theorem dX3_addAt_30 : decode cX3_addAt 30 = .ok (.getfield 21, 3) := by decide +kernel
theorem dX3_addAt_33 : decode cX3_addAt 33 = .ok (.iload_n 1, 1) := by decide +kernel
theorem dX3_addAt_34 : decode cX3_addAt 34 = .ok (.iload 5, 2) := by decide +kernel
theorem dX3_addAt_36 : decode cX3_addAt 36 = .ok (.invokevirtual 57, 3) := by decide +kernel
theorem dX3_addAt_39 : decode cX3_addAt 39 = .ok (.aload_n 0, 1) := by decide +kernel
theorem dX3_addAt_40 : decode cX3_addAt 40 = .ok (.dup, 1) := by decide +kernel
theorem dX3_addAt_41 : decode cX3_addAt 41 = .ok (.getfield 40, 3) := by decide +kernel
theorem dX3_addAt_44 : decode cX3_addAt 44 = .ok (.iconst 1, 1) := by decide +kernel
theorem dX3_addAt_45 : decode cX3_addAt 45 = .ok (.iadd, 1) := by decide +kernel
theorem dX3_addAt_46 : decode cX3_addAt 46 = .ok (.putfield 40, 3) := by decide +kernel
theorem dX3_addAt_49 : decode cX3_addAt 49 = .ok (.iload 5, 2) := by decide +kernel
theorem dX3_addAt_51 : decode cX3_addAt 51 = .ok (.ireturn, 1) := by decide +kernel
theorem dX3_drop_0 : decode cX3_drop 0 = .ok (.aload_n 0, 1) := by decide +kernel
theorem dX3_drop_1 : decode cX3_drop 1 = .ok (.getfield 12, 3) := by decide +kernel
theorem dX3_drop_4 : decode cX3_drop 4 = .ok (.iload_n 1, 1) := by decide +kernel
theorem dX3_drop_5 : decode cX3_drop 5 = .ok (.invokevirtual 61, 3) := by decide +kernel
theorem dX3_drop_8 : decode cX3_drop 8 = .ok (.aload_n 0, 1) := by decide +kernel
theorem dX3_drop_9 : decode cX3_drop 9 = .ok (.getfield 21, 3) := by decide +kernel
theorem dX3_drop_12 : decode cX3_drop 12 = .ok (.iload_n 1, 1) := by decide +kernel
theorem dX3_drop_13 : decode cX3_drop 13 = .ok (.invokevirtual 65, 3) := by decide +kernel
theorem dX3_drop_16 : decode cX3_drop 16 = .ok (.aload_n 0, 1) := by decide +kernel
theorem dX3_drop_17 : decode cX3_drop 17 = .ok (.dup, 1) := by decide +kernel
theorem dX3_drop_18 : decode cX3_drop 18 = .ok (.getfield 43, 3) := by decide +kernel
theorem dX3_drop_21 : decode cX3_drop 21 = .ok (.iconst 1, 1) := by decide +kernel
theorem dX3_drop_22 : decode cX3_drop 22 = .ok (.iadd, 1) := by decide +kernel
theorem dX3_drop_23 : decode cX3_drop 23 = .ok (.putfield 43, 3) := by decide +kernel
theorem dX3_drop_26 : decode cX3_drop 26 = .ok (.return_, 1) := by decide +kernel
theorem dX3_fireThings_0 : decode cX3_fireThings 0 = .ok (.aload_n 0, 1) := by decide +kernel
theorem dX3_fireThings_1 : decode cX3_fireThings 1 = .ok (.getfield 21, 3) := by decide +kernel
theorem dX3_fireThings_4 : decode cX3_fireThings 4 = .ok (.aload_n 0, 1) := by decide +kernel
theorem dX3_fireThings_5 : decode cX3_fireThings 5 = .ok (.getfield 25, 3) := by decide +kernel
theorem dX3_fireThings_8 : decode cX3_fireThings 8 = .ok (.invokevirtual 68, 3) := by decide +kernel
theorem dX3_fireThings_11 : decode cX3_fireThings 11 = .ok (.istore_n 1, 1) := by decide +kernel
theorem dX3_fireThings_12 : decode cX3_fireThings 12 = .ok (.iconst 0, 1) := by decide +kernel
theorem dX3_fireThings_13 : decode cX3_fireThings 13 = .ok (.istore_n 2, 1) := by decide +kernel
theorem dX3_fireThings_14 : decode cX3_fireThings 14 = .ok (.iconst 0, 1) := by decide +kernel
theorem dX3_fireThings_15 : decode cX3_fireThings 15 = .ok (.istore_n 3, 1) := by decide +kernel
theorem dX3_fireThings_16 : decode cX3_fireThings 16 = .ok (.iload_n 3, 1) := by decide +kernel
theorem dX3_fireThings_17 : decode cX3_fireThings 17 = .ok (.iload_n 1, 1) := by decide +kernel
theorem dX3_fireThings_18 : decode cX3_fireThings 18 = .ok (.if_icmp .ge 109, 3) := by decide +kernel
theorem dX3_fireThings_21 : decode cX3_fireThings 21 = .ok (.aload_n 0, 1) := by decide +kernel
theorem dX3_fireThings_22 : decode cX3_fireThings 22 = .ok (.getfield 25, 3) := by decide +kernel
theorem dX3_fireThings_25 : decode cX3_fireThings 25 = .ok (.iload_n 3, 1) := by decide +kernel
theorem dX3_fireThings_26 : decode cX3_fireThings 26 = .ok (.iaload, 1) := by decide +kernel
theorem dX3_fireThings_27 : decode cX3_fireThings 27 = .ok (.istore 4, 2) := by decide +kernel
theorem dX3_fireThings_29 : decode cX3_fireThings 29 = .ok (.aload_n 0, 1) := by decide +kernel
theorem dX3_fireThings_30 : decode cX3_fireThings 30 = .ok (.getfield 12, 3) := by decide +kernel
theorem dX3_fireThings_33 : decode cX3_fireThings 33 = .ok (.iload 4, 2) := by decide +kernel
theorem dX3_fireThings_35 : decode cX3_fireThings 35 = .ok (.invokevirtual 72, 3) := by decide +kernel
theorem dX3_fireThings_38 : decode cX3_fireThings 38 = .ok (.istore 5, 2) := by decide +kernel
theorem dX3_fireThings_40 : decode cX3_fireThings 40 = .ok (.aload_n 0, 1) := by decide +kernel
theorem dX3_fireThings_41 : decode cX3_fireThings 41 = .ok (.getfield 12, 3) := by decide +kernel
theorem dX3_fireThings_44 : decode cX3_fireThings 44 = .ok (.iload 4, 2) := by decide +kernel
theorem dX3_fireThings_46 : decode cX3_fireThings 46 = .ok (.invokevirtual 75, 3) := by decide +kernel
theorem dX3_fireThings_49 : decode cX3_fireThings 49 = .ok (.istore 6, 2) := by decide +kernel
theorem dX3_fireThings_51 : decode cX3_fireThings 51 = .ok (.iload_n 2, 1) := by decide +kernel
theorem dX3_fireThings_52 : decode cX3_fireThings 52 = .ok (.iload 5, 2) := by decide +kernel
theorem dX3_fireThings_54 : decode cX3_fireThings 54 = .ok (.iadd, 1) := by decide +kernel
theorem dX3_fireThings_55 : decode cX3_fireThings 55 = .ok (.istore_n 2, 1) := by decide +kernel
theorem dX3_fireThings_56 : decode cX3_fireThings 56 = .ok (.aload_n 0, 1) := by decide +kernel
theorem dX3_fireThings_57 : decode cX3_fireThings 57 = .ok (.getfield 12, 3) := by decide +kernel
theorem dX3_fireThings_60 : decode cX3_fireThings 60 = .ok (.iload 4, 2) := by decide +kernel
theorem dX3_fireThings_62 : decode cX3_fireThings 62 = .ok (.aload_n 0, 1) := by decide +kernel
theorem dX3_fireThings_63 : decode cX3_fireThings 63 = .ok (.getfield 12, 3) := by decide +kernel
theorem dX3_fireThings_66 : decode cX3_fireThings 66 = .ok (.iload 4, 2) := by decide +kernel
theorem dX3_fireThings_68 : decode cX3_fireThings 68 = .ok (.invokevirtual 78, 3) := by decide +kernel
theorem dX3_fireThings_71 : decode cX3_fireThings 71 = .ok (.iconst 1, 1) := by decide +kernel
theorem dX3_fireThings_72 : decode cX3_fireThings 72 = .ok (.iadd, 1) := by decide +kernel
theorem dX3_fireThings_73 : decode cX3_fireThings 73 = .ok (.invokevirtual 81, 3) := by decide +kernel
theorem dX3_fireThings_76 : decode cX3_fireThings 76 = .ok (.iload 6, 2) := by decide +kernel
theorem dX3_fireThings_78 : decode cX3_fireThings 78 = .ok (.iconst 1, 1) := by decide +kernel
theorem dX3_fireThings_79 : decode cX3_fireThings 79 = .ok (.if_icmp .ne 12, 3) := by decide +kernel
theorem dX3_fireThings_82 : decode cX3_fireThings 82 = .ok (.aload_n 0, 1) := by decide +kernel
theorem dX3_fireThings_83 : decode cX3_fireThings 83 = .ok (.iload 4, 2) := by decide +kernel
theorem dX3_fireThings_85 : decode cX3_fireThings 85 = .ok (.invokevirtual 84, 3) := by decide +kernel
theorem dX3_fireThings_88 : decode cX3_fireThings 88 = .ok (.goto 33, 3) := by decide +kernel
theorem dX3_fireThings_91 : decode cX3_fireThings 91 = .ok (.iload 6, 2) := by decide +kernel
theorem dX3_fireThings_93 : decode cX3_fireThings 93 = .ok (.iconst 2, 1) := by decide +kernel
theorem dX3_fireThings_94 : decode cX3_fireThings 94 = .ok (.if_icmp .ne 27, 3) := by decide +kernel
theorem dX3_fireThings_97 : decode cX3_fireThings 97 = .ok (.aload_n 0, 1) := by decide +kernel
theorem dX3_fireThings_98 : decode cX3_fireThings 98 = .ok (.aload_n 0, 1) := by decide +kernel
theorem dX3_fireThings_99 : decode cX3_fireThings 99 = .ok (.getfield 21, 3) := by decide +kernel
theorem dX3_fireThings_102 : decode cX3_fireThings 102 = .ok (.invokevirtual 87, 3) := by decide +kernel
theorem dX3_fireThings_105 : decode cX3_fireThings 105 = .ok (.iload 5, 2) := by decide +kernel
theorem dX3_fireThings_107 : decode cX3_fireThings 107 = .ok (.aload_n 0, 1) := by decide +kernel
theorem dX3_fireThings_108 : decode cX3_fireThings 108 = .ok (.getfield 12, 3) := by decide +kernel
theorem dX3_fireThings_111 : decode cX3_fireThings 111 = .ok (.iload 4, 2) := by decide +kernel
theorem dX3_fireThings_113 : decode cX3_fireThings 113 = .ok (.invokevirtual 91, 3) := by decide +kernel
theorem dX3_fireThings_116 : decode cX3_fireThings 116 = .ok (.iconst 0, 1) := by decide +kernel
theorem dX3_fireThings_117 : decode cX3_fireThings 117 = .ok (.invokevirtual 94, 3) := by decide +kernel
theorem dX3_fireThings_120 : decode cX3_fireThings 120 = .ok (.pop, 1) := by decide +kernel
theorem dX3_fireThings_121 : decode cX3_fireThings 121 = .ok (.iinc 3 1, 3) := by decide +kernel
theorem dX3_fireThings_124 : decode cX3_fireThings 124 = .ok (.goto (-108), 3) := by decide +kernel
theorem dX3_fireThings_127 : decode cX3_fireThings 127 = .ok (.aload_n 0, 1) := by decide +kernel
theorem dX3_fireThings_128 : decode cX3_fireThings 128 = .ok (.dup, 1) := by decide +kernel
theorem dX3_fireThings_129 : decode cX3_fireThings 129 = .ok (.getfield 36, 3) := by decide +kernel
theorem dX3_fireThings_132 : decode cX3_fireThings 132 = .ok (.iconst 1, 1) := by decide +kernel
theorem dX3_fireThings_133 : decode cX3_fireThings 133 = .ok (.iadd, 1) := by decide +kernel
theorem dX3_fireThings_134 : decode cX3_fireThings 134 = .ok (.putfield 36, 3) := by decide +kernel
theorem dX3_fireThings_137 : decode cX3_fireThings 137 = .ok (.iload_n 2, 1) := by decide +kernel
theorem dX3_fireThings_138 : decode cX3_fireThings 138 = .ok (.ireturn, 1) := by decide +kernel
theorem dX3_moveThings_0 : decode cX3_moveThings 0 = .ok (.iconst 0, 1) := by decide +kernel
theorem dX3_moveThings_1 : decode cX3_moveThings 1 = .ok (.istore_n 1, 1) := by decide +kernel
theorem dX3_moveThings_2 : decode cX3_moveThings 2 = .ok (.iconst 0, 1) := by decide +kernel
theorem dX3_moveThings_3 : decode cX3_moveThings 3 = .ok (.istore_n 2, 1) := by decide +kernel
theorem dX3_moveThings_4 : decode cX3_moveThings 4 = .ok (.aload_n 0, 1) := by decide +kernel
theorem dX3_moveThings_5 : decode cX3_moveThings 5 = .ok (.getfield 12, 3) := by decide +kernel
theorem dX3_moveThings_8 : decode cX3_moveThings 8 = .ok (.invokevirtual 98, 3) := by decide +kernel
theorem dX3_moveThings_11 : decode cX3_moveThings 11 = .ok (.istore_n 3, 1) := by decide +kernel
theorem dX3_moveThings_12 : decode cX3_moveThings 12 = .ok (.iconst 0, 1) := by decide +kernel
theorem dX3_moveThings_13 : decode cX3_moveThings 13 = .ok (.istore 4, 2) := by decide +kernel
theorem dX3_moveThings_15 : decode cX3_moveThings 15 = .ok (.iload 4, 2) := by decide +kernel
theorem dX3_moveThings_17 : decode cX3_moveThings 17 = .ok (.iload_n 3, 1) := by decide +kernel
theorem dX3_moveThings_18 : decode cX3_moveThings 18 = .ok (.if_icmp .ge 59, 3) := by decide +kernel
theorem dX3_moveThings_21 : decode cX3_moveThings 21 = .ok (.aload_n 0, 1) := by decide +kernel
theorem dX3_moveThings_22 : decode cX3_moveThings 22 = .ok (.getfield 12, 3) := by decide +kernel
theorem dX3_moveThings_25 : decode cX3_moveThings 25 = .ok (.iload 4, 2) := by decide +kernel
theorem dX3_moveThings_27 : decode cX3_moveThings 27 = .ok (.invokevirtual 91, 3) := by decide +kernel
theorem dX3_moveThings_30 : decode cX3_moveThings 30 = .ok (.istore 5, 2) := by decide +kernel
theorem dX3_moveThings_32 : decode cX3_moveThings 32 = .ok (.iload 5, 2) := by decide +kernel
theorem dX3_moveThings_34 : decode cX3_moveThings 34 = .ok (.ifCond .le 32, 3) := by decide +kernel
theorem dX3_moveThings_37 : decode cX3_moveThings 37 = .ok (.iload 4, 2) := by decide +kernel
theorem dX3_moveThings_39 : decode cX3_moveThings 39 = .ok (.iload_n 2, 1) := by decide +kernel
theorem dX3_moveThings_40 : decode cX3_moveThings 40 = .ok (.if_icmp .eq 26, 3) := by decide +kernel
theorem dX3_moveThings_43 : decode cX3_moveThings 43 = .ok (.aload_n 0, 1) := by decide +kernel
theorem dX3_moveThings_44 : decode cX3_moveThings 44 = .ok (.getfield 12, 3) := by decide +kernel
theorem dX3_moveThings_47 : decode cX3_moveThings 47 = .ok (.iload 4, 2) := by decide +kernel
theorem dX3_moveThings_49 : decode cX3_moveThings 49 = .ok (.iload_n 2, 1) := by decide +kernel
theorem dX3_moveThings_50 : decode cX3_moveThings 50 = .ok (.invokevirtual 101, 3) := by decide +kernel
theorem dX3_moveThings_53 : decode cX3_moveThings 53 = .ok (.aload_n 0, 1) := by decide +kernel
theorem dX3_moveThings_54 : decode cX3_moveThings 54 = .ok (.getfield 21, 3) := by decide +kernel
theorem dX3_moveThings_57 : decode cX3_moveThings 57 = .ok (.iload 4, 2) := by decide +kernel
theorem dX3_moveThings_59 : decode cX3_moveThings 59 = .ok (.iload_n 2, 1) := by decide +kernel
theorem dX3_moveThings_60 : decode cX3_moveThings 60 = .ok (.invokevirtual 104, 3) := by decide +kernel
theorem dX3_moveThings_63 : decode cX3_moveThings 63 = .ok (.iinc 1 1, 3) := by decide +kernel
theorem dX3_moveThings_66 : decode cX3_moveThings 66 = .ok (.iload_n 2, 1) := by decide +kernel
theorem dX3_moveThings_67 : decode cX3_moveThings 67 = .ok (.iload 5, 2) := by decide +kernel
theorem dX3_moveThings_69 : decode cX3_moveThings 69 = .ok (.iadd, 1) := by decide +kernel
theorem dX3_moveThings_70 : decode cX3_moveThings 70 = .ok (.istore_n 2, 1) := by decide +kernel
theorem dX3_moveThings_71 : decode cX3_moveThings 71 = .ok (.iinc 4 1, 3) := by decide +kernel
theorem dX3_moveThings_74 : decode cX3_moveThings 74 = .ok (.goto (-59), 3) := by decide +kernel
theorem dX3_moveThings_77 : decode cX3_moveThings 77 = .ok (.aload_n 0, 1) := by decide +kernel
theorem dX3_moveThings_78 : decode cX3_moveThings 78 = .ok (.dup, 1) := by decide +kernel
theorem dX3_moveThings_79 : decode cX3_moveThings 79 = .ok (.getfield 46, 3) := by decide +kernel
theorem dX3_moveThings_82 : decode cX3_moveThings 82 = .ok (.iload_n 1, 1) := by decide +kernel
theorem dX3_moveThings_83 : decode cX3_moveThings 83 = .ok (.iadd, 1) := by decide +kernel
theorem dX3_moveThings_84 : decode cX3_moveThings 84 = .ok (.putfield 46, 3) := by decide +kernel
theorem dX3_moveThings_87 : decode cX3_moveThings 87 = .ok (.iload_n 1, 1) := by decide +kernel
theorem dX3_moveThings_88 : decode cX3_moveThings 88 = .ok (.ireturn, 1) := by decide +kernel
theorem dX4_init_0 : decode cX4_init 0 = .ok (.aload_n 0, 1) := by decide +kernel
theorem dX4_init_1 : decode cX4_init 1 = .ok (.invokespecial 3, 3) := by decide +kernel
theorem dX4_init_4 : decode cX4_init 4 = .ok (.aload_n 0, 1) := by decide +kernel
theorem dX4_init_5 : decode cX4_init 5 = .ok (.bipush 60, 2) := by decide +kernel
theorem dX4_init_7 : decode cX4_init 7 = .ok (.newarray .int, 2) := by decide +kernel
theorem dX4_init_9 : decode cX4_init 9 = .ok (.putfield 9, 3) := by decide +kernel
theorem dX4_init_12 : decode cX4_init 12 = .ok (.aload_n 0, 1) := by decide +kernel
theorem dX4_init_13 : decode cX4_init 13 = .ok (.iconst 0, 1) := by decide +kernel
theorem dX4_init_14 : decode cX4_init 14 = .ok (.putfield 15, 3) := by decide +kernel
theorem dX4_init_17 : decode cX4_init 17 = .ok (.return_, 1) := by decide +kernel
theorem dX4_size_0 : decode cX4_size 0 = .ok (.aload_n 0, 1) := by decide +kernel
theorem dX4_size_1 : decode cX4_size 1 = .ok (.getfield 15, 3) := by decide +kernel
theorem dX4_size_4 : decode cX4_size 4 = .ok (.ireturn, 1) := by decide +kernel
theorem dX4_isFull_0 : decode cX4_isFull 0 = .ok (.aload_n 0, 1) := by decide +kernel
theorem dX4_isFull_1 : decode cX4_isFull 1 = .ok (.getfield 15, 3) := by decide +kernel
theorem dX4_isFull_4 : decode cX4_isFull 4 = .ok (.bipush 60, 2) := by decide +kernel
theorem dX4_isFull_6 : decode cX4_isFull 6 = .ok (.if_icmp .lt 7, 3) := by decide +kernel
theorem dX4_isFull_9 : decode cX4_isFull 9 = .ok (.iconst 1, 1) := by decide +kernel
theorem dX4_isFull_10 : decode cX4_isFull 10 = .ok (.goto 4, 3) := by decide +kernel
theorem dX4_isFull_13 : decode cX4_isFull 13 = .ok (.iconst 0, 1) := by decide +kernel
theorem dX4_isFull_14 : decode cX4_isFull 14 = .ok (.ireturn, 1) := by decide +kernel
theorem dX4_add_0 : decode cX4_add 0 = .ok (.aload_n 0, 1) := by decide +kernel
theorem dX4_add_1 : decode cX4_add 1 = .ok (.getfield 15, 3) := by decide +kernel
theorem dX4_add_4 : decode cX4_add 4 = .ok (.ifCond .lt 32, 3) := by decide +kernel
theorem dX4_add_7 : decode cX4_add 7 = .ok (.aload_n 0, 1) := by decide +kernel
theorem dX4_add_8 : decode cX4_add 8 = .ok (.getfield 15, 3) := by decide +kernel
theorem dX4_add_11 : decode cX4_add 11 = .ok (.bipush 60, 2) := by decide +kernel
theorem dX4_add_13 : decode cX4_add 13 = .ok (.if_icmp .ge 23, 3) := by decide +kernel
theorem dX4_add_16 : decode cX4_add 16 = .ok (.aload_n 0, 1) := by decide +kernel
theorem dX4_add_17 : decode cX4_add 17 = .ok (.getfield 9, 3) := by decide +kernel
theorem dX4_add_20 : decode cX4_add 20 = .ok (.aload_n 0, 1) := by decide +kernel
theorem dX4_add_21 : decode cX4_add 21 = .ok (.getfield 15, 3) := by decide +kernel
theorem dX4_add_24 : decode cX4_add 24 = .ok (.iload_n 1, 1) := by decide +kernel
theorem dX4_add_25 : decode cX4_add 25 = .ok (.iastore, 1) := by decide +kernel
theorem dX4_add_26 : decode cX4_add 26 = .ok (.aload_n 0, 1) := by decide +kernel
theorem dX4_add_27 : decode cX4_add 27 = .ok (.dup, 1) := by decide +kernel
theorem dX4_add_28 : decode cX4_add 28 = .ok (.getfield 15, 3) := by decide +kernel
theorem dX4_add_31 : decode cX4_add 31 = .ok (.iconst 1, 1) := by decide +kernel
theorem dX4_add_32 : decode cX4_add 32 = .ok (.iadd, 1) := by decide +kernel
theorem dX4_add_33 : decode cX4_add 33 = .ok (.putfield 15, 3) := by decide +kernel
theorem dX4_add_36 : decode cX4_add 36 = .ok (.return_, 1) := by decide +kernel
theorem dX4_empty_0 : decode cX4_empty 0 = .ok (.aload_n 0, 1) := by decide +kernel
theorem dX4_empty_1 : decode cX4_empty 1 = .ok (.iconst 0, 1) := by decide +kernel
theorem dX4_empty_2 : decode cX4_empty 2 = .ok (.putfield 15, 3) := by decide +kernel
theorem dX4_empty_5 : decode cX4_empty 5 = .ok (.return_, 1) := by decide +kernel
theorem dX4_codeAt_0 : decode cX4_codeAt 0 = .ok (.iload_n 1, 1) := by decide +kernel
theorem dX4_codeAt_1 : decode cX4_codeAt 1 = .ok (.ifCond .lt 26, 3) := by decide +kernel
theorem dX4_codeAt_4 : decode cX4_codeAt 4 = .ok (.iload_n 1, 1) := by decide +kernel
theorem dX4_codeAt_5 : decode cX4_codeAt 5 = .ok (.aload_n 0, 1) := by decide +kernel
theorem dX4_codeAt_6 : decode cX4_codeAt 6 = .ok (.getfield 15, 3) := by decide +kernel
theorem dX4_codeAt_9 : decode cX4_codeAt 9 = .ok (.if_icmp .ge 18, 3) := by decide +kernel
theorem dX4_codeAt_12 : decode cX4_codeAt 12 = .ok (.iload_n 1, 1) := by decide +kernel
theorem dX4_codeAt_13 : decode cX4_codeAt 13 = .ok (.bipush 60, 2) := by decide +kernel
theorem dX4_codeAt_15 : decode cX4_codeAt 15 = .ok (.if_icmp .ge 12, 3) := by decide +kernel
theorem dX4_codeAt_18 : decode cX4_codeAt 18 = .ok (.aload_n 0, 1) := by decide +kernel
theorem dX4_codeAt_19 : decode cX4_codeAt 19 = .ok (.getfield 9, 3) := by decide +kernel
theorem dX4_codeAt_22 : decode cX4_codeAt 22 = .ok (.iload_n 1, 1) := by decide +kernel
theorem dX4_codeAt_23 : decode cX4_codeAt 23 = .ok (.iaload, 1) := by decide +kernel
theorem dX4_codeAt_24 : decode cX4_codeAt 24 = .ok (.goto 4, 3) := by decide +kernel
theorem dX4_codeAt_27 : decode cX4_codeAt 27 = .ok (.iconst 0, 1) := by decide +kernel
theorem dX4_codeAt_28 : decode cX4_codeAt 28 = .ok (.ireturn, 1) := by decide +kernel
theorem dX4_indexOf_0 : decode cX4_indexOf 0 = .ok (.iload_n 2, 1) := by decide +kernel
theorem dX4_indexOf_1 : decode cX4_indexOf 1 = .ok (.istore_n 3, 1) := by decide +kernel
theorem dX4_indexOf_2 : decode cX4_indexOf 2 = .ok (.iload_n 3, 1) := by decide +kernel
theorem dX4_indexOf_3 : decode cX4_indexOf 3 = .ok (.aload_n 0, 1) := by decide +kernel
theorem dX4_indexOf_4 : decode cX4_indexOf 4 = .ok (.getfield 15, 3) := by decide +kernel
theorem dX4_indexOf_7 : decode cX4_indexOf 7 = .ok (.if_icmp .ge 20, 3) := by decide +kernel
theorem dX4_indexOf_10 : decode cX4_indexOf 10 = .ok (.aload_n 0, 1) := by decide +kernel
theorem dX4_indexOf_11 : decode cX4_indexOf 11 = .ok (.iload_n 3, 1) := by decide +kernel
theorem dX4_indexOf_12 : decode cX4_indexOf 12 = .ok (.invokevirtual 19, 3) := by decide +kernel
theorem dX4_indexOf_15 : decode cX4_indexOf 15 = .ok (.iload_n 1, 1) := by decide +kernel
theorem dX4_indexOf_16 : decode cX4_indexOf 16 = .ok (.if_icmp .ne 5, 3) := by decide +kernel
theorem dX4_indexOf_19 : decode cX4_indexOf 19 = .ok (.iload_n 3, 1) := by decide +kernel
theorem dX4_indexOf_20 : decode cX4_indexOf 20 = .ok (.ireturn, 1) := by decide +kernel
theorem dX4_indexOf_21 : decode cX4_indexOf 21 = .ok (.iinc 3 1, 3) := by decide +kernel
theorem dX4_indexOf_24 : decode cX4_indexOf 24 = .ok (.goto (-22), 3) := by decide +kernel
theorem dX4_indexOf_27 : decode cX4_indexOf 27 = .ok (.aload_n 0, 1) := by decide +kernel
theorem dX4_indexOf_28 : decode cX4_indexOf 28 = .ok (.getfield 15, 3) := by decide +kernel
theorem dX4_indexOf_31 : decode cX4_indexOf 31 = .ok (.ireturn, 1) := by decide +kernel
theorem dX4_numberIn_0 : decode cX4_numberIn 0 = .ok (.iconst 0, 1) := by decide +kernel
theorem dX4_numberIn_1 : decode cX4_numberIn 1 = .ok (.istore_n 3, 1) := by decide +kernel
theorem dX4_numberIn_2 : decode cX4_numberIn 2 = .ok (.iload_n 1, 1) := by decide +kernel
theorem dX4_numberIn_3 : decode cX4_numberIn 3 = .ok (.istore 4, 2) := by decide +kernel
theorem dX4_numberIn_5 : decode cX4_numberIn 5 = .ok (.iload 4, 2) := by decide +kernel
theorem dX4_numberIn_7 : decode cX4_numberIn 7 = .ok (.iload_n 2, 1) := by decide +kernel
theorem dX4_numberIn_8 : decode cX4_numberIn 8 = .ok (.if_icmp .ge 33, 3) := by decide +kernel
theorem dX4_numberIn_11 : decode cX4_numberIn 11 = .ok (.iload 4, 2) := by decide +kernel
theorem dX4_numberIn_13 : decode cX4_numberIn 13 = .ok (.aload_n 0, 1) := by decide +kernel
theorem dX4_numberIn_14 : decode cX4_numberIn 14 = .ok (.getfield 15, 3) := by decide +kernel
theorem dX4_numberIn_17 : decode cX4_numberIn 17 = .ok (.if_icmp .ge 24, 3) := by decide +kernel
theorem dX4_numberIn_20 : decode cX4_numberIn 20 = .ok (.bipush 10, 2) := by decide +kernel
theorem dX4_numberIn_22 : decode cX4_numberIn 22 = .ok (.iload_n 3, 1) := by decide +kernel
theorem dX4_numberIn_23 : decode cX4_numberIn 23 = .ok (.imul, 1) := by decide +kernel
theorem dX4_numberIn_24 : decode cX4_numberIn 24 = .ok (.aload_n 0, 1) := by decide +kernel
theorem dX4_numberIn_25 : decode cX4_numberIn 25 = .ok (.iload 4, 2) := by decide +kernel
theorem dX4_numberIn_27 : decode cX4_numberIn 27 = .ok (.invokevirtual 19, 3) := by decide +kernel
theorem dX4_numberIn_30 : decode cX4_numberIn 30 = .ok (.iadd, 1) := by decide +kernel
theorem dX4_numberIn_31 : decode cX4_numberIn 31 = .ok (.bipush 48, 2) := by decide +kernel
theorem dX4_numberIn_33 : decode cX4_numberIn 33 = .ok (.isub, 1) := by decide +kernel
theorem dX4_numberIn_34 : decode cX4_numberIn 34 = .ok (.istore_n 3, 1) := by decide +kernel
theorem dX4_numberIn_35 : decode cX4_numberIn 35 = .ok (.iinc 4 1, 3) := by decide +kernel
theorem dX4_numberIn_38 : decode cX4_numberIn 38 = .ok (.goto (-33), 3) := by decide +kernel
theorem dX4_numberIn_41 : decode cX4_numberIn 41 = .ok (.iload_n 3, 1) := by decide +kernel
theorem dX4_numberIn_42 : decode cX4_numberIn 42 = .ok (.ireturn, 1) := by decide +kernel
theorem dX4_firstWrong_0 : decode cX4_firstWrong 0 = .ok (.iconst 0, 1) := by decide +kernel
theorem dX4_firstWrong_1 : decode cX4_firstWrong 1 = .ok (.istore_n 1, 1) := by decide +kernel
theorem dX4_firstWrong_2 : decode cX4_firstWrong 2 = .ok (.iconst 0, 1) := by decide +kernel
theorem dX4_firstWrong_3 : decode cX4_firstWrong 3 = .ok (.istore_n 2, 1) := by decide +kernel
theorem dX4_firstWrong_4 : decode cX4_firstWrong 4 = .ok (.iload_n 2, 1) := by decide +kernel
theorem dX4_firstWrong_5 : decode cX4_firstWrong 5 = .ok (.aload_n 0, 1) := by decide +kernel
theorem dX4_firstWrong_6 : decode cX4_firstWrong 6 = .ok (.getfield 15, 3) := by decide +kernel
theorem dX4_firstWrong_9 : decode cX4_firstWrong 9 = .ok (.if_icmp .ge 26, 3) := by decide +kernel
theorem dX4_firstWrong_12 : decode cX4_firstWrong 12 = .ok (.iload_n 1, 1) := by decide +kernel
theorem dX4_firstWrong_13 : decode cX4_firstWrong 13 = .ok (.aload_n 0, 1) := by decide +kernel
theorem dX4_firstWrong_14 : decode cX4_firstWrong 14 = .ok (.iload_n 2, 1) := by decide +kernel
theorem dX4_firstWrong_15 : decode cX4_firstWrong 15 = .ok (.invokevirtual 19, 3) := by decide +kernel
theorem dX4_firstWrong_18 : decode cX4_firstWrong 18 = .ok (.invokestatic 23, 3) := by decide +kernel
theorem dX4_firstWrong_21 : decode cX4_firstWrong 21 = .ok (.istore_n 1, 1) := by decide +kernel
theorem dX4_firstWrong_22 : decode cX4_firstWrong 22 = .ok (.iload_n 1, 1) := by decide +kernel
theorem dX4_firstWrong_23 : decode cX4_firstWrong 23 = .ok (.iconst (-1), 1) := by decide +kernel
theorem dX4_firstWrong_24 : decode cX4_firstWrong 24 = .ok (.if_icmp .ne 5, 3) := by decide +kernel
theorem dX4_firstWrong_27 : decode cX4_firstWrong 27 = .ok (.iload_n 2, 1) := by decide +kernel
theorem dX4_firstWrong_28 : decode cX4_firstWrong 28 = .ok (.ireturn, 1) := by decide +kernel
theorem dX4_firstWrong_29 : decode cX4_firstWrong 29 = .ok (.iinc 2 1, 3) := by decide +kernel
theorem dX4_firstWrong_32 : decode cX4_firstWrong 32 = .ok (.goto (-28), 3) := by decide +kernel
theorem dX4_firstWrong_35 : decode cX4_firstWrong 35 = .ok (.aload_n 0, 1) := by decide +kernel
theorem dX4_firstWrong_36 : decode cX4_firstWrong 36 = .ok (.getfield 15, 3) := by decide +kernel
theorem dX4_firstWrong_39 : decode cX4_firstWrong 39 = .ok (.ireturn, 1) := by decide +kernel
theorem dX4_isComplete_0 : decode cX4_isComplete 0 = .ok (.iconst 0, 1) := by decide +kernel
theorem dX4_isComplete_1 : decode cX4_isComplete 1 = .ok (.istore_n 1, 1) := by decide +kernel
theorem dX4_isComplete_2 : decode cX4_isComplete 2 = .ok (.iconst 0, 1) := by decide +kernel
theorem dX4_isComplete_3 : decode cX4_isComplete 3 = .ok (.istore_n 2, 1) := by decide +kernel
theorem dX4_isComplete_4 : decode cX4_isComplete 4 = .ok (.iload_n 2, 1) := by decide +kernel
theorem dX4_isComplete_5 : decode cX4_isComplete 5 = .ok (.aload_n 0, 1) := by decide +kernel
theorem dX4_isComplete_6 : decode cX4_isComplete 6 = .ok (.getfield 15, 3) := by decide +kernel
theorem dX4_isComplete_9 : decode cX4_isComplete 9 = .ok (.if_icmp .ge 19, 3) := by decide +kernel
theorem dX4_isComplete_12 : decode cX4_isComplete 12 = .ok (.iload_n 1, 1) := by decide +kernel
theorem dX4_isComplete_13 : decode cX4_isComplete 13 = .ok (.aload_n 0, 1) := by decide +kernel
theorem dX4_isComplete_14 : decode cX4_isComplete 14 = .ok (.iload_n 2, 1) := by decide +kernel
theorem dX4_isComplete_15 : decode cX4_isComplete 15 = .ok (.invokevirtual 19, 3) := by decide +kernel
theorem dX4_isComplete_18 : decode cX4_isComplete 18 = .ok (.invokestatic 23, 3) := by decide +kernel
theorem dX4_isComplete_21 : decode cX4_isComplete 21 = .ok (.istore_n 1, 1) := by decide +kernel
theorem dX4_isComplete_22 : decode cX4_isComplete 22 = .ok (.iinc 2 1, 3) := by decide +kernel
theorem dX4_isComplete_25 : decode cX4_isComplete 25 = .ok (.goto (-21), 3) := by decide +kernel
theorem dX4_isComplete_28 : decode cX4_isComplete 28 = .ok (.iload_n 1, 1) := by decide +kernel
theorem dX4_isComplete_29 : decode cX4_isComplete 29 = .ok (.bipush 6, 2) := by decide +kernel
theorem dX4_isComplete_31 : decode cX4_isComplete 31 = .ok (.if_icmp .eq 9, 3) := by decide +kernel
theorem dX4_isComplete_34 : decode cX4_isComplete 34 = .ok (.iload_n 1, 1) := by decide +kernel
theorem dX4_isComplete_35 : decode cX4_isComplete 35 = .ok (.bipush 7, 2) := by decide +kernel
theorem dX4_isComplete_37 : decode cX4_isComplete 37 = .ok (.if_icmp .ne 7, 3) := by decide +kernel
theorem dX4_isComplete_40 : decode cX4_isComplete 40 = .ok (.iconst 1, 1) := by decide +kernel
theorem dX4_isComplete_41 : decode cX4_isComplete 41 = .ok (.goto 4, 3) := by decide +kernel
theorem dX4_isComplete_44 : decode cX4_isComplete 44 = .ok (.iconst 0, 1) := by decide +kernel
theorem dX4_isComplete_45 : decode cX4_isComplete 45 = .ok (.ireturn, 1) := by decide +kernel
theorem dX4_stateBehind_0 : decode cX4_stateBehind 0 = .ok (.iload_n 0, 1) := by decide +kernel
theorem dX4_stateBehind_1 : decode cX4_stateBehind 1 = .ok (.tableswitch 112 0 7 #[47, 52, 64, 70, 52, 76, 95, 100], 47) := by decide +kernel
theorem dX4_stateBehind_48 : decode cX4_stateBehind 48 = .ok (.iload_n 1, 1) := by decide +kernel
theorem dX4_stateBehind_49 : decode cX4_stateBehind 49 = .ok (.invokestatic 27, 3) := by decide +kernel
theorem dX4_stateBehind_52 : decode cX4_stateBehind 52 = .ok (.ireturn, 1) := by decide +kernel
theorem dX4_stateBehind_53 : decode cX4_stateBehind 53 = .ok (.iload_n 1, 1) := by decide +kernel
theorem dX4_stateBehind_54 : decode cX4_stateBehind 54 = .ok (.bipush 42, 2) := by decide +kernel
theorem dX4_stateBehind_56 : decode cX4_stateBehind 56 = .ok (.if_icmp .ne 7, 3) := by decide +kernel
theorem dX4_stateBehind_59 : decode cX4_stateBehind 59 = .ok (.iconst 5, 1) := by decide +kernel
theorem dX4_stateBehind_60 : decode cX4_stateBehind 60 = .ok (.goto 4, 3) := by decide +kernel
theorem dX4_stateBehind_63 : decode cX4_stateBehind 63 = .ok (.iconst (-1), 1) := by decide +kernel
theorem dX4_stateBehind_64 : decode cX4_stateBehind 64 = .ok (.ireturn, 1) := by decide +kernel
theorem dX4_stateBehind_65 : decode cX4_stateBehind 65 = .ok (.iload_n 1, 1) := by decide +kernel
theorem dX4_stateBehind_66 : decode cX4_stateBehind 66 = .ok (.iconst 3, 1) := by decide +kernel
theorem dX4_stateBehind_67 : decode cX4_stateBehind 67 = .ok (.invokestatic 30, 3) := by decide +kernel
theorem dX4_stateBehind_70 : decode cX4_stateBehind 70 = .ok (.ireturn, 1) := by decide +kernel
theorem dX4_stateBehind_71 : decode cX4_stateBehind 71 = .ok (.iload_n 1, 1) := by decide +kernel
theorem dX4_stateBehind_72 : decode cX4_stateBehind 72 = .ok (.iconst 4, 1) := by decide +kernel
theorem dX4_stateBehind_73 : decode cX4_stateBehind 73 = .ok (.invokestatic 30, 3) := by decide +kernel
theorem dX4_stateBehind_76 : decode cX4_stateBehind 76 = .ok (.ireturn, 1) := by decide +kernel
theorem dX4_stateBehind_77 : decode cX4_stateBehind 77 = .ok (.iload_n 1, 1) := by decide +kernel
theorem dX4_stateBehind_78 : decode cX4_stateBehind 78 = .ok (.bipush 49, 2) := by decide +kernel
theorem dX4_stateBehind_80 : decode cX4_stateBehind 80 = .ok (.if_icmp .lt 14, 3) := by decide +kernel
theorem dX4_stateBehind_83 : decode cX4_stateBehind 83 = .ok (.iload_n 1, 1) := by decide +kernel
theorem dX4_stateBehind_84 : decode cX4_stateBehind 84 = .ok (.bipush 52, 2) := by decide +kernel
theorem dX4_stateBehind_86 : decode cX4_stateBehind 86 = .ok (.if_icmp .gt 8, 3) := by decide +kernel
theorem dX4_stateBehind_89 : decode cX4_stateBehind 89 = .ok (.bipush 6, 2) := by decide +kernel
theorem dX4_stateBehind_91 : decode cX4_stateBehind 91 = .ok (.goto 4, 3) := by decide +kernel
theorem dX4_stateBehind_94 : decode cX4_stateBehind 94 = .ok (.iconst (-1), 1) := by decide +kernel
theorem dX4_stateBehind_95 : decode cX4_stateBehind 95 = .ok (.ireturn, 1) := by decide +kernel
theorem dX4_stateBehind_96 : decode cX4_stateBehind 96 = .ok (.iload_n 1, 1) := by decide +kernel
theorem dX4_stateBehind_97 : decode cX4_stateBehind 97 = .ok (.invokestatic 33, 3) := by decide +kernel
theorem dX4_stateBehind_100 : decode cX4_stateBehind 100 = .ok (.ireturn, 1) := by decide +kernel
theorem dX4_stateBehind_101 : decode cX4_stateBehind 101 = .ok (.iload_n 1, 1) := by decide +kernel
theorem dX4_stateBehind_102 : decode cX4_stateBehind 102 = .ok (.bipush 44, 2) := by decide +kernel
theorem dX4_stateBehind_104 : decode cX4_stateBehind 104 = .ok (.if_icmp .ne 7, 3) := by decide +kernel
theorem dX4_stateBehind_107 : decode cX4_stateBehind 107 = .ok (.iconst 0, 1) := by decide +kernel
theorem dX4_stateBehind_108 : decode cX4_stateBehind 108 = .ok (.goto 4, 3) := by decide +kernel
theorem dX4_stateBehind_111 : decode cX4_stateBehind 111 = .ok (.iconst (-1), 1) := by decide +kernel
theorem dX4_stateBehind_112 : decode cX4_stateBehind 112 = .ok (.ireturn, 1) := by decide +kernel
theorem dX4_stateBehind_113 : decode cX4_stateBehind 113 = .ok (.iconst (-1), 1) := by decide +kernel
theorem dX4_stateBehind_114 : decode cX4_stateBehind 114 = .ok (.ireturn, 1) := by decide +kernel
theorem dX4_firstDigit_0 : decode cX4_firstDigit 0 = .ok (.iload_n 0, 1) := by decide +kernel
theorem dX4_firstDigit_1 : decode cX4_firstDigit 1 = .ok (.bipush 48, 2) := by decide +kernel
theorem dX4_firstDigit_3 : decode cX4_firstDigit 3 = .ok (.if_icmp .ne 5, 3) := by decide +kernel
theorem dX4_firstDigit_6 : decode cX4_firstDigit 6 = .ok (.iconst 1, 1) := by decide +kernel
theorem dX4_firstDigit_7 : decode cX4_firstDigit 7 = .ok (.ireturn, 1) := by decide +kernel
theorem dX4_firstDigit_8 : decode cX4_firstDigit 8 = .ok (.iload_n 0, 1) := by decide +kernel
theorem dX4_firstDigit_9 : decode cX4_firstDigit 9 = .ok (.bipush 49, 2) := by decide +kernel
theorem dX4_firstDigit_11 : decode cX4_firstDigit 11 = .ok (.if_icmp .lt 13, 3) := by decide +kernel
theorem dX4_firstDigit_14 : decode cX4_firstDigit 14 = .ok (.iload_n 0, 1) := by decide +kernel
theorem dX4_firstDigit_15 : decode cX4_firstDigit 15 = .ok (.bipush 57, 2) := by decide +kernel
theorem dX4_firstDigit_17 : decode cX4_firstDigit 17 = .ok (.if_icmp .gt 7, 3) := by decide +kernel
theorem dX4_firstDigit_20 : decode cX4_firstDigit 20 = .ok (.iconst 2, 1) := by decide +kernel
theorem dX4_firstDigit_21 : decode cX4_firstDigit 21 = .ok (.goto 4, 3) := by decide +kernel
theorem dX4_firstDigit_24 : decode cX4_firstDigit 24 = .ok (.iconst (-1), 1) := by decide +kernel
theorem dX4_firstDigit_25 : decode cX4_firstDigit 25 = .ok (.ireturn, 1) := by decide +kernel
theorem dX4_laterDigit_0 : decode cX4_laterDigit 0 = .ok (.iload_n 0, 1) := by decide +kernel
theorem dX4_laterDigit_1 : decode cX4_laterDigit 1 = .ok (.bipush 42, 2) := by decide +kernel
theorem dX4_laterDigit_3 : decode cX4_laterDigit 3 = .ok (.if_icmp .ne 5, 3) := by decide +kernel
theorem dX4_laterDigit_6 : decode cX4_laterDigit 6 = .ok (.iconst 5, 1) := by decide +kernel
theorem dX4_laterDigit_7 : decode cX4_laterDigit 7 = .ok (.ireturn, 1) := by decide +kernel
theorem dX4_laterDigit_8 : decode cX4_laterDigit 8 = .ok (.iload_n 0, 1) := by decide +kernel
theorem dX4_laterDigit_9 : decode cX4_laterDigit 9 = .ok (.bipush 48, 2) := by decide +kernel
theorem dX4_laterDigit_11 : decode cX4_laterDigit 11 = .ok (.if_icmp .lt 13, 3) := by decide +kernel
theorem dX4_laterDigit_14 : decode cX4_laterDigit 14 = .ok (.iload_n 0, 1) := by decide +kernel
theorem dX4_laterDigit_15 : decode cX4_laterDigit 15 = .ok (.bipush 57, 2) := by decide +kernel
theorem dX4_laterDigit_17 : decode cX4_laterDigit 17 = .ok (.if_icmp .gt 7, 3) := by decide +kernel
theorem dX4_laterDigit_20 : decode cX4_laterDigit 20 = .ok (.iload_n 1, 1) := by decide +kernel
theorem dX4_laterDigit_21 : decode cX4_laterDigit 21 = .ok (.goto 4, 3) := by decide +kernel
theorem dX4_laterDigit_24 : decode cX4_laterDigit 24 = .ok (.iconst (-1), 1) := by decide +kernel
theorem dX4_laterDigit_25 : decode cX4_laterDigit 25 = .ok (.ireturn, 1) := by decide +kernel
theorem dX4_behindSize_0 : decode cX4_behindSize 0 = .ok (.iload_n 0, 1) := by decide +kernel
theorem dX4_behindSize_1 : decode cX4_behindSize 1 = .ok (.bipush 44, 2) := by decide +kernel
theorem dX4_behindSize_3 : decode cX4_behindSize 3 = .ok (.if_icmp .ne 5, 3) := by decide +kernel
theorem dX4_behindSize_6 : decode cX4_behindSize 6 = .ok (.iconst 0, 1) := by decide +kernel
theorem dX4_behindSize_7 : decode cX4_behindSize 7 = .ok (.ireturn, 1) := by decide +kernel
theorem dX4_behindSize_8 : decode cX4_behindSize 8 = .ok (.iload_n 0, 1) := by decide +kernel
theorem dX4_behindSize_9 : decode cX4_behindSize 9 = .ok (.bipush 33, 2) := by decide +kernel
theorem dX4_behindSize_11 : decode cX4_behindSize 11 = .ok (.if_icmp .eq 9, 3) := by decide +kernel
theorem dX4_behindSize_14 : decode cX4_behindSize 14 = .ok (.iload_n 0, 1) := by decide +kernel
theorem dX4_behindSize_15 : decode cX4_behindSize 15 = .ok (.bipush 43, 2) := by decide +kernel
theorem dX4_behindSize_17 : decode cX4_behindSize 17 = .ok (.if_icmp .ne 8, 3) := by decide +kernel
theorem dX4_behindSize_20 : decode cX4_behindSize 20 = .ok (.bipush 7, 2) := by decide +kernel
theorem dX4_behindSize_22 : decode cX4_behindSize 22 = .ok (.goto 4, 3) := by decide +kernel
theorem dX4_behindSize_25 : decode cX4_behindSize 25 = .ok (.iconst (-1), 1) := by decide +kernel
theorem dX4_behindSize_26 : decode cX4_behindSize 26 = .ok (.ireturn, 1) := by decide +kernel
theorem dX5_init_0 : decode cX5_init 0 = .ok (.aload_n 0, 1) := by decide +kernel
theorem dX5_init_1 : decode cX5_init 1 = .ok (.invokespecial 1, 3) := by decide +kernel
theorem dX5_init_4 : decode cX5_init 4 = .ok (.aload_n 0, 1) := by decide +kernel
theorem dX5_init_5 : decode cX5_init 5 = .ok (.new 7, 3) := by decide +kernel
theorem dX5_init_8 : decode cX5_init 8 = .ok (.dup, 1) := by decide +kernel
theorem dX5_init_9 : decode cX5_init 9 = .ok (.invokespecial 9, 3) := by decide +kernel
theorem dX5_init_12 : decode cX5_init 12 = .ok (.putfield 10, 3) := by decide +kernel
theorem dX5_init_15 : decode cX5_init 15 = .ok (.aload_n 0, 1) := by decide +kernel
theorem dX5_init_16 : decode cX5_init 16 = .ok (.new 7, 3) := by decide +kernel
theorem dX5_init_19 : decode cX5_init 19 = .ok (.dup, 1) := by decide +kernel
theorem dX5_init_20 : decode cX5_init 20 = .ok (.invokespecial 9, 3) := by decide +kernel
theorem dX5_init_23 : decode cX5_init 23 = .ok (.putfield 16, 3) := by decide +kernel
theorem dX5_init_26 : decode cX5_init 26 = .ok (.aload_n 0, 1) := by decide +kernel
theorem dX5_init_27 : decode cX5_init 27 = .ok (.new 19, 3) := by decide +kernel
theorem dX5_init_30 : decode cX5_init 30 = .ok (.dup, 1) := by decide +kernel
theorem dX5_init_31 : decode cX5_init 31 = .ok (.invokespecial 21, 3) := by decide +kernel
theorem dX5_init_34 : decode cX5_init 34 = .ok (.putfield 22, 3) := by decide +kernel
theorem dX5_init_37 : decode cX5_init 37 = .ok (.aload_n 0, 1) := by decide +kernel
theorem dX5_init_38 : decode cX5_init 38 = .ok (.new 26, 3) := by decide +kernel
theorem dX5_init_41 : decode cX5_init 41 = .ok (.dup, 1) := by decide +kernel
theorem dX5_init_42 : decode cX5_init 42 = .ok (.invokespecial 28, 3) := by decide +kernel
theorem dX5_init_45 : decode cX5_init 45 = .ok (.putfield 29, 3) := by decide +kernel
theorem dX5_init_48 : decode cX5_init 48 = .ok (.return_, 1) := by decide +kernel
theorem dX5_put_0 : decode cX5_put 0 = .ok (.iload_n 1, 1) := by decide +kernel
theorem dX5_put_1 : decode cX5_put 1 = .ok (.iload_n 2, 1) := by decide +kernel
theorem dX5_put_2 : decode cX5_put 2 = .ok (.iload_n 3, 1) := by decide +kernel
theorem dX5_put_3 : decode cX5_put 3 = .ok (.invokestatic 33, 3) := by decide +kernel
theorem dX5_put_6 : decode cX5_put 6 = .ok (.ifCond .ne 13, 3) := by decide +kernel
theorem dX5_put_9 : decode cX5_put 9 = .ok (.new 37, 3) := by decide +kernel
theorem dX5_put_12 : decode cX5_put 12 = .ok (.dup, 1) := by decide +kernel
theorem dX5_put_13 : decode cX5_put 13 = .ok (.ldc 39, 2) := by decide +kernel
theorem dX5_put_15 : decode cX5_put 15 = .ok (.invokespecial 41, 3) := by decide +kernel
theorem dX5_put_18 : decode cX5_put 18 = .ok (.athrow, 1) := by decide +kernel
theorem dX5_put_19 : decode cX5_put 19 = .ok (.aload_n 0, 1) := by decide +kernel
theorem dX5_put_20 : decode cX5_put 20 = .ok (.getfield 10, 3) := by decide +kernel
theorem dX5_put_23 : decode cX5_put 23 = .ok (.getfield 44, 3) := by decide +kernel
theorem dX5_put_26 : decode cX5_put 26 = .ok (.iload_n 2, 1) := by decide +kernel
theorem dX5_put_27 : decode cX5_put 27 = .ok (.invokevirtual 48, 3) := by decide +kernel
theorem dX5_put_30 : decode cX5_put 30 = .ok (.iconst (-1), 1) := by decide +kernel
theorem dX5_put_31 : decode cX5_put 31 = .ok (.if_icmp .ne 13, 3) := by decide +kernel
theorem dX5_put_34 : decode cX5_put 34 = .ok (.new 54, 3) := by decide +kernel
theorem dX5_put_37 : decode cX5_put 37 = .ok (.dup, 1) := by decide +kernel
theorem dX5_put_38 : decode cX5_put 38 = .ok (.ldc 56, 2) := by decide +kernel
theorem dX5_put_40 : decode cX5_put 40 = .ok (.invokespecial 58, 3) := by decide +kernel
theorem dX5_put_43 : decode cX5_put 43 = .ok (.athrow, 1) := by decide +kernel
theorem dX5_put_44 : decode cX5_put 44 = .ok (.aload_n 0, 1) := by decide +kernel
theorem dX5_put_45 : decode cX5_put 45 = .ok (.getfield 22, 3) := by decide +kernel
theorem dX5_put_48 : decode cX5_put 48 = .ok (.aload_n 0, 1) := by decide +kernel
theorem dX5_put_49 : decode cX5_put 49 = .ok (.getfield 10, 3) := by decide +kernel
theorem dX5_put_52 : decode cX5_put 52 = .ok (.invokevirtual 59, 3) := by decide +kernel
theorem dX5_put_55 : decode cX5_put 55 = .ok (.aload_n 0, 1) := by decide +kernel
theorem dX5_put_56 : decode cX5_put 56 = .ok (.getfield 10, 3) := by decide +kernel
theorem dX5_put_59 : decode cX5_put 59 = .ok (.getfield 44, 3) := by decide +kernel
theorem dX5_put_62 : decode cX5_put 62 = .ok (.aload_n 0, 1) := by decide +kernel
theorem dX5_put_63 : decode cX5_put 63 = .ok (.getfield 10, 3) := by decide +kernel
theorem dX5_put_66 : decode cX5_put 66 = .ok (.aload_n 0, 1) := by decide +kernel
theorem dX5_put_67 : decode cX5_put 67 = .ok (.getfield 10, 3) := by decide +kernel
theorem dX5_put_70 : decode cX5_put 70 = .ok (.getfield 63, 3) := by decide +kernel
theorem dX5_put_73 : decode cX5_put 73 = .ok (.invokevirtual 67, 3) := by decide +kernel
theorem dX5_put_76 : decode cX5_put 76 = .ok (.iload_n 1, 1) := by decide +kernel
theorem dX5_put_77 : decode cX5_put 77 = .ok (.iload_n 2, 1) := by decide +kernel
theorem dX5_put_78 : decode cX5_put 78 = .ok (.iload_n 3, 1) := by decide +kernel
theorem dX5_put_79 : decode cX5_put 79 = .ok (.invokevirtual 73, 3) := by decide +kernel
theorem dX5_put_82 : decode cX5_put 82 = .ok (.invokevirtual 77, 3) := by decide +kernel
theorem dX5_put_85 : decode cX5_put 85 = .ok (.ireturn, 1) := by decide +kernel
theorem dX5_putBehind_0 : decode cX5_putBehind 0 = .ok (.aload_n 0, 1) := by decide +kernel
theorem dX5_putBehind_1 : decode cX5_putBehind 1 = .ok (.getfield 10, 3) := by decide +kernel
theorem dX5_putBehind_4 : decode cX5_putBehind 4 = .ok (.getfield 44, 3) := by decide +kernel
theorem dX5_putBehind_7 : decode cX5_putBehind 7 = .ok (.iload_n 1, 1) := by decide +kernel
theorem dX5_putBehind_8 : decode cX5_putBehind 8 = .ok (.invokevirtual 80, 3) := by decide +kernel
theorem dX5_putBehind_11 : decode cX5_putBehind 11 = .ok (.ifCond .eq 13, 3) := by decide +kernel
theorem dX5_putBehind_14 : decode cX5_putBehind 14 = .ok (.new 83, 3) := by decide +kernel
theorem dX5_putBehind_17 : decode cX5_putBehind 17 = .ok (.dup, 1) := by decide +kernel
theorem dX5_putBehind_18 : decode cX5_putBehind 18 = .ok (.ldc 85, 2) := by decide +kernel
theorem dX5_putBehind_20 : decode cX5_putBehind 20 = .ok (.invokespecial 87, 3) := by decide +kernel
theorem dX5_putBehind_23 : decode cX5_putBehind 23 = .ok (.athrow, 1) := by decide +kernel
theorem dX5_putBehind_24 : decode cX5_putBehind 24 = .ok (.iload_n 2, 1) := by decide +kernel
theorem dX5_putBehind_25 : decode cX5_putBehind 25 = .ok (.iload_n 3, 1) := by decide +kernel
theorem dX5_putBehind_26 : decode cX5_putBehind 26 = .ok (.iload 4, 2) := by decide +kernel
theorem dX5_putBehind_28 : decode cX5_putBehind 28 = .ok (.invokestatic 33, 3) := by decide +kernel
theorem dX5_putBehind_31 : decode cX5_putBehind 31 = .ok (.ifCond .ne 13, 3) := by decide +kernel
theorem dX5_putBehind_34 : decode cX5_putBehind 34 = .ok (.new 37, 3) := by decide +kernel
theorem dX5_putBehind_37 : decode cX5_putBehind 37 = .ok (.dup, 1) := by decide +kernel
theorem dX5_putBehind_38 : decode cX5_putBehind 38 = .ok (.ldc 39, 2) := by decide +kernel
theorem dX5_putBehind_40 : decode cX5_putBehind 40 = .ok (.invokespecial 41, 3) := by decide +kernel
theorem dX5_putBehind_43 : decode cX5_putBehind 43 = .ok (.athrow, 1) := by decide +kernel
theorem dX5_putBehind_44 : decode cX5_putBehind 44 = .ok (.aload_n 0, 1) := by decide +kernel
theorem dX5_putBehind_45 : decode cX5_putBehind 45 = .ok (.getfield 10, 3) := by decide +kernel
theorem dX5_putBehind_48 : decode cX5_putBehind 48 = .ok (.getfield 44, 3) := by decide +kernel
theorem dX5_putBehind_51 : decode cX5_putBehind 51 = .ok (.iload_n 3, 1) := by decide +kernel
theorem dX5_putBehind_52 : decode cX5_putBehind 52 = .ok (.invokevirtual 48, 3) := by decide +kernel
theorem dX5_putBehind_55 : decode cX5_putBehind 55 = .ok (.iconst (-1), 1) := by decide +kernel
theorem dX5_putBehind_56 : decode cX5_putBehind 56 = .ok (.if_icmp .ne 13, 3) := by decide +kernel
theorem dX5_putBehind_59 : decode cX5_putBehind 59 = .ok (.new 54, 3) := by decide +kernel
theorem dX5_putBehind_62 : decode cX5_putBehind 62 = .ok (.dup, 1) := by decide +kernel
theorem dX5_putBehind_63 : decode cX5_putBehind 63 = .ok (.ldc 56, 2) := by decide +kernel
theorem dX5_putBehind_65 : decode cX5_putBehind 65 = .ok (.invokespecial 58, 3) := by decide +kernel
theorem dX5_putBehind_68 : decode cX5_putBehind 68 = .ok (.athrow, 1) := by decide +kernel
theorem dX5_putBehind_69 : decode cX5_putBehind 69 = .ok (.aload_n 0, 1) := by decide +kernel
theorem dX5_putBehind_70 : decode cX5_putBehind 70 = .ok (.getfield 22, 3) := by decide +kernel
theorem dX5_putBehind_73 : decode cX5_putBehind 73 = .ok (.aload_n 0, 1) := by decide +kernel
theorem dX5_putBehind_74 : decode cX5_putBehind 74 = .ok (.getfield 10, 3) := by decide +kernel
theorem dX5_putBehind_77 : decode cX5_putBehind 77 = .ok (.invokevirtual 59, 3) := by decide +kernel
theorem dX5_putBehind_80 : decode cX5_putBehind 80 = .ok (.aload_n 0, 1) := by decide +kernel
theorem dX5_putBehind_81 : decode cX5_putBehind 81 = .ok (.getfield 10, 3) := by decide +kernel
theorem dX5_putBehind_84 : decode cX5_putBehind 84 = .ok (.getfield 63, 3) := by decide +kernel
theorem dX5_putBehind_87 : decode cX5_putBehind 87 = .ok (.iload_n 1, 1) := by decide +kernel
theorem dX5_putBehind_88 : decode cX5_putBehind 88 = .ok (.sipush 1000, 3) := by decide +kernel
theorem dX5_putBehind_91 : decode cX5_putBehind 91 = .ok (.idiv, 1) := by decide +kernel
theorem dX5_putBehind_92 : decode cX5_putBehind 92 = .ok (.invokevirtual 88, 3) := by decide +kernel
theorem dX5_putBehind_95 : decode cX5_putBehind 95 = .ok (.iconst 1, 1) := by decide +kernel
theorem dX5_putBehind_96 : decode cX5_putBehind 96 = .ok (.iadd, 1) := by decide +kernel
theorem dX5_putBehind_97 : decode cX5_putBehind 97 = .ok (.istore 5, 2) := by decide +kernel
theorem dX5_putBehind_99 : decode cX5_putBehind 99 = .ok (.aload_n 0, 1) := by decide +kernel
theorem dX5_putBehind_100 : decode cX5_putBehind 100 = .ok (.getfield 10, 3) := by decide +kernel
theorem dX5_putBehind_103 : decode cX5_putBehind 103 = .ok (.getfield 44, 3) := by decide +kernel
theorem dX5_putBehind_106 : decode cX5_putBehind 106 = .ok (.aload_n 0, 1) := by decide +kernel
theorem dX5_putBehind_107 : decode cX5_putBehind 107 = .ok (.getfield 10, 3) := by decide +kernel
theorem dX5_putBehind_110 : decode cX5_putBehind 110 = .ok (.iload 5, 2) := by decide +kernel
theorem dX5_putBehind_112 : decode cX5_putBehind 112 = .ok (.iload_n 2, 1) := by decide +kernel
theorem dX5_putBehind_113 : decode cX5_putBehind 113 = .ok (.iload_n 3, 1) := by decide +kernel
theorem dX5_putBehind_114 : decode cX5_putBehind 114 = .ok (.iload 4, 2) := by decide +kernel
theorem dX5_putBehind_116 : decode cX5_putBehind 116 = .ok (.invokevirtual 73, 3) := by decide +kernel
theorem dX5_putBehind_119 : decode cX5_putBehind 119 = .ok (.invokevirtual 77, 3) := by decide +kernel
theorem dX5_putBehind_122 : decode cX5_putBehind 122 = .ok (.ireturn, 1) := by decide +kernel
theorem dX5_remove_0 : decode cX5_remove 0 = .ok (.aload_n 0, 1) := by decide +kernel
theorem dX5_remove_1 : decode cX5_remove 1 = .ok (.getfield 10, 3) := by decide +kernel
theorem dX5_remove_4 : decode cX5_remove 4 = .ok (.getfield 44, 3) := by decide +kernel
theorem dX5_remove_7 : decode cX5_remove 7 = .ok (.iload_n 1, 1) := by decide +kernel
theorem dX5_remove_8 : decode cX5_remove 8 = .ok (.invokevirtual 80, 3) := by decide +kernel
theorem dX5_remove_11 : decode cX5_remove 11 = .ok (.ifCond .eq 13, 3) := by decide +kernel
theorem dX5_remove_14 : decode cX5_remove 14 = .ok (.new 83, 3) := by decide +kernel
theorem dX5_remove_17 : decode cX5_remove 17 = .ok (.dup, 1) := by decide +kernel
theorem dX5_remove_18 : decode cX5_remove 18 = .ok (.ldc 85, 2) := by decide +kernel
theorem dX5_remove_20 : decode cX5_remove 20 = .ok (.invokespecial 87, 3) := by decide +kernel
theorem dX5_remove_23 : decode cX5_remove 23 = .ok (.athrow, 1) := by decide +kernel
theorem dX5_remove_24 : decode cX5_remove 24 = .ok (.iload_n 1, 1) := by decide +kernel
theorem dX5_remove_25 : decode cX5_remove 25 = .ok (.sipush 1000, 3) := by decide +kernel
theorem dX5_remove_28 : decode cX5_remove 28 = .ok (.idiv, 1) := by decide +kernel
theorem dX5_remove_29 : decode cX5_remove 29 = .ok (.istore_n 2, 1) := by decide +kernel
theorem dX5_remove_30 : decode cX5_remove 30 = .ok (.aload_n 0, 1) := by decide +kernel
theorem dX5_remove_31 : decode cX5_remove 31 = .ok (.getfield 10, 3) := by decide +kernel
theorem dX5_remove_34 : decode cX5_remove 34 = .ok (.getfield 44, 3) := by decide +kernel
theorem dX5_remove_37 : decode cX5_remove 37 = .ok (.iload_n 2, 1) := by decide +kernel
theorem dX5_remove_38 : decode cX5_remove 38 = .ok (.invokevirtual 91, 3) := by decide +kernel
theorem dX5_remove_41 : decode cX5_remove 41 = .ok (.istore_n 3, 1) := by decide +kernel
theorem dX5_remove_42 : decode cX5_remove 42 = .ok (.aload_n 0, 1) := by decide +kernel
theorem dX5_remove_43 : decode cX5_remove 43 = .ok (.getfield 22, 3) := by decide +kernel
theorem dX5_remove_46 : decode cX5_remove 46 = .ok (.aload_n 0, 1) := by decide +kernel
theorem dX5_remove_47 : decode cX5_remove 47 = .ok (.getfield 10, 3) := by decide +kernel
theorem dX5_remove_50 : decode cX5_remove 50 = .ok (.invokevirtual 59, 3) := by decide +kernel
theorem dX5_remove_53 : decode cX5_remove 53 = .ok (.aload_n 0, 1) := by decide +kernel
theorem dX5_remove_54 : decode cX5_remove 54 = .ok (.getfield 10, 3) := by decide +kernel
theorem dX5_remove_57 : decode cX5_remove 57 = .ok (.iload_n 2, 1) := by decide +kernel
theorem dX5_remove_58 : decode cX5_remove 58 = .ok (.invokevirtual 94, 3) := by decide +kernel
theorem dX5_remove_61 : decode cX5_remove 61 = .ok (.iload_n 3, 1) := by decide +kernel
theorem dX5_remove_62 : decode cX5_remove 62 = .ok (.ireturn, 1) := by decide +kernel
theorem dX5_change_0 : decode cX5_change 0 = .ok (.aload_n 0, 1) := by decide +kernel
theorem dX5_change_1 : decode cX5_change 1 = .ok (.getfield 10, 3) := by decide +kernel
theorem dX5_change_4 : decode cX5_change 4 = .ok (.getfield 44, 3) := by decide +kernel
theorem dX5_change_7 : decode cX5_change 7 = .ok (.iload_n 1, 1) := by decide +kernel
theorem dX5_change_8 : decode cX5_change 8 = .ok (.invokevirtual 80, 3) := by decide +kernel
theorem dX5_change_11 : decode cX5_change 11 = .ok (.ifCond .eq 13, 3) := by decide +kernel
theorem dX5_change_14 : decode cX5_change 14 = .ok (.new 83, 3) := by decide +kernel
theorem dX5_change_17 : decode cX5_change 17 = .ok (.dup, 1) := by decide +kernel
theorem dX5_change_18 : decode cX5_change 18 = .ok (.ldc 85, 2) := by decide +kernel
theorem dX5_change_20 : decode cX5_change 20 = .ok (.invokespecial 87, 3) := by decide +kernel
theorem dX5_change_23 : decode cX5_change 23 = .ok (.athrow, 1) := by decide +kernel
theorem dX5_change_24 : decode cX5_change 24 = .ok (.iload_n 2, 1) := by decide +kernel
theorem dX5_change_25 : decode cX5_change 25 = .ok (.invokestatic 98, 3) := by decide +kernel
theorem dX5_change_28 : decode cX5_change 28 = .ok (.ifCond .ne 13, 3) := by decide +kernel
theorem dX5_change_31 : decode cX5_change 31 = .ok (.new 37, 3) := by decide +kernel
theorem dX5_change_34 : decode cX5_change 34 = .ok (.dup, 1) := by decide +kernel
theorem dX5_change_35 : decode cX5_change 35 = .ok (.ldc 102, 2) := by decide +kernel
theorem dX5_change_37 : decode cX5_change 37 = .ok (.invokespecial 41, 3) := by decide +kernel
theorem dX5_change_40 : decode cX5_change 40 = .ok (.athrow, 1) := by decide +kernel
theorem dX5_change_41 : decode cX5_change 41 = .ok (.iload_n 1, 1) := by decide +kernel
theorem dX5_change_42 : decode cX5_change 42 = .ok (.sipush 1000, 3) := by decide +kernel
theorem dX5_change_45 : decode cX5_change 45 = .ok (.idiv, 1) := by decide +kernel
theorem dX5_change_46 : decode cX5_change 46 = .ok (.istore_n 3, 1) := by decide +kernel
theorem dX5_change_47 : decode cX5_change 47 = .ok (.aload_n 0, 1) := by decide +kernel
theorem dX5_change_48 : decode cX5_change 48 = .ok (.getfield 10, 3) := by decide +kernel
theorem dX5_change_51 : decode cX5_change 51 = .ok (.getfield 44, 3) := by decide +kernel
theorem dX5_change_54 : decode cX5_change 54 = .ok (.iload_n 3, 1) := by decide +kernel
theorem dX5_change_55 : decode cX5_change 55 = .ok (.invokevirtual 91, 3) := by decide +kernel
theorem dX5_change_58 : decode cX5_change 58 = .ok (.istore 4, 2) := by decide +kernel
theorem dX5_change_60 : decode cX5_change 60 = .ok (.aload_n 0, 1) := by decide +kernel
theorem dX5_change_61 : decode cX5_change 61 = .ok (.getfield 22, 3) := by decide +kernel
theorem dX5_change_64 : decode cX5_change 64 = .ok (.aload_n 0, 1) := by decide +kernel
theorem dX5_change_65 : decode cX5_change 65 = .ok (.getfield 10, 3) := by decide +kernel
theorem dX5_change_68 : decode cX5_change 68 = .ok (.invokevirtual 59, 3) := by decide +kernel
theorem dX5_change_71 : decode cX5_change 71 = .ok (.aload_n 0, 1) := by decide +kernel
theorem dX5_change_72 : decode cX5_change 72 = .ok (.getfield 10, 3) := by decide +kernel
theorem dX5_change_75 : decode cX5_change 75 = .ok (.getfield 44, 3) := by decide +kernel
theorem dX5_change_78 : decode cX5_change 78 = .ok (.iload_n 3, 1) := by decide +kernel
theorem dX5_change_79 : decode cX5_change 79 = .ok (.iload_n 2, 1) := by decide +kernel
theorem dX5_change_80 : decode cX5_change 80 = .ok (.invokevirtual 104, 3) := by decide +kernel
theorem dX5_change_83 : decode cX5_change 83 = .ok (.iload 4, 2) := by decide +kernel
theorem dX5_change_85 : decode cX5_change 85 = .ok (.ireturn, 1) := by decide +kernel
theorem dX5_restart_0 : decode cX5_restart 0 = .ok (.iload_n 1, 1) := by decide +kernel
theorem dX5_restart_1 : decode cX5_restart 1 = .ok (.invokestatic 108, 3) := by decide +kernel
theorem dX5_restart_4 : decode cX5_restart 4 = .ok (.ifCond .ne 13, 3) := by decide +kernel
theorem dX5_restart_7 : decode cX5_restart 7 = .ok (.new 83, 3) := by decide +kernel
theorem dX5_restart_10 : decode cX5_restart 10 = .ok (.dup, 1) := by decide +kernel
theorem dX5_restart_11 : decode cX5_restart 11 = .ok (.ldc 111, 2) := by decide +kernel
theorem dX5_restart_13 : decode cX5_restart 13 = .ok (.invokespecial 87, 3) := by decide +kernel
theorem dX5_restart_16 : decode cX5_restart 16 = .ok (.athrow, 1) := by decide +kernel
theorem dX5_restart_17 : decode cX5_restart 17 = .ok (.aload_n 0, 1) := by decide +kernel
theorem dX5_restart_18 : decode cX5_restart 18 = .ok (.getfield 10, 3) := by decide +kernel
theorem dX5_restart_21 : decode cX5_restart 21 = .ok (.getfield 63, 3) := by decide +kernel
theorem dX5_restart_24 : decode cX5_restart 24 = .ok (.iload_n 1, 1) := by decide +kernel
theorem dX5_restart_25 : decode cX5_restart 25 = .ok (.invokevirtual 113, 3) := by decide +kernel
theorem dX5_restart_28 : decode cX5_restart 28 = .ok (.istore_n 2, 1) := by decide +kernel
theorem dX5_restart_29 : decode cX5_restart 29 = .ok (.aload_n 0, 1) := by decide +kernel
theorem dX5_restart_30 : decode cX5_restart 30 = .ok (.getfield 22, 3) := by decide +kernel
theorem dX5_restart_33 : decode cX5_restart 33 = .ok (.aload_n 0, 1) := by decide +kernel
theorem dX5_restart_34 : decode cX5_restart 34 = .ok (.getfield 10, 3) := by decide +kernel
theorem dX5_restart_37 : decode cX5_restart 37 = .ok (.invokevirtual 59, 3) := by decide +kernel
theorem dX5_restart_40 : decode cX5_restart 40 = .ok (.aload_n 0, 1) := by decide +kernel
theorem dX5_restart_41 : decode cX5_restart 41 = .ok (.getfield 10, 3) := by decide +kernel
theorem dX5_restart_44 : decode cX5_restart 44 = .ok (.getfield 63, 3) := by decide +kernel
theorem dX5_restart_47 : decode cX5_restart 47 = .ok (.iload_n 1, 1) := by decide +kernel
theorem dX5_restart_48 : decode cX5_restart 48 = .ok (.invokevirtual 116, 3) := by decide +kernel
theorem dX5_restart_51 : decode cX5_restart 51 = .ok (.iload_n 2, 1) := by decide +kernel
theorem dX5_restart_52 : decode cX5_restart 52 = .ok (.ireturn, 1) := by decide +kernel
theorem dX5_goOn_0 : decode cX5_goOn 0 = .ok (.iload_n 1, 1) := by decide +kernel
theorem dX5_goOn_1 : decode cX5_goOn 1 = .ok (.invokestatic 108, 3) := by decide +kernel
theorem dX5_goOn_4 : decode cX5_goOn 4 = .ok (.ifCond .ne 13, 3) := by decide +kernel
theorem dX5_goOn_7 : decode cX5_goOn 7 = .ok (.new 83, 3) := by decide +kernel
theorem dX5_goOn_10 : decode cX5_goOn 10 = .ok (.dup, 1) := by decide +kernel
theorem dX5_goOn_11 : decode cX5_goOn 11 = .ok (.ldc 111, 2) := by decide +kernel
theorem dX5_goOn_13 : decode cX5_goOn 13 = .ok (.invokespecial 87, 3) := by decide +kernel
theorem dX5_goOn_16 : decode cX5_goOn 16 = .ok (.athrow, 1) := by decide +kernel
theorem dX5_goOn_17 : decode cX5_goOn 17 = .ok (.aload_n 0, 1) := by decide +kernel
theorem dX5_goOn_18 : decode cX5_goOn 18 = .ok (.getfield 22, 3) := by decide +kernel
theorem dX5_goOn_21 : decode cX5_goOn 21 = .ok (.aload_n 0, 1) := by decide +kernel
theorem dX5_goOn_22 : decode cX5_goOn 22 = .ok (.getfield 10, 3) := by decide +kernel
theorem dX5_goOn_25 : decode cX5_goOn 25 = .ok (.invokevirtual 59, 3) := by decide +kernel
theorem dX5_goOn_28 : decode cX5_goOn 28 = .ok (.aload_n 0, 1) := by decide +kernel
theorem dX5_goOn_29 : decode cX5_goOn 29 = .ok (.getfield 10, 3) := by decide +kernel
theorem dX5_goOn_32 : decode cX5_goOn 32 = .ok (.getfield 63, 3) := by decide +kernel
theorem dX5_goOn_35 : decode cX5_goOn 35 = .ok (.iload_n 1, 1) := by decide +kernel
theorem dX5_goOn_36 : decode cX5_goOn 36 = .ok (.invokevirtual 119, 3) := by decide +kernel
theorem dX5_goOn_39 : decode cX5_goOn 39 = .ok (.aload_n 0, 1) := by decide +kernel
theorem dX5_goOn_40 : decode cX5_goOn 40 = .ok (.getfield 10, 3) := by decide +kernel
theorem dX5_goOn_43 : decode cX5_goOn 43 = .ok (.getfield 44, 3) := by decide +kernel
theorem dX5_goOn_46 : decode cX5_goOn 46 = .ok (.aload_n 0, 1) := by decide +kernel
theorem dX5_goOn_47 : decode cX5_goOn 47 = .ok (.getfield 10, 3) := by decide +kernel
theorem dX5_goOn_50 : decode cX5_goOn 50 = .ok (.getfield 63, 3) := by decide +kernel
theorem dX5_goOn_53 : decode cX5_goOn 53 = .ok (.iload_n 1, 1) := by decide +kernel
theorem dX5_goOn_54 : decode cX5_goOn 54 = .ok (.invokevirtual 122, 3) := by decide +kernel
theorem dX5_goOn_57 : decode cX5_goOn 57 = .ok (.invokevirtual 77, 3) := by decide +kernel
theorem dX5_goOn_60 : decode cX5_goOn 60 = .ok (.ireturn, 1) := by decide +kernel
theorem dX5_take_0 : decode cX5_take 0 = .ok (.iload_n 1, 1) := by decide +kernel
theorem dX5_take_1 : decode cX5_take 1 = .ok (.invokestatic 108, 3) := by decide +kernel
theorem dX5_take_4 : decode cX5_take 4 = .ok (.ifCond .ne 13, 3) := by decide +kernel
theorem dX5_take_7 : decode cX5_take 7 = .ok (.new 83, 3) := by decide +kernel
theorem dX5_take_10 : decode cX5_take 10 = .ok (.dup, 1) := by decide +kernel
theorem dX5_take_11 : decode cX5_take 11 = .ok (.ldc 111, 2) := by decide +kernel
theorem dX5_take_13 : decode cX5_take 13 = .ok (.invokespecial 87, 3) := by decide +kernel
theorem dX5_take_16 : decode cX5_take 16 = .ok (.athrow, 1) := by decide +kernel
theorem dX5_take_17 : decode cX5_take 17 = .ok (.aload_n 0, 1) := by decide +kernel
theorem dX5_take_18 : decode cX5_take 18 = .ok (.getfield 10, 3) := by decide +kernel
theorem dX5_take_21 : decode cX5_take 21 = .ok (.getfield 63, 3) := by decide +kernel
theorem dX5_take_24 : decode cX5_take 24 = .ok (.iload_n 1, 1) := by decide +kernel
theorem dX5_take_25 : decode cX5_take 25 = .ok (.invokevirtual 122, 3) := by decide +kernel
theorem dX5_take_28 : decode cX5_take 28 = .ok (.istore_n 2, 1) := by decide +kernel
theorem dX5_take_29 : decode cX5_take 29 = .ok (.iload_n 2, 1) := by decide +kernel
theorem dX5_take_30 : decode cX5_take 30 = .ok (.iconst (-1), 1) := by decide +kernel
theorem dX5_take_31 : decode cX5_take 31 = .ok (.if_icmp .ne 13, 3) := by decide +kernel
theorem dX5_take_34 : decode cX5_take 34 = .ok (.new 54, 3) := by decide +kernel
theorem dX5_take_37 : decode cX5_take 37 = .ok (.dup, 1) := by decide +kernel
theorem dX5_take_38 : decode cX5_take 38 = .ok (.ldc 125, 2) := by decide +kernel
theorem dX5_take_40 : decode cX5_take 40 = .ok (.invokespecial 58, 3) := by decide +kernel
theorem dX5_take_43 : decode cX5_take 43 = .ok (.athrow, 1) := by decide +kernel
theorem dX5_take_44 : decode cX5_take 44 = .ok (.aload_n 0, 1) := by decide +kernel
theorem dX5_take_45 : decode cX5_take 45 = .ok (.getfield 10, 3) := by decide +kernel
theorem dX5_take_48 : decode cX5_take 48 = .ok (.getfield 44, 3) := by decide +kernel
theorem dX5_take_51 : decode cX5_take 51 = .ok (.iload_n 2, 1) := by decide +kernel
theorem dX5_take_52 : decode cX5_take 52 = .ok (.invokevirtual 91, 3) := by decide +kernel
theorem dX5_take_55 : decode cX5_take 55 = .ok (.istore_n 3, 1) := by decide +kernel
theorem dX5_take_56 : decode cX5_take 56 = .ok (.aload_n 0, 1) := by decide +kernel
theorem dX5_take_57 : decode cX5_take 57 = .ok (.getfield 22, 3) := by decide +kernel
theorem dX5_take_60 : decode cX5_take 60 = .ok (.aload_n 0, 1) := by decide +kernel
theorem dX5_take_61 : decode cX5_take 61 = .ok (.getfield 10, 3) := by decide +kernel
theorem dX5_take_64 : decode cX5_take 64 = .ok (.invokevirtual 59, 3) := by decide +kernel
theorem dX5_take_67 : decode cX5_take 67 = .ok (.aload_n 0, 1) := by decide +kernel
theorem dX5_take_68 : decode cX5_take 68 = .ok (.getfield 10, 3) := by decide +kernel
theorem dX5_take_71 : decode cX5_take 71 = .ok (.iload_n 2, 1) := by decide +kernel
theorem dX5_take_72 : decode cX5_take 72 = .ok (.invokevirtual 94, 3) := by decide +kernel
theorem dX5_take_75 : decode cX5_take 75 = .ok (.iload_n 3, 1) := by decide +kernel
theorem dX5_take_76 : decode cX5_take 76 = .ok (.ireturn, 1) := by decide +kernel
theorem dX5_fire_0 : decode cX5_fire 0 = .ok (.aload_n 0, 1) := by decide +kernel
theorem dX5_fire_1 : decode cX5_fire 1 = .ok (.getfield 22, 3) := by decide +kernel
theorem dX5_fire_4 : decode cX5_fire 4 = .ok (.aload_n 0, 1) := by decide +kernel
theorem dX5_fire_5 : decode cX5_fire 5 = .ok (.getfield 10, 3) := by decide +kernel
theorem dX5_fire_8 : decode cX5_fire 8 = .ok (.invokevirtual 59, 3) := by decide +kernel
theorem dX5_fire_11 : decode cX5_fire 11 = .ok (.aload_n 0, 1) := by decide +kernel
theorem dX5_fire_12 : decode cX5_fire 12 = .ok (.getfield 10, 3) := by decide +kernel
theorem dX5_fire_15 : decode cX5_fire 15 = .ok (.invokevirtual 127, 3) := by decide +kernel
theorem dX5_fire_18 : decode cX5_fire 18 = .ok (.ireturn, 1) := by decide +kernel
theorem dX5_together_0 : decode cX5_together 0 = .ok (.aload_n 0, 1) := by decide +kernel
theorem dX5_together_1 : decode cX5_together 1 = .ok (.getfield 22, 3) := by decide +kernel
theorem dX5_together_4 : decode cX5_together 4 = .ok (.aload_n 0, 1) := by decide +kernel
theorem dX5_together_5 : decode cX5_together 5 = .ok (.getfield 10, 3) := by decide +kernel
theorem dX5_together_8 : decode cX5_together 8 = .ok (.invokevirtual 59, 3) := by decide +kernel
theorem dX5_together_11 : decode cX5_together 11 = .ok (.aload_n 0, 1) := by decide +kernel
theorem dX5_together_12 : decode cX5_together 12 = .ok (.getfield 10, 3) := by decide +kernel
theorem dX5_together_15 : decode cX5_together 15 = .ok (.invokevirtual 130, 3) := by decide +kernel
theorem dX5_together_18 : decode cX5_together 18 = .ok (.ireturn, 1) := by decide +kernel
theorem dX5_append_0 : decode cX5_append 0 = .ok (.iload_n 1, 1) := by decide +kernel
theorem dX5_append_1 : decode cX5_append 1 = .ok (.bipush 33, 2) := by decide +kernel
theorem dX5_append_3 : decode cX5_append 3 = .ok (.if_icmp .lt 9, 3) := by decide +kernel
theorem dX5_append_6 : decode cX5_append 6 = .ok (.iload_n 1, 1) := by decide +kernel
theorem dX5_append_7 : decode cX5_append 7 = .ok (.bipush 126, 2) := by decide +kernel
theorem dX5_append_9 : decode cX5_append 9 = .ok (.if_icmp .le 13, 3) := by decide +kernel
theorem dX5_append_12 : decode cX5_append 12 = .ok (.new 37, 3) := by decide +kernel
theorem dX5_append_15 : decode cX5_append 15 = .ok (.dup, 1) := by decide +kernel
theorem dX5_append_16 : decode cX5_append 16 = .ok (.ldc 133, 2) := by decide +kernel
theorem dX5_append_18 : decode cX5_append 18 = .ok (.invokespecial 41, 3) := by decide +kernel
theorem dX5_append_21 : decode cX5_append 21 = .ok (.athrow, 1) := by decide +kernel
theorem dX5_append_22 : decode cX5_append 22 = .ok (.aload_n 0, 1) := by decide +kernel
theorem dX5_append_23 : decode cX5_append 23 = .ok (.getfield 29, 3) := by decide +kernel
theorem dX5_append_26 : decode cX5_append 26 = .ok (.invokevirtual 135, 3) := by decide +kernel
theorem dX5_append_29 : decode cX5_append 29 = .ok (.ifCond .eq 13, 3) := by decide +kernel
theorem dX5_append_32 : decode cX5_append 32 = .ok (.new 54, 3) := by decide +kernel
theorem dX5_append_35 : decode cX5_append 35 = .ok (.dup, 1) := by decide +kernel
theorem dX5_append_36 : decode cX5_append 36 = .ok (.ldc 139, 2) := by decide +kernel
theorem dX5_append_38 : decode cX5_append 38 = .ok (.invokespecial 58, 3) := by decide +kernel
theorem dX5_append_41 : decode cX5_append 41 = .ok (.athrow, 1) := by decide +kernel
theorem dX5_append_42 : decode cX5_append 42 = .ok (.aload_n 0, 1) := by decide +kernel
theorem dX5_append_43 : decode cX5_append 43 = .ok (.getfield 29, 3) := by decide +kernel
theorem dX5_append_46 : decode cX5_append 46 = .ok (.iload_n 1, 1) := by decide +kernel
theorem dX5_append_47 : decode cX5_append 47 = .ok (.invokevirtual 141, 3) := by decide +kernel
theorem dX5_append_50 : decode cX5_append 50 = .ok (.aload_n 0, 1) := by decide +kernel
theorem dX5_append_51 : decode cX5_append 51 = .ok (.getfield 29, 3) := by decide +kernel
theorem dX5_append_54 : decode cX5_append 54 = .ok (.invokevirtual 144, 3) := by decide +kernel
theorem dX5_append_57 : decode cX5_append 57 = .ok (.ireturn, 1) := by decide +kernel
theorem dX5_clearBuffer_0 : decode cX5_clearBuffer 0 = .ok (.aload_n 0, 1) := by decide +kernel
theorem dX5_clearBuffer_1 : decode cX5_clearBuffer 1 = .ok (.getfield 29, 3) := by decide +kernel
theorem dX5_clearBuffer_4 : decode cX5_clearBuffer 4 = .ok (.invokevirtual 144, 3) := by decide +kernel
theorem dX5_clearBuffer_7 : decode cX5_clearBuffer 7 = .ok (.istore_n 1, 1) := by decide +kernel
theorem dX5_clearBuffer_8 : decode cX5_clearBuffer 8 = .ok (.aload_n 0, 1) := by decide +kernel
theorem dX5_clearBuffer_9 : decode cX5_clearBuffer 9 = .ok (.getfield 29, 3) := by decide +kernel
theorem dX5_clearBuffer_12 : decode cX5_clearBuffer 12 = .ok (.invokevirtual 145, 3) := by decide +kernel
theorem dX5_clearBuffer_15 : decode cX5_clearBuffer 15 = .ok (.iload_n 1, 1) := by decide +kernel
theorem dX5_clearBuffer_16 : decode cX5_clearBuffer 16 = .ok (.ireturn, 1) := by decide +kernel
theorem dX5_firstError_0 : decode cX5_firstError 0 = .ok (.aload_n 0, 1) := by decide +kernel
theorem dX5_firstError_1 : decode cX5_firstError 1 = .ok (.getfield 29, 3) := by decide +kernel
theorem dX5_firstError_4 : decode cX5_firstError 4 = .ok (.invokevirtual 148, 3) := by decide +kernel
theorem dX5_firstError_7 : decode cX5_firstError 7 = .ok (.ireturn, 1) := by decide +kernel
theorem dX5_putAll_0 : decode cX5_putAll 0 = .ok (.aload_n 0, 1) := by decide +kernel
theorem dX5_putAll_1 : decode cX5_putAll 1 = .ok (.getfield 29, 3) := by decide +kernel
theorem dX5_putAll_4 : decode cX5_putAll 4 = .ok (.invokevirtual 151, 3) := by decide +kernel
theorem dX5_putAll_7 : decode cX5_putAll 7 = .ok (.ifCond .ne 13, 3) := by decide +kernel
theorem dX5_putAll_10 : decode cX5_putAll 10 = .ok (.new 37, 3) := by decide +kernel
theorem dX5_putAll_13 : decode cX5_putAll 13 = .ok (.dup, 1) := by decide +kernel
theorem dX5_putAll_14 : decode cX5_putAll 14 = .ok (.ldc 154, 2) := by decide +kernel
theorem dX5_putAll_16 : decode cX5_putAll 16 = .ok (.invokespecial 41, 3) := by decide +kernel
theorem dX5_putAll_19 : decode cX5_putAll 19 = .ok (.athrow, 1) := by decide +kernel
theorem dX5_putAll_20 : decode cX5_putAll 20 = .ok (.aload_n 0, 1) := by decide +kernel
theorem dX5_putAll_21 : decode cX5_putAll 21 = .ok (.getfield 22, 3) := by decide +kernel
theorem dX5_putAll_24 : decode cX5_putAll 24 = .ok (.aload_n 0, 1) := by decide +kernel
theorem dX5_putAll_25 : decode cX5_putAll 25 = .ok (.getfield 10, 3) := by decide +kernel
theorem dX5_putAll_28 : decode cX5_putAll 28 = .ok (.invokevirtual 59, 3) := by decide +kernel
theorem dX5_putAll_31 : decode cX5_putAll 31 = .ok (.aload_n 0, 1) := by decide +kernel
theorem dX5_putAll_32 : decode cX5_putAll 32 = .ok (.invokevirtual 156, 3) := by decide +kernel
theorem dX5_putAll_35 : decode cX5_putAll 35 = .ok (.istore_n 1, 1) := by decide +kernel
theorem dX5_putAll_36 : decode cX5_putAll 36 = .ok (.aload_n 0, 1) := by decide +kernel
theorem dX5_putAll_37 : decode cX5_putAll 37 = .ok (.getfield 29, 3) := by decide +kernel
theorem dX5_putAll_40 : decode cX5_putAll 40 = .ok (.invokevirtual 145, 3) := by decide +kernel
theorem dX5_putAll_43 : decode cX5_putAll 43 = .ok (.iload_n 1, 1) := by decide +kernel
theorem dX5_putAll_44 : decode cX5_putAll 44 = .ok (.ireturn, 1) := by decide +kernel
theorem dX5_undo_0 : decode cX5_undo 0 = .ok (.aload_n 0, 1) := by decide +kernel
theorem dX5_undo_1 : decode cX5_undo 1 = .ok (.getfield 22, 3) := by decide +kernel
theorem dX5_undo_4 : decode cX5_undo 4 = .ok (.invokevirtual 159, 3) := by decide +kernel
theorem dX5_undo_7 : decode cX5_undo 7 = .ok (.ifCond .ne 13, 3) := by decide +kernel
theorem dX5_undo_10 : decode cX5_undo 10 = .ok (.new 54, 3) := by decide +kernel
theorem dX5_undo_13 : decode cX5_undo 13 = .ok (.dup, 1) := by decide +kernel
theorem dX5_undo_14 : decode cX5_undo 14 = .ok (.ldc 160, 2) := by decide +kernel
theorem dX5_undo_16 : decode cX5_undo 16 = .ok (.invokespecial 58, 3) := by decide +kernel
theorem dX5_undo_19 : decode cX5_undo 19 = .ok (.athrow, 1) := by decide +kernel
theorem dX5_undo_20 : decode cX5_undo 20 = .ok (.aload_n 0, 1) := by decide +kernel
theorem dX5_undo_21 : decode cX5_undo 21 = .ok (.getfield 22, 3) := by decide +kernel
theorem dX5_undo_24 : decode cX5_undo 24 = .ok (.aload_n 0, 1) := by decide +kernel
theorem dX5_undo_25 : decode cX5_undo 25 = .ok (.getfield 10, 3) := by decide +kernel
theorem dX5_undo_28 : decode cX5_undo 28 = .ok (.invokevirtual 162, 3) := by decide +kernel
theorem dX5_undo_31 : decode cX5_undo 31 = .ok (.aload_n 0, 1) := by decide +kernel
theorem dX5_undo_32 : decode cX5_undo 32 = .ok (.getfield 22, 3) := by decide +kernel
theorem dX5_undo_35 : decode cX5_undo 35 = .ok (.invokevirtual 159, 3) := by decide +kernel
theorem dX5_undo_38 : decode cX5_undo 38 = .ok (.ireturn, 1) := by decide +kernel
theorem dX5_refusal_0 : decode cX5_refusal 0 = .ok (.aload_n 0, 1) := by decide +kernel
theorem dX5_refusal_1 : decode cX5_refusal 1 = .ok (.getfield 10, 3) := by decide +kernel
theorem dX5_refusal_4 : decode cX5_refusal 4 = .ok (.getfield 44, 3) := by decide +kernel
theorem dX5_refusal_7 : decode cX5_refusal 7 = .ok (.iload_n 1, 1) := by decide +kernel
theorem dX5_refusal_8 : decode cX5_refusal 8 = .ok (.invokevirtual 80, 3) := by decide +kernel
theorem dX5_refusal_11 : decode cX5_refusal 11 = .ok (.ireturn, 1) := by decide +kernel
theorem dX5_thing_0 : decode cX5_thing 0 = .ok (.aload_n 0, 1) := by decide +kernel
theorem dX5_thing_1 : decode cX5_thing 1 = .ok (.getfield 10, 3) := by decide +kernel
theorem dX5_thing_4 : decode cX5_thing 4 = .ok (.getfield 44, 3) := by decide +kernel
theorem dX5_thing_7 : decode cX5_thing 7 = .ok (.iload_n 1, 1) := by decide +kernel
theorem dX5_thing_8 : decode cX5_thing 8 = .ok (.invokevirtual 80, 3) := by decide +kernel
theorem dX5_thing_11 : decode cX5_thing 11 = .ok (.ifCond .eq 13, 3) := by decide +kernel
theorem dX5_thing_14 : decode cX5_thing 14 = .ok (.new 83, 3) := by decide +kernel
theorem dX5_thing_17 : decode cX5_thing 17 = .ok (.dup, 1) := by decide +kernel
theorem dX5_thing_18 : decode cX5_thing 18 = .ok (.ldc 85, 2) := by decide +kernel
theorem dX5_thing_20 : decode cX5_thing 20 = .ok (.invokespecial 87, 3) := by decide +kernel
theorem dX5_thing_23 : decode cX5_thing 23 = .ok (.athrow, 1) := by decide +kernel
theorem dX5_thing_24 : decode cX5_thing 24 = .ok (.iload_n 1, 1) := by decide +kernel
theorem dX5_thing_25 : decode cX5_thing 25 = .ok (.sipush 1000, 3) := by decide +kernel
theorem dX5_thing_28 : decode cX5_thing 28 = .ok (.idiv, 1) := by decide +kernel
theorem dX5_thing_29 : decode cX5_thing 29 = .ok (.istore_n 3, 1) := by decide +kernel
theorem dX5_thing_30 : decode cX5_thing 30 = .ok (.iload_n 2, 1) := by decide +kernel
theorem dX5_thing_31 : decode cX5_thing 31 = .ok (.tableswitch 119 0 5 #[37, 49, 61, 73, 85, 97], 37) := by decide +kernel
theorem dX5_thing_68 : decode cX5_thing 68 = .ok (.aload_n 0, 1) := by decide +kernel
theorem dX5_thing_69 : decode cX5_thing 69 = .ok (.getfield 10, 3) := by decide +kernel
theorem dX5_thing_72 : decode cX5_thing 72 = .ok (.getfield 44, 3) := by decide +kernel
theorem dX5_thing_75 : decode cX5_thing 75 = .ok (.iload_n 3, 1) := by decide +kernel
theorem dX5_thing_76 : decode cX5_thing 76 = .ok (.invokevirtual 91, 3) := by decide +kernel
theorem dX5_thing_79 : decode cX5_thing 79 = .ok (.ireturn, 1) := by decide +kernel
theorem dX5_thing_80 : decode cX5_thing 80 = .ok (.aload_n 0, 1) := by decide +kernel
theorem dX5_thing_81 : decode cX5_thing 81 = .ok (.getfield 10, 3) := by decide +kernel
theorem dX5_thing_84 : decode cX5_thing 84 = .ok (.getfield 44, 3) := by decide +kernel
theorem dX5_thing_87 : decode cX5_thing 87 = .ok (.iload_n 3, 1) := by decide +kernel
theorem dX5_thing_88 : decode cX5_thing 88 = .ok (.invokevirtual 165, 3) := by decide +kernel
theorem dX5_thing_91 : decode cX5_thing 91 = .ok (.ireturn, 1) := by decide +kernel
theorem dX5_thing_92 : decode cX5_thing 92 = .ok (.aload_n 0, 1) := by decide +kernel
theorem dX5_thing_93 : decode cX5_thing 93 = .ok (.getfield 10, 3) := by decide +kernel
theorem dX5_thing_96 : decode cX5_thing 96 = .ok (.getfield 44, 3) := by decide +kernel
theorem dX5_thing_99 : decode cX5_thing 99 = .ok (.iload_n 3, 1) := by decide +kernel
theorem dX5_thing_100 : decode cX5_thing 100 = .ok (.invokevirtual 168, 3) := by decide +kernel
theorem dX5_thing_103 : decode cX5_thing 103 = .ok (.ireturn, 1) := by decide +kernel
theorem dX5_thing_104 : decode cX5_thing 104 = .ok (.aload_n 0, 1) := by decide +kernel
theorem dX5_thing_105 : decode cX5_thing 105 = .ok (.getfield 10, 3) := by decide +kernel
theorem dX5_thing_108 : decode cX5_thing 108 = .ok (.getfield 44, 3) := by decide +kernel
theorem dX5_thing_111 : decode cX5_thing 111 = .ok (.iload_n 3, 1) := by decide +kernel
theorem dX5_thing_112 : decode cX5_thing 112 = .ok (.invokevirtual 171, 3) := by decide +kernel
theorem dX5_thing_115 : decode cX5_thing 115 = .ok (.ireturn, 1) := by decide +kernel
theorem dX5_thing_116 : decode cX5_thing 116 = .ok (.aload_n 0, 1) := by decide +kernel
theorem dX5_thing_117 : decode cX5_thing 117 = .ok (.getfield 10, 3) := by decide +kernel
theorem dX5_thing_120 : decode cX5_thing 120 = .ok (.getfield 63, 3) := by decide +kernel
theorem dX5_thing_123 : decode cX5_thing 123 = .ok (.iload_n 3, 1) := by decide +kernel
theorem dX5_thing_124 : decode cX5_thing 124 = .ok (.invokevirtual 174, 3) := by decide +kernel
theorem dX5_thing_127 : decode cX5_thing 127 = .ok (.ireturn, 1) := by decide +kernel
theorem dX5_thing_128 : decode cX5_thing 128 = .ok (.aload_n 0, 1) := by decide +kernel
theorem dX5_thing_129 : decode cX5_thing 129 = .ok (.getfield 10, 3) := by decide +kernel
theorem dX5_thing_132 : decode cX5_thing 132 = .ok (.getfield 63, 3) := by decide +kernel
theorem dX5_thing_135 : decode cX5_thing 135 = .ok (.aload_n 0, 1) := by decide +kernel
theorem dX5_thing_136 : decode cX5_thing 136 = .ok (.getfield 10, 3) := by decide +kernel
theorem dX5_thing_139 : decode cX5_thing 139 = .ok (.getfield 63, 3) := by decide +kernel
theorem dX5_thing_142 : decode cX5_thing 142 = .ok (.iload_n 3, 1) := by decide +kernel
theorem dX5_thing_143 : decode cX5_thing 143 = .ok (.invokevirtual 88, 3) := by decide +kernel
theorem dX5_thing_146 : decode cX5_thing 146 = .ok (.invokevirtual 177, 3) := by decide +kernel
theorem dX5_thing_149 : decode cX5_thing 149 = .ok (.ireturn, 1) := by decide +kernel
theorem dX5_thing_150 : decode cX5_thing 150 = .ok (.new 37, 3) := by decide +kernel
theorem dX5_thing_153 : decode cX5_thing 153 = .ok (.dup, 1) := by decide +kernel
theorem dX5_thing_154 : decode cX5_thing 154 = .ok (.ldc 180, 2) := by decide +kernel
theorem dX5_thing_156 : decode cX5_thing 156 = .ok (.invokespecial 41, 3) := by decide +kernel
theorem dX5_thing_159 : decode cX5_thing 159 = .ok (.athrow, 1) := by decide +kernel
theorem dX5_at_0 : decode cX5_at 0 = .ok (.iload_n 1, 1) := by decide +kernel
theorem dX5_at_1 : decode cX5_at 1 = .ok (.ifCond .ge 13, 3) := by decide +kernel
theorem dX5_at_4 : decode cX5_at 4 = .ok (.new 37, 3) := by decide +kernel
theorem dX5_at_7 : decode cX5_at 7 = .ok (.dup, 1) := by decide +kernel
theorem dX5_at_8 : decode cX5_at 8 = .ok (.ldc 182, 2) := by decide +kernel
theorem dX5_at_10 : decode cX5_at 10 = .ok (.invokespecial 41, 3) := by decide +kernel
theorem dX5_at_13 : decode cX5_at 13 = .ok (.athrow, 1) := by decide +kernel
theorem dX5_at_14 : decode cX5_at 14 = .ok (.aload_n 0, 1) := by decide +kernel
theorem dX5_at_15 : decode cX5_at 15 = .ok (.getfield 10, 3) := by decide +kernel
theorem dX5_at_18 : decode cX5_at 18 = .ok (.getfield 44, 3) := by decide +kernel
theorem dX5_at_21 : decode cX5_at 21 = .ok (.aload_n 0, 1) := by decide +kernel
theorem dX5_at_22 : decode cX5_at 22 = .ok (.getfield 10, 3) := by decide +kernel
theorem dX5_at_25 : decode cX5_at 25 = .ok (.getfield 63, 3) := by decide +kernel
theorem dX5_at_28 : decode cX5_at 28 = .ok (.iload_n 1, 1) := by decide +kernel
theorem dX5_at_29 : decode cX5_at 29 = .ok (.invokevirtual 184, 3) := by decide +kernel
theorem dX5_at_32 : decode cX5_at 32 = .ok (.invokevirtual 77, 3) := by decide +kernel
theorem dX5_at_35 : decode cX5_at 35 = .ok (.ireturn, 1) := by decide +kernel
theorem dX5_cell_0 : decode cX5_cell 0 = .ok (.aload_n 0, 1) := by decide +kernel
theorem dX5_cell_1 : decode cX5_cell 1 = .ok (.getfield 10, 3) := by decide +kernel
theorem dX5_cell_4 : decode cX5_cell 4 = .ok (.getfield 44, 3) := by decide +kernel
theorem dX5_cell_7 : decode cX5_cell 7 = .ok (.iload_n 1, 1) := by decide +kernel
theorem dX5_cell_8 : decode cX5_cell 8 = .ok (.invokevirtual 187, 3) := by decide +kernel
theorem dX5_cell_11 : decode cX5_cell 11 = .ok (.ifCond .ne 13, 3) := by decide +kernel
theorem dX5_cell_14 : decode cX5_cell 14 = .ok (.new 83, 3) := by decide +kernel
theorem dX5_cell_17 : decode cX5_cell 17 = .ok (.dup, 1) := by decide +kernel
theorem dX5_cell_18 : decode cX5_cell 18 = .ok (.ldc 190, 2) := by decide +kernel
theorem dX5_cell_20 : decode cX5_cell 20 = .ok (.invokespecial 87, 3) := by decide +kernel
theorem dX5_cell_23 : decode cX5_cell 23 = .ok (.athrow, 1) := by decide +kernel
theorem dX5_cell_24 : decode cX5_cell 24 = .ok (.iload_n 2, 1) := by decide +kernel
theorem dX5_cell_25 : decode cX5_cell 25 = .ok (.lookupswitch 61 #[(0, 27), (1, 39)], 27) := by decide +kernel
theorem dX5_cell_52 : decode cX5_cell 52 = .ok (.aload_n 0, 1) := by decide +kernel
theorem dX5_cell_53 : decode cX5_cell 53 = .ok (.getfield 10, 3) := by decide +kernel
theorem dX5_cell_56 : decode cX5_cell 56 = .ok (.getfield 44, 3) := by decide +kernel
theorem dX5_cell_59 : decode cX5_cell 59 = .ok (.iload_n 1, 1) := by decide +kernel
theorem dX5_cell_60 : decode cX5_cell 60 = .ok (.invokevirtual 192, 3) := by decide +kernel
theorem dX5_cell_63 : decode cX5_cell 63 = .ok (.ireturn, 1) := by decide +kernel
theorem dX5_cell_64 : decode cX5_cell 64 = .ok (.aload_n 0, 1) := by decide +kernel
theorem dX5_cell_65 : decode cX5_cell 65 = .ok (.getfield 10, 3) := by decide +kernel
theorem dX5_cell_68 : decode cX5_cell 68 = .ok (.getfield 44, 3) := by decide +kernel
theorem dX5_cell_71 : decode cX5_cell 71 = .ok (.aload_n 0, 1) := by decide +kernel
theorem dX5_cell_72 : decode cX5_cell 72 = .ok (.getfield 10, 3) := by decide +kernel
theorem dX5_cell_75 : decode cX5_cell 75 = .ok (.getfield 44, 3) := by decide +kernel
theorem dX5_cell_78 : decode cX5_cell 78 = .ok (.iload_n 1, 1) := by decide +kernel
theorem dX5_cell_79 : decode cX5_cell 79 = .ok (.invokevirtual 195, 3) := by decide +kernel
theorem dX5_cell_82 : decode cX5_cell 82 = .ok (.invokevirtual 77, 3) := by decide +kernel
theorem dX5_cell_85 : decode cX5_cell 85 = .ok (.ireturn, 1) := by decide +kernel
theorem dX5_cell_86 : decode cX5_cell 86 = .ok (.new 37, 3) := by decide +kernel
theorem dX5_cell_89 : decode cX5_cell 89 = .ok (.dup, 1) := by decide +kernel
theorem dX5_cell_90 : decode cX5_cell 90 = .ok (.ldc 198, 2) := by decide +kernel
theorem dX5_cell_92 : decode cX5_cell 92 = .ok (.invokespecial 41, 3) := by decide +kernel
theorem dX5_cell_95 : decode cX5_cell 95 = .ok (.athrow, 1) := by decide +kernel
theorem dX5_walker_0 : decode cX5_walker 0 = .ok (.iload_n 1, 1) := by decide +kernel
theorem dX5_walker_1 : decode cX5_walker 1 = .ok (.invokestatic 108, 3) := by decide +kernel
theorem dX5_walker_4 : decode cX5_walker 4 = .ok (.ifCond .ne 13, 3) := by decide +kernel
theorem dX5_walker_7 : decode cX5_walker 7 = .ok (.new 83, 3) := by decide +kernel
theorem dX5_walker_10 : decode cX5_walker 10 = .ok (.dup, 1) := by decide +kernel
theorem dX5_walker_11 : decode cX5_walker 11 = .ok (.ldc 111, 2) := by decide +kernel
theorem dX5_walker_13 : decode cX5_walker 13 = .ok (.invokespecial 87, 3) := by decide +kernel
theorem dX5_walker_16 : decode cX5_walker 16 = .ok (.athrow, 1) := by decide +kernel
theorem dX5_walker_17 : decode cX5_walker 17 = .ok (.iload_n 2, 1) := by decide +kernel
theorem dX5_walker_18 : decode cX5_walker 18 = .ok (.tableswitch 72 0 2 #[26, 38, 60], 26) := by decide +kernel
theorem dX5_walker_44 : decode cX5_walker 44 = .ok (.aload_n 0, 1) := by decide +kernel
theorem dX5_walker_45 : decode cX5_walker 45 = .ok (.getfield 10, 3) := by decide +kernel
theorem dX5_walker_48 : decode cX5_walker 48 = .ok (.getfield 63, 3) := by decide +kernel
theorem dX5_walker_51 : decode cX5_walker 51 = .ok (.iload_n 1, 1) := by decide +kernel
theorem dX5_walker_52 : decode cX5_walker 52 = .ok (.invokevirtual 113, 3) := by decide +kernel
theorem dX5_walker_55 : decode cX5_walker 55 = .ok (.ireturn, 1) := by decide +kernel
theorem dX5_walker_56 : decode cX5_walker 56 = .ok (.aload_n 0, 1) := by decide +kernel
theorem dX5_walker_57 : decode cX5_walker 57 = .ok (.getfield 10, 3) := by decide +kernel
theorem dX5_walker_60 : decode cX5_walker 60 = .ok (.getfield 44, 3) := by decide +kernel
theorem dX5_walker_63 : decode cX5_walker 63 = .ok (.aload_n 0, 1) := by decide +kernel
theorem dX5_walker_64 : decode cX5_walker 64 = .ok (.getfield 10, 3) := by decide +kernel
theorem dX5_walker_67 : decode cX5_walker 67 = .ok (.getfield 63, 3) := by decide +kernel
theorem dX5_walker_70 : decode cX5_walker 70 = .ok (.iload_n 1, 1) := by decide +kernel
theorem dX5_walker_71 : decode cX5_walker 71 = .ok (.invokevirtual 122, 3) := by decide +kernel
theorem dX5_walker_74 : decode cX5_walker 74 = .ok (.invokevirtual 77, 3) := by decide +kernel
theorem dX5_walker_77 : decode cX5_walker 77 = .ok (.ireturn, 1) := by decide +kernel
theorem dX5_walker_78 : decode cX5_walker 78 = .ok (.aload_n 0, 1) := by decide +kernel
theorem dX5_walker_79 : decode cX5_walker 79 = .ok (.getfield 10, 3) := by decide +kernel
theorem dX5_walker_82 : decode cX5_walker 82 = .ok (.getfield 63, 3) := by decide +kernel
theorem dX5_walker_85 : decode cX5_walker 85 = .ok (.iload_n 1, 1) := by decide +kernel
theorem dX5_walker_86 : decode cX5_walker 86 = .ok (.invokevirtual 200, 3) := by decide +kernel
theorem dX5_walker_89 : decode cX5_walker 89 = .ok (.ireturn, 1) := by decide +kernel
theorem dX5_walker_90 : decode cX5_walker 90 = .ok (.new 37, 3) := by decide +kernel
theorem dX5_walker_93 : decode cX5_walker 93 = .ok (.dup, 1) := by decide +kernel
theorem dX5_walker_94 : decode cX5_walker 94 = .ok (.ldc 203, 2) := by decide +kernel
theorem dX5_walker_96 : decode cX5_walker 96 = .ok (.invokespecial 41, 3) := by decide +kernel
theorem dX5_walker_99 : decode cX5_walker 99 = .ok (.athrow, 1) := by decide +kernel
theorem dX5_count_0 : decode cX5_count 0 = .ok (.iload_n 1, 1) := by decide +kernel
theorem dX5_count_1 : decode cX5_count 1 = .ok (.tableswitch 150 0 9 #[55, 66, 77, 88, 99, 110, 118, 126, 134, 142], 55) := by decide +kernel
theorem dX5_count_56 : decode cX5_count 56 = .ok (.aload_n 0, 1) := by decide +kernel
theorem dX5_count_57 : decode cX5_count 57 = .ok (.getfield 10, 3) := by decide +kernel
theorem dX5_count_60 : decode cX5_count 60 = .ok (.getfield 63, 3) := by decide +kernel
theorem dX5_count_63 : decode cX5_count 63 = .ok (.invokevirtual 205, 3) := by decide +kernel
theorem dX5_count_66 : decode cX5_count 66 = .ok (.ireturn, 1) := by decide +kernel
theorem dX5_count_67 : decode cX5_count 67 = .ok (.aload_n 0, 1) := by decide +kernel
theorem dX5_count_68 : decode cX5_count 68 = .ok (.getfield 10, 3) := by decide +kernel
theorem dX5_count_71 : decode cX5_count 71 = .ok (.getfield 63, 3) := by decide +kernel
theorem dX5_count_74 : decode cX5_count 74 = .ok (.invokevirtual 208, 3) := by decide +kernel
theorem dX5_count_77 : decode cX5_count 77 = .ok (.ireturn, 1) := by decide +kernel
theorem dX5_count_78 : decode cX5_count 78 = .ok (.aload_n 0, 1) := by decide +kernel
theorem dX5_count_79 : decode cX5_count 79 = .ok (.getfield 10, 3) := by decide +kernel
theorem dX5_count_82 : decode cX5_count 82 = .ok (.getfield 44, 3) := by decide +kernel
theorem dX5_count_85 : decode cX5_count 85 = .ok (.invokevirtual 211, 3) := by decide +kernel
theorem dX5_count_88 : decode cX5_count 88 = .ok (.ireturn, 1) := by decide +kernel
theorem dX5_count_89 : decode cX5_count 89 = .ok (.aload_n 0, 1) := by decide +kernel
theorem dX5_count_90 : decode cX5_count 90 = .ok (.getfield 10, 3) := by decide +kernel
theorem dX5_count_93 : decode cX5_count 93 = .ok (.getfield 44, 3) := by decide +kernel
theorem dX5_count_96 : decode cX5_count 96 = .ok (.invokevirtual 214, 3) := by decide +kernel
theorem dX5_count_99 : decode cX5_count 99 = .ok (.ireturn, 1) := by decide +kernel
theorem dX5_count_100 : decode cX5_count 100 = .ok (.aload_n 0, 1) := by decide +kernel
theorem dX5_count_101 : decode cX5_count 101 = .ok (.getfield 10, 3) := by decide +kernel
theorem dX5_count_104 : decode cX5_count 104 = .ok (.getfield 44, 3) := by decide +kernel
theorem dX5_count_107 : decode cX5_count 107 = .ok (.invokevirtual 217, 3) := by decide +kernel
theorem dX5_count_110 : decode cX5_count 110 = .ok (.ireturn, 1) := by decide +kernel
theorem dX5_count_111 : decode cX5_count 111 = .ok (.aload_n 0, 1) := by decide +kernel
theorem dX5_count_112 : decode cX5_count 112 = .ok (.getfield 10, 3) := by decide +kernel
theorem dX5_count_115 : decode cX5_count 115 = .ok (.getfield 220, 3) := by decide +kernel
theorem dX5_count_118 : decode cX5_count 118 = .ok (.ireturn, 1) := by decide +kernel
theorem dX5_count_119 : decode cX5_count 119 = .ok (.aload_n 0, 1) := by decide +kernel
theorem dX5_count_120 : decode cX5_count 120 = .ok (.getfield 10, 3) := by decide +kernel
theorem dX5_count_123 : decode cX5_count 123 = .ok (.getfield 224, 3) := by decide +kernel
theorem dX5_count_126 : decode cX5_count 126 = .ok (.ireturn, 1) := by decide +kernel
theorem dX5_count_127 : decode cX5_count 127 = .ok (.aload_n 0, 1) := by decide +kernel
theorem dX5_count_128 : decode cX5_count 128 = .ok (.getfield 10, 3) := by decide +kernel
theorem dX5_count_131 : decode cX5_count 131 = .ok (.getfield 227, 3) := by decide +kernel
theorem dX5_count_134 : decode cX5_count 134 = .ok (.ireturn, 1) := by decide +kernel
theorem dX5_count_135 : decode cX5_count 135 = .ok (.aload_n 0, 1) := by decide +kernel
theorem dX5_count_136 : decode cX5_count 136 = .ok (.getfield 10, 3) := by decide +kernel
theorem dX5_count_139 : decode cX5_count 139 = .ok (.getfield 230, 3) := by decide +kernel
theorem dX5_count_142 : decode cX5_count 142 = .ok (.ireturn, 1) := by decide +kernel
theorem dX5_count_143 : decode cX5_count 143 = .ok (.aload_n 0, 1) := by decide +kernel
theorem dX5_count_144 : decode cX5_count 144 = .ok (.getfield 22, 3) := by decide +kernel
theorem dX5_count_147 : decode cX5_count 147 = .ok (.invokevirtual 159, 3) := by decide +kernel
theorem dX5_count_150 : decode cX5_count 150 = .ok (.ireturn, 1) := by decide +kernel
theorem dX5_count_151 : decode cX5_count 151 = .ok (.new 37, 3) := by decide +kernel
theorem dX5_count_154 : decode cX5_count 154 = .ok (.dup, 1) := by decide +kernel
theorem dX5_count_155 : decode cX5_count 155 = .ok (.ldc 233, 2) := by decide +kernel
theorem dX5_count_157 : decode cX5_count 157 = .ok (.invokespecial 41, 3) := by decide +kernel
theorem dX5_count_160 : decode cX5_count 160 = .ok (.athrow, 1) := by decide +kernel
theorem dX5_begins_0 : decode cX5_begins 0 = .ok (.iload_n 1, 1) := by decide +kernel
theorem dX5_begins_1 : decode cX5_begins 1 = .ok (.invokestatic 235, 3) := by decide +kernel
theorem dX5_begins_4 : decode cX5_begins 4 = .ok (.ifCond .ne 13, 3) := by decide +kernel
theorem dX5_begins_7 : decode cX5_begins 7 = .ok (.new 37, 3) := by decide +kernel
theorem dX5_begins_10 : decode cX5_begins 10 = .ok (.dup, 1) := by decide +kernel
theorem dX5_begins_11 : decode cX5_begins 11 = .ok (.ldc 238, 2) := by decide +kernel
theorem dX5_begins_13 : decode cX5_begins 13 = .ok (.invokespecial 41, 3) := by decide +kernel
theorem dX5_begins_16 : decode cX5_begins 16 = .ok (.athrow, 1) := by decide +kernel
theorem dX5_begins_17 : decode cX5_begins 17 = .ok (.aload_n 0, 1) := by decide +kernel
theorem dX5_begins_18 : decode cX5_begins 18 = .ok (.getfield 10, 3) := by decide +kernel
theorem dX5_begins_21 : decode cX5_begins 21 = .ok (.getfield 44, 3) := by decide +kernel
theorem dX5_begins_24 : decode cX5_begins 24 = .ok (.iload_n 1, 1) := by decide +kernel
theorem dX5_begins_25 : decode cX5_begins 25 = .ok (.invokevirtual 48, 3) := by decide +kernel
theorem dX5_begins_28 : decode cX5_begins 28 = .ok (.ireturn, 1) := by decide +kernel
theorem dX5_gap_0 : decode cX5_gap 0 = .ok (.iload_n 1, 1) := by decide +kernel
theorem dX5_gap_1 : decode cX5_gap 1 = .ok (.lookupswitch 49 #[(0, 27), (1, 38)], 27) := by decide +kernel
theorem dX5_gap_28 : decode cX5_gap 28 = .ok (.aload_n 0, 1) := by decide +kernel
theorem dX5_gap_29 : decode cX5_gap 29 = .ok (.getfield 10, 3) := by decide +kernel
theorem dX5_gap_32 : decode cX5_gap 32 = .ok (.getfield 44, 3) := by decide +kernel
theorem dX5_gap_35 : decode cX5_gap 35 = .ok (.invokevirtual 240, 3) := by decide +kernel
theorem dX5_gap_38 : decode cX5_gap 38 = .ok (.ireturn, 1) := by decide +kernel
theorem dX5_gap_39 : decode cX5_gap 39 = .ok (.aload_n 0, 1) := by decide +kernel
theorem dX5_gap_40 : decode cX5_gap 40 = .ok (.getfield 10, 3) := by decide +kernel
theorem dX5_gap_43 : decode cX5_gap 43 = .ok (.getfield 44, 3) := by decide +kernel
theorem dX5_gap_46 : decode cX5_gap 46 = .ok (.invokevirtual 243, 3) := by decide +kernel
theorem dX5_gap_49 : decode cX5_gap 49 = .ok (.ireturn, 1) := by decide +kernel
theorem dX5_gap_50 : decode cX5_gap 50 = .ok (.new 37, 3) := by decide +kernel
theorem dX5_gap_53 : decode cX5_gap 53 = .ok (.dup, 1) := by decide +kernel
theorem dX5_gap_54 : decode cX5_gap 54 = .ok (.ldc 198, 2) := by decide +kernel
theorem dX5_gap_56 : decode cX5_gap 56 = .ok (.invokespecial 41, 3) := by decide +kernel
theorem dX5_gap_59 : decode cX5_gap 59 = .ok (.athrow, 1) := by decide +kernel
theorem dX5_ifFired_0 : decode cX5_ifFired 0 = .ok (.iload_n 1, 1) := by decide +kernel
theorem dX5_ifFired_1 : decode cX5_ifFired 1 = .ok (.iconst 1, 1) := by decide +kernel
theorem dX5_ifFired_2 : decode cX5_ifFired 2 = .ok (.if_icmp .lt 18, 3) := by decide +kernel
theorem dX5_ifFired_5 : decode cX5_ifFired 5 = .ok (.iload_n 1, 1) := by decide +kernel
theorem dX5_ifFired_6 : decode cX5_ifFired 6 = .ok (.bipush 9, 2) := by decide +kernel
theorem dX5_ifFired_8 : decode cX5_ifFired 8 = .ok (.if_icmp .gt 12, 3) := by decide +kernel
theorem dX5_ifFired_11 : decode cX5_ifFired 11 = .ok (.iload_n 2, 1) := by decide +kernel
theorem dX5_ifFired_12 : decode cX5_ifFired 12 = .ok (.ifCond .lt 8, 3) := by decide +kernel
theorem dX5_ifFired_15 : decode cX5_ifFired 15 = .ok (.iload_n 2, 1) := by decide +kernel
theorem dX5_ifFired_16 : decode cX5_ifFired 16 = .ok (.iconst 2, 1) := by decide +kernel
theorem dX5_ifFired_17 : decode cX5_ifFired 17 = .ok (.if_icmp .le 13, 3) := by decide +kernel
theorem dX5_ifFired_20 : decode cX5_ifFired 20 = .ok (.new 37, 3) := by decide +kernel
theorem dX5_ifFired_23 : decode cX5_ifFired 23 = .ok (.dup, 1) := by decide +kernel
theorem dX5_ifFired_24 : decode cX5_ifFired 24 = .ok (.ldc 246, 2) := by decide +kernel
theorem dX5_ifFired_26 : decode cX5_ifFired 26 = .ok (.invokespecial 41, 3) := by decide +kernel
theorem dX5_ifFired_29 : decode cX5_ifFired 29 = .ok (.athrow, 1) := by decide +kernel
theorem dX5_ifFired_30 : decode cX5_ifFired 30 = .ok (.aload_n 0, 1) := by decide +kernel
theorem dX5_ifFired_31 : decode cX5_ifFired 31 = .ok (.iload_n 1, 1) := by decide +kernel
theorem dX5_ifFired_32 : decode cX5_ifFired 32 = .ok (.invokevirtual 248, 3) := by decide +kernel
theorem dX5_ifFired_35 : decode cX5_ifFired 35 = .ok (.istore_n 3, 1) := by decide +kernel
theorem dX5_ifFired_36 : decode cX5_ifFired 36 = .ok (.iload_n 2, 1) := by decide +kernel
theorem dX5_ifFired_37 : decode cX5_ifFired 37 = .ok (.ifCond .ne 5, 3) := by decide +kernel
theorem dX5_ifFired_40 : decode cX5_ifFired 40 = .ok (.iload_n 3, 1) := by decide +kernel
theorem dX5_ifFired_41 : decode cX5_ifFired 41 = .ok (.ireturn, 1) := by decide +kernel
theorem dX5_ifFired_42 : decode cX5_ifFired 42 = .ok (.iload_n 2, 1) := by decide +kernel
theorem dX5_ifFired_43 : decode cX5_ifFired 43 = .ok (.iconst 1, 1) := by decide +kernel
theorem dX5_ifFired_44 : decode cX5_ifFired 44 = .ok (.if_icmp .ne 16, 3) := by decide +kernel
theorem dX5_ifFired_47 : decode cX5_ifFired 47 = .ok (.aload_n 0, 1) := by decide +kernel
theorem dX5_ifFired_48 : decode cX5_ifFired 48 = .ok (.getfield 16, 3) := by decide +kernel
theorem dX5_ifFired_51 : decode cX5_ifFired 51 = .ok (.getfield 63, 3) := by decide +kernel
theorem dX5_ifFired_54 : decode cX5_ifFired 54 = .ok (.invokevirtual 205, 3) := by decide +kernel
theorem dX5_ifFired_57 : decode cX5_ifFired 57 = .ok (.goto 13, 3) := by decide +kernel
theorem dX5_ifFired_60 : decode cX5_ifFired 60 = .ok (.aload_n 0, 1) := by decide +kernel
theorem dX5_ifFired_61 : decode cX5_ifFired 61 = .ok (.getfield 16, 3) := by decide +kernel
theorem dX5_ifFired_64 : decode cX5_ifFired 64 = .ok (.getfield 44, 3) := by decide +kernel
theorem dX5_ifFired_67 : decode cX5_ifFired 67 = .ok (.invokevirtual 211, 3) := by decide +kernel
theorem dX5_ifFired_70 : decode cX5_ifFired 70 = .ok (.ireturn, 1) := by decide +kernel
theorem dX5_room_0 : decode cX5_room 0 = .ok (.iload_n 1, 1) := by decide +kernel
theorem dX5_room_1 : decode cX5_room 1 = .ok (.invokestatic 235, 3) := by decide +kernel
theorem dX5_room_4 : decode cX5_room 4 = .ok (.ifCond .ne 13, 3) := by decide +kernel
theorem dX5_room_7 : decode cX5_room 7 = .ok (.new 37, 3) := by decide +kernel
theorem dX5_room_10 : decode cX5_room 10 = .ok (.dup, 1) := by decide +kernel
theorem dX5_room_11 : decode cX5_room 11 = .ok (.ldc 238, 2) := by decide +kernel
theorem dX5_room_13 : decode cX5_room 13 = .ok (.invokespecial 41, 3) := by decide +kernel
theorem dX5_room_16 : decode cX5_room 16 = .ok (.athrow, 1) := by decide +kernel
theorem dX5_room_17 : decode cX5_room 17 = .ok (.iload_n 2, 1) := by decide +kernel
theorem dX5_room_18 : decode cX5_room 18 = .ok (.ifCond .eq 18, 3) := by decide +kernel
theorem dX5_room_21 : decode cX5_room 21 = .ok (.aload_n 0, 1) := by decide +kernel
theorem dX5_room_22 : decode cX5_room 22 = .ok (.getfield 10, 3) := by decide +kernel
theorem dX5_room_25 : decode cX5_room 25 = .ok (.getfield 44, 3) := by decide +kernel
theorem dX5_room_28 : decode cX5_room 28 = .ok (.invokevirtual 214, 3) := by decide +kernel
theorem dX5_room_31 : decode cX5_room 31 = .ok (.iload_n 1, 1) := by decide +kernel
theorem dX5_room_32 : decode cX5_room 32 = .ok (.idiv, 1) := by decide +kernel
theorem dX5_room_33 : decode cX5_room 33 = .ok (.goto 14, 3) := by decide +kernel
theorem dX5_room_36 : decode cX5_room 36 = .ok (.aload_n 0, 1) := by decide +kernel
theorem dX5_room_37 : decode cX5_room 37 = .ok (.getfield 10, 3) := by decide +kernel
theorem dX5_room_40 : decode cX5_room 40 = .ok (.getfield 44, 3) := by decide +kernel
theorem dX5_room_43 : decode cX5_room 43 = .ok (.iload_n 1, 1) := by decide +kernel
theorem dX5_room_44 : decode cX5_room 44 = .ok (.invokevirtual 251, 3) := by decide +kernel
theorem dX5_room_47 : decode cX5_room 47 = .ok (.ireturn, 1) := by decide +kernel
theorem dX5_fullness_0 : decode cX5_fullness 0 = .ok (.aload_n 0, 1) := by decide +kernel
theorem dX5_fullness_1 : decode cX5_fullness 1 = .ok (.getfield 10, 3) := by decide +kernel
theorem dX5_fullness_4 : decode cX5_fullness 4 = .ok (.getfield 44, 3) := by decide +kernel
theorem dX5_fullness_7 : decode cX5_fullness 7 = .ok (.invokevirtual 211, 3) := by decide +kernel
theorem dX5_fullness_10 : decode cX5_fullness 10 = .ok (.istore_n 1, 1) := by decide +kernel
theorem dX5_fullness_11 : decode cX5_fullness 11 = .ok (.iload_n 1, 1) := by decide +kernel
theorem dX5_fullness_12 : decode cX5_fullness 12 = .ok (.ifCond .gt 5, 3) := by decide +kernel
theorem dX5_fullness_15 : decode cX5_fullness 15 = .ok (.dconst 0, 1) := by decide +kernel
theorem dX5_fullness_16 : decode cX5_fullness 16 = .ok (.dreturn, 1) := by decide +kernel
theorem dX5_fullness_17 : decode cX5_fullness 17 = .ok (.iload_n 1, 1) := by decide +kernel
theorem dX5_fullness_18 : decode cX5_fullness 18 = .ok (.aload_n 0, 1) := by decide +kernel
theorem dX5_fullness_19 : decode cX5_fullness 19 = .ok (.getfield 10, 3) := by decide +kernel
theorem dX5_fullness_22 : decode cX5_fullness 22 = .ok (.getfield 44, 3) := by decide +kernel
theorem dX5_fullness_25 : decode cX5_fullness 25 = .ok (.invokevirtual 214, 3) := by decide +kernel
theorem dX5_fullness_28 : decode cX5_fullness 28 = .ok (.isub, 1) := by decide +kernel
theorem dX5_fullness_29 : decode cX5_fullness 29 = .ok (.i2d, 1) := by decide +kernel
theorem dX5_fullness_30 : decode cX5_fullness 30 = .ok (.iload_n 1, 1) := by decide +kernel
theorem dX5_fullness_31 : decode cX5_fullness 31 = .ok (.i2d, 1) := by decide +kernel
theorem dX5_fullness_32 : decode cX5_fullness 32 = .ok (.ddiv, 1) := by decide +kernel
theorem dX5_fullness_33 : decode cX5_fullness 33 = .ok (.dreturn, 1) := by decide +kernel
theorem dX5_digest_0 : decode cX5_digest 0 = .ok (.ldc2_w 254, 3) := by decide +kernel
theorem dX5_digest_3 : decode cX5_digest 3 = .ok (.lstore_n 1, 1) := by decide +kernel
theorem dX5_digest_4 : decode cX5_digest 4 = .ok (.iconst 0, 1) := by decide +kernel
theorem dX5_digest_5 : decode cX5_digest 5 = .ok (.istore_n 3, 1) := by decide +kernel
theorem dX5_digest_6 : decode cX5_digest 6 = .ok (.iload_n 3, 1) := by decide +kernel
theorem dX5_digest_7 : decode cX5_digest 7 = .ok (.bipush 9, 2) := by decide +kernel
theorem dX5_digest_9 : decode cX5_digest 9 = .ok (.if_icmp .gt 22, 3) := by decide +kernel
theorem dX5_digest_12 : decode cX5_digest 12 = .ok (.ldc2_w 256, 3) := by decide +kernel
theorem dX5_digest_15 : decode cX5_digest 15 = .ok (.lload_n 1, 1) := by decide +kernel
theorem dX5_digest_16 : decode cX5_digest 16 = .ok (.lmul, 1) := by decide +kernel
theorem dX5_digest_17 : decode cX5_digest 17 = .ok (.aload_n 0, 1) := by decide +kernel
theorem dX5_digest_18 : decode cX5_digest 18 = .ok (.iload_n 3, 1) := by decide +kernel
theorem dX5_digest_19 : decode cX5_digest 19 = .ok (.invokevirtual 258, 3) := by decide +kernel
theorem dX5_digest_22 : decode cX5_digest 22 = .ok (.i2l, 1) := by decide +kernel
theorem dX5_digest_23 : decode cX5_digest 23 = .ok (.ladd, 1) := by decide +kernel
theorem dX5_digest_24 : decode cX5_digest 24 = .ok (.lstore_n 1, 1) := by decide +kernel
theorem dX5_digest_25 : decode cX5_digest 25 = .ok (.iinc 3 1, 3) := by decide +kernel
theorem dX5_digest_28 : decode cX5_digest 28 = .ok (.goto (-22), 3) := by decide +kernel
theorem dX5_digest_31 : decode cX5_digest 31 = .ok (.aload_n 0, 1) := by decide +kernel
theorem dX5_digest_32 : decode cX5_digest 32 = .ok (.lload_n 1, 1) := by decide +kernel
theorem dX5_digest_33 : decode cX5_digest 33 = .ok (.invokevirtual 261, 3) := by decide +kernel
theorem dX5_digest_36 : decode cX5_digest 36 = .ok (.lstore_n 1, 1) := by decide +kernel
theorem dX5_digest_37 : decode cX5_digest 37 = .ok (.aload_n 0, 1) := by decide +kernel
theorem dX5_digest_38 : decode cX5_digest 38 = .ok (.lload_n 1, 1) := by decide +kernel
theorem dX5_digest_39 : decode cX5_digest 39 = .ok (.invokevirtual 265, 3) := by decide +kernel
theorem dX5_digest_42 : decode cX5_digest 42 = .ok (.lstore_n 1, 1) := by decide +kernel
theorem dX5_digest_43 : decode cX5_digest 43 = .ok (.aload_n 0, 1) := by decide +kernel
theorem dX5_digest_44 : decode cX5_digest 44 = .ok (.lload_n 1, 1) := by decide +kernel
theorem dX5_digest_45 : decode cX5_digest 45 = .ok (.invokevirtual 268, 3) := by decide +kernel
theorem dX5_digest_48 : decode cX5_digest 48 = .ok (.lstore_n 1, 1) := by decide +kernel
theorem dX5_digest_49 : decode cX5_digest 49 = .ok (.ldc2_w 256, 3) := by decide +kernel
theorem dX5_digest_52 : decode cX5_digest 52 = .ok (.lload_n 1, 1) := by decide +kernel
theorem dX5_digest_53 : decode cX5_digest 53 = .ok (.lmul, 1) := by decide +kernel
theorem dX5_digest_54 : decode cX5_digest 54 = .ok (.aload_n 0, 1) := by decide +kernel
theorem dX5_digest_55 : decode cX5_digest 55 = .ok (.iconst 2, 1) := by decide +kernel
theorem dX5_digest_56 : decode cX5_digest 56 = .ok (.invokevirtual 248, 3) := by decide +kernel
theorem dX5_digest_59 : decode cX5_digest 59 = .ok (.i2l, 1) := by decide +kernel
theorem dX5_digest_60 : decode cX5_digest 60 = .ok (.ladd, 1) := by decide +kernel
theorem dX5_digest_61 : decode cX5_digest 61 = .ok (.lstore_n 1, 1) := by decide +kernel
theorem dX5_digest_62 : decode cX5_digest 62 = .ok (.ldc2_w 256, 3) := by decide +kernel
theorem dX5_digest_65 : decode cX5_digest 65 = .ok (.lload_n 1, 1) := by decide +kernel
theorem dX5_digest_66 : decode cX5_digest 66 = .ok (.lmul, 1) := by decide +kernel
theorem dX5_digest_67 : decode cX5_digest 67 = .ok (.aload_n 0, 1) := by decide +kernel
theorem dX5_digest_68 : decode cX5_digest 68 = .ok (.getfield 16, 3) := by decide +kernel
theorem dX5_digest_71 : decode cX5_digest 71 = .ok (.getfield 63, 3) := by decide +kernel
theorem dX5_digest_74 : decode cX5_digest 74 = .ok (.invokevirtual 205, 3) := by decide +kernel
theorem dX5_digest_77 : decode cX5_digest 77 = .ok (.i2l, 1) := by decide +kernel
theorem dX5_digest_78 : decode cX5_digest 78 = .ok (.ladd, 1) := by decide +kernel
theorem dX5_digest_79 : decode cX5_digest 79 = .ok (.lstore_n 1, 1) := by decide +kernel
theorem dX5_digest_80 : decode cX5_digest 80 = .ok (.ldc2_w 256, 3) := by decide +kernel
theorem dX5_digest_83 : decode cX5_digest 83 = .ok (.lload_n 1, 1) := by decide +kernel
theorem dX5_digest_84 : decode cX5_digest 84 = .ok (.lmul, 1) := by decide +kernel
theorem dX5_digest_85 : decode cX5_digest 85 = .ok (.aload_n 0, 1) := by decide +kernel
theorem dX5_digest_86 : decode cX5_digest 86 = .ok (.getfield 16, 3) := by decide +kernel
theorem dX5_digest_89 : decode cX5_digest 89 = .ok (.getfield 44, 3) := by decide +kernel
theorem dX5_digest_92 : decode cX5_digest 92 = .ok (.invokevirtual 211, 3) := by decide +kernel
theorem dX5_digest_95 : decode cX5_digest 95 = .ok (.i2l, 1) := by decide +kernel
theorem dX5_digest_96 : decode cX5_digest 96 = .ok (.ladd, 1) := by decide +kernel
theorem dX5_digest_97 : decode cX5_digest 97 = .ok (.lstore_n 1, 1) := by decide +kernel
theorem dX5_digest_98 : decode cX5_digest 98 = .ok (.aload_n 0, 1) := by decide +kernel
theorem dX5_digest_99 : decode cX5_digest 99 = .ok (.lload_n 1, 1) := by decide +kernel
theorem dX5_digest_100 : decode cX5_digest 100 = .ok (.invokevirtual 271, 3) := by decide +kernel
theorem dX5_digest_103 : decode cX5_digest 103 = .ok (.lstore_n 1, 1) := by decide +kernel
theorem dX5_digest_104 : decode cX5_digest 104 = .ok (.aload_n 0, 1) := by decide +kernel
theorem dX5_digest_105 : decode cX5_digest 105 = .ok (.lload_n 1, 1) := by decide +kernel
theorem dX5_digest_106 : decode cX5_digest 106 = .ok (.invokevirtual 274, 3) := by decide +kernel
theorem dX5_digest_109 : decode cX5_digest 109 = .ok (.lreturn, 1) := by decide +kernel
theorem dX5_hashThings_0 : decode cX5_hashThings 0 = .ok (.lload_n 1, 1) := by decide +kernel
theorem dX5_hashThings_1 : decode cX5_hashThings 1 = .ok (.lstore_n 3, 1) := by decide +kernel
theorem dX5_hashThings_2 : decode cX5_hashThings 2 = .ok (.aload_n 0, 1) := by decide +kernel
theorem dX5_hashThings_3 : decode cX5_hashThings 3 = .ok (.getfield 10, 3) := by decide +kernel
theorem dX5_hashThings_6 : decode cX5_hashThings 6 = .ok (.getfield 63, 3) := by decide +kernel
theorem dX5_hashThings_9 : decode cX5_hashThings 9 = .ok (.invokevirtual 205, 3) := by decide +kernel
theorem dX5_hashThings_12 : decode cX5_hashThings 12 = .ok (.istore 5, 2) := by decide +kernel
theorem dX5_hashThings_14 : decode cX5_hashThings 14 = .ok (.iconst 0, 1) := by decide +kernel
theorem dX5_hashThings_15 : decode cX5_hashThings 15 = .ok (.istore 6, 2) := by decide +kernel
theorem dX5_hashThings_17 : decode cX5_hashThings 17 = .ok (.iload 6, 2) := by decide +kernel
theorem dX5_hashThings_19 : decode cX5_hashThings 19 = .ok (.iload 5, 2) := by decide +kernel
theorem dX5_hashThings_21 : decode cX5_hashThings 21 = .ok (.if_icmp .ge 58, 3) := by decide +kernel
theorem dX5_hashThings_24 : decode cX5_hashThings 24 = .ok (.aload_n 0, 1) := by decide +kernel
theorem dX5_hashThings_25 : decode cX5_hashThings 25 = .ok (.iload 6, 2) := by decide +kernel
theorem dX5_hashThings_27 : decode cX5_hashThings 27 = .ok (.invokevirtual 277, 3) := by decide +kernel
theorem dX5_hashThings_30 : decode cX5_hashThings 30 = .ok (.istore 7, 2) := by decide +kernel
theorem dX5_hashThings_32 : decode cX5_hashThings 32 = .ok (.ldc2_w 256, 3) := by decide +kernel
theorem dX5_hashThings_35 : decode cX5_hashThings 35 = .ok (.lload_n 3, 1) := by decide +kernel
theorem dX5_hashThings_36 : decode cX5_hashThings 36 = .ok (.lmul, 1) := by decide +kernel
theorem dX5_hashThings_37 : decode cX5_hashThings 37 = .ok (.iload 7, 2) := by decide +kernel
theorem dX5_hashThings_39 : decode cX5_hashThings 39 = .ok (.i2l, 1) := by decide +kernel
theorem dX5_hashThings_40 : decode cX5_hashThings 40 = .ok (.ladd, 1) := by decide +kernel
theorem dX5_hashThings_41 : decode cX5_hashThings 41 = .ok (.lstore_n 3, 1) := by decide +kernel
theorem dX5_hashThings_42 : decode cX5_hashThings 42 = .ok (.iconst 0, 1) := by decide +kernel
theorem dX5_hashThings_43 : decode cX5_hashThings 43 = .ok (.istore 8, 2) := by decide +kernel
theorem dX5_hashThings_45 : decode cX5_hashThings 45 = .ok (.iload 8, 2) := by decide +kernel
theorem dX5_hashThings_47 : decode cX5_hashThings 47 = .ok (.iconst 5, 1) := by decide +kernel
theorem dX5_hashThings_48 : decode cX5_hashThings 48 = .ok (.if_icmp .gt 25, 3) := by decide +kernel
theorem dX5_hashThings_51 : decode cX5_hashThings 51 = .ok (.ldc2_w 256, 3) := by decide +kernel
theorem dX5_hashThings_54 : decode cX5_hashThings 54 = .ok (.lload_n 3, 1) := by decide +kernel
theorem dX5_hashThings_55 : decode cX5_hashThings 55 = .ok (.lmul, 1) := by decide +kernel
theorem dX5_hashThings_56 : decode cX5_hashThings 56 = .ok (.aload_n 0, 1) := by decide +kernel
theorem dX5_hashThings_57 : decode cX5_hashThings 57 = .ok (.iload 7, 2) := by decide +kernel
theorem dX5_hashThings_59 : decode cX5_hashThings 59 = .ok (.iload 8, 2) := by decide +kernel
theorem dX5_hashThings_61 : decode cX5_hashThings 61 = .ok (.invokevirtual 280, 3) := by decide +kernel
theorem dX5_hashThings_64 : decode cX5_hashThings 64 = .ok (.i2l, 1) := by decide +kernel
theorem dX5_hashThings_65 : decode cX5_hashThings 65 = .ok (.ladd, 1) := by decide +kernel
theorem dX5_hashThings_66 : decode cX5_hashThings 66 = .ok (.lstore_n 3, 1) := by decide +kernel
theorem dX5_hashThings_67 : decode cX5_hashThings 67 = .ok (.iinc 8 1, 3) := by decide +kernel
theorem dX5_hashThings_70 : decode cX5_hashThings 70 = .ok (.goto (-25), 3) := by decide +kernel
theorem dX5_hashThings_73 : decode cX5_hashThings 73 = .ok (.iinc 6 1, 3) := by decide +kernel
theorem dX5_hashThings_76 : decode cX5_hashThings 76 = .ok (.goto (-59), 3) := by decide +kernel
theorem dX5_hashThings_79 : decode cX5_hashThings 79 = .ok (.lload_n 3, 1) := by decide +kernel
theorem dX5_hashThings_80 : decode cX5_hashThings 80 = .ok (.lreturn, 1) := by decide +kernel
theorem dX5_hashCellsAndWalkers_0 : decode cX5_hashCellsAndWalkers 0 = .ok (.lload_n 1, 1) := by decide +kernel
theorem dX5_hashCellsAndWalkers_1 : decode cX5_hashCellsAndWalkers 1 = .ok (.lstore_n 3, 1) := by decide +kernel
theorem dX5_hashCellsAndWalkers_2 : decode cX5_hashCellsAndWalkers 2 = .ok (.aload_n 0, 1) := by decide +kernel
theorem dX5_hashCellsAndWalkers_3 : decode cX5_hashCellsAndWalkers 3 = .ok (.getfield 10, 3) := by decide +kernel
theorem dX5_hashCellsAndWalkers_6 : decode cX5_hashCellsAndWalkers 6 = .ok (.getfield 44, 3) := by decide +kernel
theorem dX5_hashCellsAndWalkers_9 : decode cX5_hashCellsAndWalkers 9 = .ok (.invokevirtual 211, 3) := by decide +kernel
theorem dX5_hashCellsAndWalkers_12 : decode cX5_hashCellsAndWalkers 12 = .ok (.istore 5, 2) := by decide +kernel
theorem dX5_hashCellsAndWalkers_14 : decode cX5_hashCellsAndWalkers 14 = .ok (.iconst 0, 1) := by decide +kernel
theorem dX5_hashCellsAndWalkers_15 : decode cX5_hashCellsAndWalkers 15 = .ok (.istore 6, 2) := by decide +kernel
theorem dX5_hashCellsAndWalkers_17 : decode cX5_hashCellsAndWalkers 17 = .ok (.iload 6, 2) := by decide +kernel
theorem dX5_hashCellsAndWalkers_19 : decode cX5_hashCellsAndWalkers 19 = .ok (.iload 5, 2) := by decide +kernel
theorem dX5_hashCellsAndWalkers_21 : decode cX5_hashCellsAndWalkers 21 = .ok (.if_icmp .ge 39, 3) := by decide +kernel
theorem dX5_hashCellsAndWalkers_24 : decode cX5_hashCellsAndWalkers 24 = .ok (.ldc2_w 256, 3) := by decide +kernel
theorem dX5_hashCellsAndWalkers_27 : decode cX5_hashCellsAndWalkers 27 = .ok (.lload_n 3, 1) := by decide +kernel
theorem dX5_hashCellsAndWalkers_28 : decode cX5_hashCellsAndWalkers 28 = .ok (.lmul, 1) := by decide +kernel
theorem dX5_hashCellsAndWalkers_29 : decode cX5_hashCellsAndWalkers 29 = .ok (.aload_n 0, 1) := by decide +kernel
theorem dX5_hashCellsAndWalkers_30 : decode cX5_hashCellsAndWalkers 30 = .ok (.iload 6, 2) := by decide +kernel
theorem dX5_hashCellsAndWalkers_32 : decode cX5_hashCellsAndWalkers 32 = .ok (.iconst 0, 1) := by decide +kernel
theorem dX5_hashCellsAndWalkers_33 : decode cX5_hashCellsAndWalkers 33 = .ok (.invokevirtual 284, 3) := by decide +kernel
theorem dX5_hashCellsAndWalkers_36 : decode cX5_hashCellsAndWalkers 36 = .ok (.i2l, 1) := by decide +kernel
theorem dX5_hashCellsAndWalkers_37 : decode cX5_hashCellsAndWalkers 37 = .ok (.ladd, 1) := by decide +kernel
theorem dX5_hashCellsAndWalkers_38 : decode cX5_hashCellsAndWalkers 38 = .ok (.lstore_n 3, 1) := by decide +kernel
theorem dX5_hashCellsAndWalkers_39 : decode cX5_hashCellsAndWalkers 39 = .ok (.ldc2_w 256, 3) := by decide +kernel
theorem dX5_hashCellsAndWalkers_42 : decode cX5_hashCellsAndWalkers 42 = .ok (.lload_n 3, 1) := by decide +kernel
theorem dX5_hashCellsAndWalkers_43 : decode cX5_hashCellsAndWalkers 43 = .ok (.lmul, 1) := by decide +kernel
theorem dX5_hashCellsAndWalkers_44 : decode cX5_hashCellsAndWalkers 44 = .ok (.aload_n 0, 1) := by decide +kernel
theorem dX5_hashCellsAndWalkers_45 : decode cX5_hashCellsAndWalkers 45 = .ok (.iload 6, 2) := by decide +kernel
theorem dX5_hashCellsAndWalkers_47 : decode cX5_hashCellsAndWalkers 47 = .ok (.iconst 1, 1) := by decide +kernel
theorem dX5_hashCellsAndWalkers_48 : decode cX5_hashCellsAndWalkers 48 = .ok (.invokevirtual 284, 3) := by decide +kernel
theorem dX5_hashCellsAndWalkers_51 : decode cX5_hashCellsAndWalkers 51 = .ok (.i2l, 1) := by decide +kernel
theorem dX5_hashCellsAndWalkers_52 : decode cX5_hashCellsAndWalkers 52 = .ok (.ladd, 1) := by decide +kernel
theorem dX5_hashCellsAndWalkers_53 : decode cX5_hashCellsAndWalkers 53 = .ok (.lstore_n 3, 1) := by decide +kernel
theorem dX5_hashCellsAndWalkers_54 : decode cX5_hashCellsAndWalkers 54 = .ok (.iinc 6 1, 3) := by decide +kernel
theorem dX5_hashCellsAndWalkers_57 : decode cX5_hashCellsAndWalkers 57 = .ok (.goto (-40), 3) := by decide +kernel
theorem dX5_hashCellsAndWalkers_60 : decode cX5_hashCellsAndWalkers 60 = .ok (.iconst 0, 1) := by decide +kernel
theorem dX5_hashCellsAndWalkers_61 : decode cX5_hashCellsAndWalkers 61 = .ok (.istore 6, 2) := by decide +kernel
theorem dX5_hashCellsAndWalkers_63 : decode cX5_hashCellsAndWalkers 63 = .ok (.iload 6, 2) := by decide +kernel
theorem dX5_hashCellsAndWalkers_65 : decode cX5_hashCellsAndWalkers 65 = .ok (.iconst 4, 1) := by decide +kernel
theorem dX5_hashCellsAndWalkers_66 : decode cX5_hashCellsAndWalkers 66 = .ok (.if_icmp .ge 40, 3) := by decide +kernel
theorem dX5_hashCellsAndWalkers_69 : decode cX5_hashCellsAndWalkers 69 = .ok (.iconst 0, 1) := by decide +kernel
theorem dX5_hashCellsAndWalkers_70 : decode cX5_hashCellsAndWalkers 70 = .ok (.istore 7, 2) := by decide +kernel
theorem dX5_hashCellsAndWalkers_72 : decode cX5_hashCellsAndWalkers 72 = .ok (.iload 7, 2) := by decide +kernel
theorem dX5_hashCellsAndWalkers_74 : decode cX5_hashCellsAndWalkers 74 = .ok (.iconst 2, 1) := by decide +kernel
theorem dX5_hashCellsAndWalkers_75 : decode cX5_hashCellsAndWalkers 75 = .ok (.if_icmp .gt 25, 3) := by decide +kernel
theorem dX5_hashCellsAndWalkers_78 : decode cX5_hashCellsAndWalkers 78 = .ok (.ldc2_w 256, 3) := by decide +kernel
theorem dX5_hashCellsAndWalkers_81 : decode cX5_hashCellsAndWalkers 81 = .ok (.lload_n 3, 1) := by decide +kernel
theorem dX5_hashCellsAndWalkers_82 : decode cX5_hashCellsAndWalkers 82 = .ok (.lmul, 1) := by decide +kernel
theorem dX5_hashCellsAndWalkers_83 : decode cX5_hashCellsAndWalkers 83 = .ok (.aload_n 0, 1) := by decide +kernel
theorem dX5_hashCellsAndWalkers_84 : decode cX5_hashCellsAndWalkers 84 = .ok (.iload 6, 2) := by decide +kernel
theorem dX5_hashCellsAndWalkers_86 : decode cX5_hashCellsAndWalkers 86 = .ok (.iload 7, 2) := by decide +kernel
theorem dX5_hashCellsAndWalkers_88 : decode cX5_hashCellsAndWalkers 88 = .ok (.invokevirtual 287, 3) := by decide +kernel
theorem dX5_hashCellsAndWalkers_91 : decode cX5_hashCellsAndWalkers 91 = .ok (.i2l, 1) := by decide +kernel
theorem dX5_hashCellsAndWalkers_92 : decode cX5_hashCellsAndWalkers 92 = .ok (.ladd, 1) := by decide +kernel
theorem dX5_hashCellsAndWalkers_93 : decode cX5_hashCellsAndWalkers 93 = .ok (.lstore_n 3, 1) := by decide +kernel
theorem dX5_hashCellsAndWalkers_94 : decode cX5_hashCellsAndWalkers 94 = .ok (.iinc 7 1, 3) := by decide +kernel
theorem dX5_hashCellsAndWalkers_97 : decode cX5_hashCellsAndWalkers 97 = .ok (.goto (-25), 3) := by decide +kernel
theorem dX5_hashCellsAndWalkers_100 : decode cX5_hashCellsAndWalkers 100 = .ok (.iinc 6 1, 3) := by decide +kernel
theorem dX5_hashCellsAndWalkers_103 : decode cX5_hashCellsAndWalkers 103 = .ok (.goto (-40), 3) := by decide +kernel
theorem dX5_hashCellsAndWalkers_106 : decode cX5_hashCellsAndWalkers 106 = .ok (.lload_n 3, 1) := by decide +kernel
theorem dX5_hashCellsAndWalkers_107 : decode cX5_hashCellsAndWalkers 107 = .ok (.lreturn, 1) := by decide +kernel
theorem dX5_hashGaps_0 : decode cX5_hashGaps 0 = .ok (.lload_n 1, 1) := by decide +kernel
theorem dX5_hashGaps_1 : decode cX5_hashGaps 1 = .ok (.lstore_n 3, 1) := by decide +kernel
theorem dX5_hashGaps_2 : decode cX5_hashGaps 2 = .ok (.iconst 1, 1) := by decide +kernel
theorem dX5_hashGaps_3 : decode cX5_hashGaps 3 = .ok (.istore 5, 2) := by decide +kernel
theorem dX5_hashGaps_5 : decode cX5_hashGaps 5 = .ok (.iload 5, 2) := by decide +kernel
theorem dX5_hashGaps_7 : decode cX5_hashGaps 7 = .ok (.iconst 4, 1) := by decide +kernel
theorem dX5_hashGaps_8 : decode cX5_hashGaps 8 = .ok (.if_icmp .gt 23, 3) := by decide +kernel
theorem dX5_hashGaps_11 : decode cX5_hashGaps 11 = .ok (.ldc2_w 256, 3) := by decide +kernel
theorem dX5_hashGaps_14 : decode cX5_hashGaps 14 = .ok (.lload_n 3, 1) := by decide +kernel
theorem dX5_hashGaps_15 : decode cX5_hashGaps 15 = .ok (.lmul, 1) := by decide +kernel
theorem dX5_hashGaps_16 : decode cX5_hashGaps 16 = .ok (.aload_n 0, 1) := by decide +kernel
theorem dX5_hashGaps_17 : decode cX5_hashGaps 17 = .ok (.iload 5, 2) := by decide +kernel
theorem dX5_hashGaps_19 : decode cX5_hashGaps 19 = .ok (.invokevirtual 290, 3) := by decide +kernel
theorem dX5_hashGaps_22 : decode cX5_hashGaps 22 = .ok (.i2l, 1) := by decide +kernel
theorem dX5_hashGaps_23 : decode cX5_hashGaps 23 = .ok (.ladd, 1) := by decide +kernel
theorem dX5_hashGaps_24 : decode cX5_hashGaps 24 = .ok (.lstore_n 3, 1) := by decide +kernel
theorem dX5_hashGaps_25 : decode cX5_hashGaps 25 = .ok (.iinc 5 1, 3) := by decide +kernel
theorem dX5_hashGaps_28 : decode cX5_hashGaps 28 = .ok (.goto (-23), 3) := by decide +kernel
theorem dX5_hashGaps_31 : decode cX5_hashGaps 31 = .ok (.ldc2_w 256, 3) := by decide +kernel
theorem dX5_hashGaps_34 : decode cX5_hashGaps 34 = .ok (.lload_n 3, 1) := by decide +kernel
theorem dX5_hashGaps_35 : decode cX5_hashGaps 35 = .ok (.lmul, 1) := by decide +kernel
theorem dX5_hashGaps_36 : decode cX5_hashGaps 36 = .ok (.aload_n 0, 1) := by decide +kernel
theorem dX5_hashGaps_37 : decode cX5_hashGaps 37 = .ok (.iconst 0, 1) := by decide +kernel
theorem dX5_hashGaps_38 : decode cX5_hashGaps 38 = .ok (.invokevirtual 293, 3) := by decide +kernel
theorem dX5_hashGaps_41 : decode cX5_hashGaps 41 = .ok (.i2l, 1) := by decide +kernel
theorem dX5_hashGaps_42 : decode cX5_hashGaps 42 = .ok (.ladd, 1) := by decide +kernel
theorem dX5_hashGaps_43 : decode cX5_hashGaps 43 = .ok (.lstore_n 3, 1) := by decide +kernel
theorem dX5_hashGaps_44 : decode cX5_hashGaps 44 = .ok (.ldc2_w 256, 3) := by decide +kernel
theorem dX5_hashGaps_47 : decode cX5_hashGaps 47 = .ok (.lload_n 3, 1) := by decide +kernel
theorem dX5_hashGaps_48 : decode cX5_hashGaps 48 = .ok (.lmul, 1) := by decide +kernel
theorem dX5_hashGaps_49 : decode cX5_hashGaps 49 = .ok (.aload_n 0, 1) := by decide +kernel
theorem dX5_hashGaps_50 : decode cX5_hashGaps 50 = .ok (.iconst 1, 1) := by decide +kernel
theorem dX5_hashGaps_51 : decode cX5_hashGaps 51 = .ok (.invokevirtual 293, 3) := by decide +kernel
theorem dX5_hashGaps_54 : decode cX5_hashGaps 54 = .ok (.i2l, 1) := by decide +kernel
theorem dX5_hashGaps_55 : decode cX5_hashGaps 55 = .ok (.ladd, 1) := by decide +kernel
theorem dX5_hashGaps_56 : decode cX5_hashGaps 56 = .ok (.lreturn, 1) := by decide +kernel
theorem dX5_hashRoom_0 : decode cX5_hashRoom 0 = .ok (.lload_n 1, 1) := by decide +kernel
theorem dX5_hashRoom_1 : decode cX5_hashRoom 1 = .ok (.lstore_n 3, 1) := by decide +kernel
theorem dX5_hashRoom_2 : decode cX5_hashRoom 2 = .ok (.iconst 1, 1) := by decide +kernel
theorem dX5_hashRoom_3 : decode cX5_hashRoom 3 = .ok (.istore 5, 2) := by decide +kernel
theorem dX5_hashRoom_5 : decode cX5_hashRoom 5 = .ok (.iload 5, 2) := by decide +kernel
theorem dX5_hashRoom_7 : decode cX5_hashRoom 7 = .ok (.iconst 4, 1) := by decide +kernel
theorem dX5_hashRoom_8 : decode cX5_hashRoom 8 = .ok (.if_icmp .gt 39, 3) := by decide +kernel
theorem dX5_hashRoom_11 : decode cX5_hashRoom 11 = .ok (.ldc2_w 256, 3) := by decide +kernel
theorem dX5_hashRoom_14 : decode cX5_hashRoom 14 = .ok (.lload_n 3, 1) := by decide +kernel
theorem dX5_hashRoom_15 : decode cX5_hashRoom 15 = .ok (.lmul, 1) := by decide +kernel
theorem dX5_hashRoom_16 : decode cX5_hashRoom 16 = .ok (.aload_n 0, 1) := by decide +kernel
theorem dX5_hashRoom_17 : decode cX5_hashRoom 17 = .ok (.iload 5, 2) := by decide +kernel
theorem dX5_hashRoom_19 : decode cX5_hashRoom 19 = .ok (.iconst 0, 1) := by decide +kernel
theorem dX5_hashRoom_20 : decode cX5_hashRoom 20 = .ok (.invokevirtual 296, 3) := by decide +kernel
theorem dX5_hashRoom_23 : decode cX5_hashRoom 23 = .ok (.i2l, 1) := by decide +kernel
theorem dX5_hashRoom_24 : decode cX5_hashRoom 24 = .ok (.ladd, 1) := by decide +kernel
theorem dX5_hashRoom_25 : decode cX5_hashRoom 25 = .ok (.lstore_n 3, 1) := by decide +kernel
theorem dX5_hashRoom_26 : decode cX5_hashRoom 26 = .ok (.ldc2_w 256, 3) := by decide +kernel
theorem dX5_hashRoom_29 : decode cX5_hashRoom 29 = .ok (.lload_n 3, 1) := by decide +kernel
theorem dX5_hashRoom_30 : decode cX5_hashRoom 30 = .ok (.lmul, 1) := by decide +kernel
theorem dX5_hashRoom_31 : decode cX5_hashRoom 31 = .ok (.aload_n 0, 1) := by decide +kernel
theorem dX5_hashRoom_32 : decode cX5_hashRoom 32 = .ok (.iload 5, 2) := by decide +kernel
theorem dX5_hashRoom_34 : decode cX5_hashRoom 34 = .ok (.iconst 1, 1) := by decide +kernel
theorem dX5_hashRoom_35 : decode cX5_hashRoom 35 = .ok (.invokevirtual 296, 3) := by decide +kernel
theorem dX5_hashRoom_38 : decode cX5_hashRoom 38 = .ok (.i2l, 1) := by decide +kernel
theorem dX5_hashRoom_39 : decode cX5_hashRoom 39 = .ok (.ladd, 1) := by decide +kernel
theorem dX5_hashRoom_40 : decode cX5_hashRoom 40 = .ok (.lstore_n 3, 1) := by decide +kernel
theorem dX5_hashRoom_41 : decode cX5_hashRoom 41 = .ok (.iinc 5 1, 3) := by decide +kernel
theorem dX5_hashRoom_44 : decode cX5_hashRoom 44 = .ok (.goto (-39), 3) := by decide +kernel
theorem dX5_hashRoom_47 : decode cX5_hashRoom 47 = .ok (.ldc2_w 256, 3) := by decide +kernel
theorem dX5_hashRoom_50 : decode cX5_hashRoom 50 = .ok (.lload_n 3, 1) := by decide +kernel
theorem dX5_hashRoom_51 : decode cX5_hashRoom 51 = .ok (.lmul, 1) := by decide +kernel
theorem dX5_hashRoom_52 : decode cX5_hashRoom 52 = .ok (.aload_n 0, 1) := by decide +kernel
theorem dX5_hashRoom_53 : decode cX5_hashRoom 53 = .ok (.invokevirtual 300, 3) := by decide +kernel
theorem dX5_hashRoom_56 : decode cX5_hashRoom 56 = .ok (.invokestatic 304, 3) := by decide +kernel
theorem dX5_hashRoom_59 : decode cX5_hashRoom 59 = .ok (.ladd, 1) := by decide +kernel
theorem dX5_hashRoom_60 : decode cX5_hashRoom 60 = .ok (.lreturn, 1) := by decide +kernel
theorem dX5_tryEvents_0 : decode cX5_tryEvents 0 = .ok (.aload_n 0, 1) := by decide +kernel
theorem dX5_tryEvents_1 : decode cX5_tryEvents 1 = .ok (.getfield 16, 3) := by decide +kernel
theorem dX5_tryEvents_4 : decode cX5_tryEvents 4 = .ok (.aload_n 0, 1) := by decide +kernel
theorem dX5_tryEvents_5 : decode cX5_tryEvents 5 = .ok (.getfield 10, 3) := by decide +kernel
theorem dX5_tryEvents_8 : decode cX5_tryEvents 8 = .ok (.invokevirtual 308, 3) := by decide +kernel
theorem dX5_tryEvents_11 : decode cX5_tryEvents 11 = .ok (.iconst 0, 1) := by decide +kernel
theorem dX5_tryEvents_12 : decode cX5_tryEvents 12 = .ok (.istore_n 2, 1) := by decide +kernel
theorem dX5_tryEvents_13 : decode cX5_tryEvents 13 = .ok (.iconst 0, 1) := by decide +kernel
theorem dX5_tryEvents_14 : decode cX5_tryEvents 14 = .ok (.istore_n 3, 1) := by decide +kernel
theorem dX5_tryEvents_15 : decode cX5_tryEvents 15 = .ok (.iload_n 3, 1) := by decide +kernel
theorem dX5_tryEvents_16 : decode cX5_tryEvents 16 = .ok (.iload_n 1, 1) := by decide +kernel
theorem dX5_tryEvents_17 : decode cX5_tryEvents 17 = .ok (.if_icmp .ge 19, 3) := by decide +kernel
theorem dX5_tryEvents_20 : decode cX5_tryEvents 20 = .ok (.iload_n 2, 1) := by decide +kernel
theorem dX5_tryEvents_21 : decode cX5_tryEvents 21 = .ok (.aload_n 0, 1) := by decide +kernel
theorem dX5_tryEvents_22 : decode cX5_tryEvents 22 = .ok (.getfield 16, 3) := by decide +kernel
theorem dX5_tryEvents_25 : decode cX5_tryEvents 25 = .ok (.invokevirtual 127, 3) := by decide +kernel
theorem dX5_tryEvents_28 : decode cX5_tryEvents 28 = .ok (.iadd, 1) := by decide +kernel
theorem dX5_tryEvents_29 : decode cX5_tryEvents 29 = .ok (.istore_n 2, 1) := by decide +kernel
theorem dX5_tryEvents_30 : decode cX5_tryEvents 30 = .ok (.iinc 3 1, 3) := by decide +kernel
theorem dX5_tryEvents_33 : decode cX5_tryEvents 33 = .ok (.goto (-18), 3) := by decide +kernel
theorem dX5_tryEvents_36 : decode cX5_tryEvents 36 = .ok (.iload_n 2, 1) := by decide +kernel
theorem dX5_tryEvents_37 : decode cX5_tryEvents 37 = .ok (.ireturn, 1) := by decide +kernel
theorem dX5_hashBuffer_0 : decode cX5_hashBuffer 0 = .ok (.aload_n 0, 1) := by decide +kernel
theorem dX5_hashBuffer_1 : decode cX5_hashBuffer 1 = .ok (.getfield 29, 3) := by decide +kernel
theorem dX5_hashBuffer_4 : decode cX5_hashBuffer 4 = .ok (.invokevirtual 144, 3) := by decide +kernel
theorem dX5_hashBuffer_7 : decode cX5_hashBuffer 7 = .ok (.istore_n 3, 1) := by decide +kernel
theorem dX5_hashBuffer_8 : decode cX5_hashBuffer 8 = .ok (.ldc2_w 256, 3) := by decide +kernel
theorem dX5_hashBuffer_11 : decode cX5_hashBuffer 11 = .ok (.lload_n 1, 1) := by decide +kernel
theorem dX5_hashBuffer_12 : decode cX5_hashBuffer 12 = .ok (.lmul, 1) := by decide +kernel
theorem dX5_hashBuffer_13 : decode cX5_hashBuffer 13 = .ok (.iload_n 3, 1) := by decide +kernel
theorem dX5_hashBuffer_14 : decode cX5_hashBuffer 14 = .ok (.i2l, 1) := by decide +kernel
theorem dX5_hashBuffer_15 : decode cX5_hashBuffer 15 = .ok (.ladd, 1) := by decide +kernel
theorem dX5_hashBuffer_16 : decode cX5_hashBuffer 16 = .ok (.lstore 4, 2) := by decide +kernel
theorem dX5_hashBuffer_18 : decode cX5_hashBuffer 18 = .ok (.iconst 0, 1) := by decide +kernel
theorem dX5_hashBuffer_19 : decode cX5_hashBuffer 19 = .ok (.istore 6, 2) := by decide +kernel
theorem dX5_hashBuffer_21 : decode cX5_hashBuffer 21 = .ok (.iload 6, 2) := by decide +kernel
theorem dX5_hashBuffer_23 : decode cX5_hashBuffer 23 = .ok (.iload_n 3, 1) := by decide +kernel
theorem dX5_hashBuffer_24 : decode cX5_hashBuffer 24 = .ok (.if_icmp .ge 28, 3) := by decide +kernel
theorem dX5_hashBuffer_27 : decode cX5_hashBuffer 27 = .ok (.ldc2_w 256, 3) := by decide +kernel
theorem dX5_hashBuffer_30 : decode cX5_hashBuffer 30 = .ok (.lload 4, 2) := by decide +kernel
theorem dX5_hashBuffer_32 : decode cX5_hashBuffer 32 = .ok (.lmul, 1) := by decide +kernel
theorem dX5_hashBuffer_33 : decode cX5_hashBuffer 33 = .ok (.aload_n 0, 1) := by decide +kernel
theorem dX5_hashBuffer_34 : decode cX5_hashBuffer 34 = .ok (.getfield 29, 3) := by decide +kernel
theorem dX5_hashBuffer_37 : decode cX5_hashBuffer 37 = .ok (.iload 6, 2) := by decide +kernel
theorem dX5_hashBuffer_39 : decode cX5_hashBuffer 39 = .ok (.invokevirtual 311, 3) := by decide +kernel
theorem dX5_hashBuffer_42 : decode cX5_hashBuffer 42 = .ok (.i2l, 1) := by decide +kernel
theorem dX5_hashBuffer_43 : decode cX5_hashBuffer 43 = .ok (.ladd, 1) := by decide +kernel
theorem dX5_hashBuffer_44 : decode cX5_hashBuffer 44 = .ok (.lstore 4, 2) := by decide +kernel
theorem dX5_hashBuffer_46 : decode cX5_hashBuffer 46 = .ok (.iinc 6 1, 3) := by decide +kernel
theorem dX5_hashBuffer_49 : decode cX5_hashBuffer 49 = .ok (.goto (-28), 3) := by decide +kernel
theorem dX5_hashBuffer_52 : decode cX5_hashBuffer 52 = .ok (.lload 4, 2) := by decide +kernel
theorem dX5_hashBuffer_54 : decode cX5_hashBuffer 54 = .ok (.lreturn, 1) := by decide +kernel
theorem dX5_bitsOfShare_0 : decode cX5_bitsOfShare 0 = .ok (.dload_n 0, 1) := by decide +kernel
theorem dX5_bitsOfShare_1 : decode cX5_bitsOfShare 1 = .ok (.dconst 0, 1) := by decide +kernel
theorem dX5_bitsOfShare_2 : decode cX5_bitsOfShare 2 = .ok (.dcmp .g, 1) := by decide +kernel
theorem dX5_bitsOfShare_3 : decode cX5_bitsOfShare 3 = .ok (.ifCond .gt 5, 3) := by decide +kernel
theorem dX5_bitsOfShare_6 : decode cX5_bitsOfShare 6 = .ok (.lconst 0, 1) := by decide +kernel
theorem dX5_bitsOfShare_7 : decode cX5_bitsOfShare 7 = .ok (.lreturn, 1) := by decide +kernel
theorem dX5_bitsOfShare_8 : decode cX5_bitsOfShare 8 = .ok (.dload_n 0, 1) := by decide +kernel
theorem dX5_bitsOfShare_9 : decode cX5_bitsOfShare 9 = .ok (.dstore_n 2, 1) := by decide +kernel
theorem dX5_bitsOfShare_10 : decode cX5_bitsOfShare 10 = .ok (.ldc2_w 314, 3) := by decide +kernel
theorem dX5_bitsOfShare_13 : decode cX5_bitsOfShare 13 = .ok (.lstore 4, 2) := by decide +kernel
theorem dX5_bitsOfShare_15 : decode cX5_bitsOfShare 15 = .ok (.iconst 0, 1) := by decide +kernel
theorem dX5_bitsOfShare_16 : decode cX5_bitsOfShare 16 = .ok (.istore 6, 2) := by decide +kernel
theorem dX5_bitsOfShare_18 : decode cX5_bitsOfShare 18 = .ok (.iload 6, 2) := by decide +kernel
theorem dX5_bitsOfShare_20 : decode cX5_bitsOfShare 20 = .ok (.bipush 6, 2) := by decide +kernel
theorem dX5_bitsOfShare_22 : decode cX5_bitsOfShare 22 = .ok (.if_icmp .ge 27, 3) := by decide +kernel
theorem dX5_bitsOfShare_25 : decode cX5_bitsOfShare 25 = .ok (.dload_n 2, 1) := by decide +kernel
theorem dX5_bitsOfShare_26 : decode cX5_bitsOfShare 26 = .ok (.dconst 1, 1) := by decide +kernel
theorem dX5_bitsOfShare_27 : decode cX5_bitsOfShare 27 = .ok (.dcmp .g, 1) := by decide +kernel
theorem dX5_bitsOfShare_28 : decode cX5_bitsOfShare 28 = .ok (.ifCond .ge 21, 3) := by decide +kernel
theorem dX5_bitsOfShare_31 : decode cX5_bitsOfShare 31 = .ok (.dload_n 2, 1) := by decide +kernel
theorem dX5_bitsOfShare_32 : decode cX5_bitsOfShare 32 = .ok (.ldc2_w 316, 3) := by decide +kernel
theorem dX5_bitsOfShare_35 : decode cX5_bitsOfShare 35 = .ok (.dmul, 1) := by decide +kernel
theorem dX5_bitsOfShare_36 : decode cX5_bitsOfShare 36 = .ok (.dstore_n 2, 1) := by decide +kernel
theorem dX5_bitsOfShare_37 : decode cX5_bitsOfShare 37 = .ok (.lload 4, 2) := by decide +kernel
theorem dX5_bitsOfShare_39 : decode cX5_bitsOfShare 39 = .ok (.lconst 1, 1) := by decide +kernel
theorem dX5_bitsOfShare_40 : decode cX5_bitsOfShare 40 = .ok (.lsub, 1) := by decide +kernel
theorem dX5_bitsOfShare_41 : decode cX5_bitsOfShare 41 = .ok (.lstore 4, 2) := by decide +kernel
theorem dX5_bitsOfShare_43 : decode cX5_bitsOfShare 43 = .ok (.iinc 6 1, 3) := by decide +kernel
theorem dX5_bitsOfShare_46 : decode cX5_bitsOfShare 46 = .ok (.goto (-28), 3) := by decide +kernel
theorem dX5_bitsOfShare_49 : decode cX5_bitsOfShare 49 = .ok (.lload 4, 2) := by decide +kernel
theorem dX5_bitsOfShare_51 : decode cX5_bitsOfShare 51 = .ok (.bipush 52, 2) := by decide +kernel
theorem dX5_bitsOfShare_53 : decode cX5_bitsOfShare 53 = .ok (.lshl, 1) := by decide +kernel
theorem dX5_bitsOfShare_54 : decode cX5_bitsOfShare 54 = .ok (.dload_n 2, 1) := by decide +kernel
theorem dX5_bitsOfShare_55 : decode cX5_bitsOfShare 55 = .ok (.dconst 1, 1) := by decide +kernel
theorem dX5_bitsOfShare_56 : decode cX5_bitsOfShare 56 = .ok (.dsub, 1) := by decide +kernel
theorem dX5_bitsOfShare_57 : decode cX5_bitsOfShare 57 = .ok (.ldc2_w 318, 3) := by decide +kernel
theorem dX5_bitsOfShare_60 : decode cX5_bitsOfShare 60 = .ok (.dmul, 1) := by decide +kernel
theorem dX5_bitsOfShare_61 : decode cX5_bitsOfShare 61 = .ok (.d2l, 1) := by decide +kernel
theorem dX5_bitsOfShare_62 : decode cX5_bitsOfShare 62 = .ok (.ladd, 1) := by decide +kernel
theorem dX5_bitsOfShare_63 : decode cX5_bitsOfShare 63 = .ok (.lreturn, 1) := by decide +kernel
theorem dX5_putParts_0 : decode cX5_putParts 0 = .ok (.iconst 0, 1) := by decide +kernel
theorem dX5_putParts_1 : decode cX5_putParts 1 = .ok (.istore_n 1, 1) := by decide +kernel
theorem dX5_putParts_2 : decode cX5_putParts 2 = .ok (.aload_n 0, 1) := by decide +kernel
theorem dX5_putParts_3 : decode cX5_putParts 3 = .ok (.getfield 29, 3) := by decide +kernel
theorem dX5_putParts_6 : decode cX5_putParts 6 = .ok (.invokevirtual 144, 3) := by decide +kernel
theorem dX5_putParts_9 : decode cX5_putParts 9 = .ok (.istore_n 2, 1) := by decide +kernel
theorem dX5_putParts_10 : decode cX5_putParts 10 = .ok (.iconst 0, 1) := by decide +kernel
theorem dX5_putParts_11 : decode cX5_putParts 11 = .ok (.istore_n 3, 1) := by decide +kernel
theorem dX5_putParts_12 : decode cX5_putParts 12 = .ok (.iconst 0, 1) := by decide +kernel
theorem dX5_putParts_13 : decode cX5_putParts 13 = .ok (.istore 4, 2) := by decide +kernel
theorem dX5_putParts_15 : decode cX5_putParts 15 = .ok (.iload 4, 2) := by decide +kernel
theorem dX5_putParts_17 : decode cX5_putParts 17 = .ok (.bipush 60, 2) := by decide +kernel
theorem dX5_putParts_19 : decode cX5_putParts 19 = .ok (.if_icmp .ge 118, 3) := by decide +kernel
theorem dX5_putParts_22 : decode cX5_putParts 22 = .ok (.iload_n 3, 1) := by decide +kernel
theorem dX5_putParts_23 : decode cX5_putParts 23 = .ok (.iload_n 2, 1) := by decide +kernel
theorem dX5_putParts_24 : decode cX5_putParts 24 = .ok (.if_icmp .ge 113, 3) := by decide +kernel
theorem dX5_putParts_27 : decode cX5_putParts 27 = .ok (.aload_n 0, 1) := by decide +kernel
theorem dX5_putParts_28 : decode cX5_putParts 28 = .ok (.getfield 29, 3) := by decide +kernel
theorem dX5_putParts_31 : decode cX5_putParts 31 = .ok (.bipush 42, 2) := by decide +kernel
theorem dX5_putParts_33 : decode cX5_putParts 33 = .ok (.iload_n 3, 1) := by decide +kernel
theorem dX5_putParts_34 : decode cX5_putParts 34 = .ok (.invokevirtual 320, 3) := by decide +kernel
theorem dX5_putParts_37 : decode cX5_putParts 37 = .ok (.istore 5, 2) := by decide +kernel
theorem dX5_putParts_39 : decode cX5_putParts 39 = .ok (.aload_n 0, 1) := by decide +kernel
theorem dX5_putParts_40 : decode cX5_putParts 40 = .ok (.getfield 29, 3) := by decide +kernel
theorem dX5_putParts_43 : decode cX5_putParts 43 = .ok (.bipush 44, 2) := by decide +kernel
theorem dX5_putParts_45 : decode cX5_putParts 45 = .ok (.iload_n 3, 1) := by decide +kernel
theorem dX5_putParts_46 : decode cX5_putParts 46 = .ok (.invokevirtual 320, 3) := by decide +kernel
theorem dX5_putParts_49 : decode cX5_putParts 49 = .ok (.istore 6, 2) := by decide +kernel
theorem dX5_putParts_51 : decode cX5_putParts 51 = .ok (.aload_n 0, 1) := by decide +kernel
theorem dX5_putParts_52 : decode cX5_putParts 52 = .ok (.getfield 29, 3) := by decide +kernel
theorem dX5_putParts_55 : decode cX5_putParts 55 = .ok (.iload_n 3, 1) := by decide +kernel
theorem dX5_putParts_56 : decode cX5_putParts 56 = .ok (.iload 5, 2) := by decide +kernel
theorem dX5_putParts_58 : decode cX5_putParts 58 = .ok (.invokevirtual 322, 3) := by decide +kernel
theorem dX5_putParts_61 : decode cX5_putParts 61 = .ok (.istore 7, 2) := by decide +kernel
theorem dX5_putParts_63 : decode cX5_putParts 63 = .ok (.aload_n 0, 1) := by decide +kernel
theorem dX5_putParts_64 : decode cX5_putParts 64 = .ok (.getfield 29, 3) := by decide +kernel
theorem dX5_putParts_67 : decode cX5_putParts 67 = .ok (.iload 5, 2) := by decide +kernel
theorem dX5_putParts_69 : decode cX5_putParts 69 = .ok (.iconst 1, 1) := by decide +kernel
theorem dX5_putParts_70 : decode cX5_putParts 70 = .ok (.iadd, 1) := by decide +kernel
theorem dX5_putParts_71 : decode cX5_putParts 71 = .ok (.iload 5, 2) := by decide +kernel
theorem dX5_putParts_73 : decode cX5_putParts 73 = .ok (.iconst 2, 1) := by decide +kernel
theorem dX5_putParts_74 : decode cX5_putParts 74 = .ok (.iadd, 1) := by decide +kernel
theorem dX5_putParts_75 : decode cX5_putParts 75 = .ok (.invokevirtual 322, 3) := by decide +kernel
theorem dX5_putParts_78 : decode cX5_putParts 78 = .ok (.istore 8, 2) := by decide +kernel
theorem dX5_putParts_80 : decode cX5_putParts 80 = .ok (.aload_n 0, 1) := by decide +kernel
theorem dX5_putParts_81 : decode cX5_putParts 81 = .ok (.getfield 29, 3) := by decide +kernel
theorem dX5_putParts_84 : decode cX5_putParts 84 = .ok (.iload 6, 2) := by decide +kernel
theorem dX5_putParts_86 : decode cX5_putParts 86 = .ok (.iconst 1, 1) := by decide +kernel
theorem dX5_putParts_87 : decode cX5_putParts 87 = .ok (.isub, 1) := by decide +kernel
theorem dX5_putParts_88 : decode cX5_putParts 88 = .ok (.invokevirtual 311, 3) := by decide +kernel
theorem dX5_putParts_91 : decode cX5_putParts 91 = .ok (.invokestatic 325, 3) := by decide +kernel
theorem dX5_putParts_94 : decode cX5_putParts 94 = .ok (.istore 9, 2) := by decide +kernel
theorem dX5_putParts_96 : decode cX5_putParts 96 = .ok (.aload_n 0, 1) := by decide +kernel
theorem dX5_putParts_97 : decode cX5_putParts 97 = .ok (.getfield 10, 3) := by decide +kernel
theorem dX5_putParts_100 : decode cX5_putParts 100 = .ok (.aload_n 0, 1) := by decide +kernel
theorem dX5_putParts_101 : decode cX5_putParts 101 = .ok (.getfield 10, 3) := by decide +kernel
theorem dX5_putParts_104 : decode cX5_putParts 104 = .ok (.getfield 63, 3) := by decide +kernel
theorem dX5_putParts_107 : decode cX5_putParts 107 = .ok (.invokevirtual 67, 3) := by decide +kernel
theorem dX5_putParts_110 : decode cX5_putParts 110 = .ok (.iload 7, 2) := by decide +kernel
theorem dX5_putParts_112 : decode cX5_putParts 112 = .ok (.iload 8, 2) := by decide +kernel
theorem dX5_putParts_114 : decode cX5_putParts 114 = .ok (.iload 9, 2) := by decide +kernel
theorem dX5_putParts_116 : decode cX5_putParts 116 = .ok (.invokevirtual 73, 3) := by decide +kernel
theorem dX5_putParts_119 : decode cX5_putParts 119 = .ok (.iconst (-1), 1) := by decide +kernel
theorem dX5_putParts_120 : decode cX5_putParts 120 = .ok (.if_icmp .eq 6, 3) := by decide +kernel
theorem dX5_putParts_123 : decode cX5_putParts 123 = .ok (.iinc 1 1, 3) := by decide +kernel
theorem dX5_putParts_126 : decode cX5_putParts 126 = .ok (.iload 6, 2) := by decide +kernel
theorem dX5_putParts_128 : decode cX5_putParts 128 = .ok (.iconst 1, 1) := by decide +kernel
theorem dX5_putParts_129 : decode cX5_putParts 129 = .ok (.iadd, 1) := by decide +kernel
theorem dX5_putParts_130 : decode cX5_putParts 130 = .ok (.istore_n 3, 1) := by decide +kernel
theorem dX5_putParts_131 : decode cX5_putParts 131 = .ok (.iinc 4 1, 3) := by decide +kernel
theorem dX5_putParts_134 : decode cX5_putParts 134 = .ok (.goto (-119), 3) := by decide +kernel
theorem dX5_putParts_137 : decode cX5_putParts 137 = .ok (.iload_n 1, 1) := by decide +kernel
theorem dX5_putParts_138 : decode cX5_putParts 138 = .ok (.ireturn, 1) := by decide +kernel
theorem dX5_kindOfSign_0 : decode cX5_kindOfSign 0 = .ok (.iload_n 0, 1) := by decide +kernel
theorem dX5_kindOfSign_1 : decode cX5_kindOfSign 1 = .ok (.bipush 33, 2) := by decide +kernel
theorem dX5_kindOfSign_3 : decode cX5_kindOfSign 3 = .ok (.if_icmp .ne 5, 3) := by decide +kernel
theorem dX5_kindOfSign_6 : decode cX5_kindOfSign 6 = .ok (.iconst 1, 1) := by decide +kernel
theorem dX5_kindOfSign_7 : decode cX5_kindOfSign 7 = .ok (.ireturn, 1) := by decide +kernel
theorem dX5_kindOfSign_8 : decode cX5_kindOfSign 8 = .ok (.iload_n 0, 1) := by decide +kernel
theorem dX5_kindOfSign_9 : decode cX5_kindOfSign 9 = .ok (.bipush 43, 2) := by decide +kernel
theorem dX5_kindOfSign_11 : decode cX5_kindOfSign 11 = .ok (.if_icmp .ne 7, 3) := by decide +kernel
theorem dX5_kindOfSign_14 : decode cX5_kindOfSign 14 = .ok (.iconst 2, 1) := by decide +kernel
theorem dX5_kindOfSign_15 : decode cX5_kindOfSign 15 = .ok (.goto 4, 3) := by decide +kernel
theorem dX5_kindOfSign_18 : decode cX5_kindOfSign 18 = .ok (.iconst 0, 1) := by decide +kernel
theorem dX5_kindOfSign_19 : decode cX5_kindOfSign 19 = .ok (.ireturn, 1) := by decide +kernel
theorem dX5_isThing_0 : decode cX5_isThing 0 = .ok (.iload_n 0, 1) := by decide +kernel
theorem dX5_isThing_1 : decode cX5_isThing 1 = .ok (.invokestatic 98, 3) := by decide +kernel
theorem dX5_isThing_4 : decode cX5_isThing 4 = .ok (.ifCond .eq 23, 3) := by decide +kernel
theorem dX5_isThing_7 : decode cX5_isThing 7 = .ok (.iload_n 1, 1) := by decide +kernel
theorem dX5_isThing_8 : decode cX5_isThing 8 = .ok (.invokestatic 235, 3) := by decide +kernel
theorem dX5_isThing_11 : decode cX5_isThing 11 = .ok (.ifCond .eq 16, 3) := by decide +kernel
theorem dX5_isThing_14 : decode cX5_isThing 14 = .ok (.iload_n 2, 1) := by decide +kernel
theorem dX5_isThing_15 : decode cX5_isThing 15 = .ok (.ifCond .lt 12, 3) := by decide +kernel
theorem dX5_isThing_18 : decode cX5_isThing 18 = .ok (.iload_n 2, 1) := by decide +kernel
theorem dX5_isThing_19 : decode cX5_isThing 19 = .ok (.iconst 2, 1) := by decide +kernel
theorem dX5_isThing_20 : decode cX5_isThing 20 = .ok (.if_icmp .gt 7, 3) := by decide +kernel
theorem dX5_isThing_23 : decode cX5_isThing 23 = .ok (.iconst 1, 1) := by decide +kernel
theorem dX5_isThing_24 : decode cX5_isThing 24 = .ok (.goto 4, 3) := by decide +kernel
theorem dX5_isThing_27 : decode cX5_isThing 27 = .ok (.iconst 0, 1) := by decide +kernel
theorem dX5_isThing_28 : decode cX5_isThing 28 = .ok (.ireturn, 1) := by decide +kernel
theorem dX5_isValue_0 : decode cX5_isValue 0 = .ok (.iload_n 0, 1) := by decide +kernel
theorem dX5_isValue_1 : decode cX5_isValue 1 = .ok (.ifCond .lt 14, 3) := by decide +kernel
theorem dX5_isValue_4 : decode cX5_isValue 4 = .ok (.iload_n 0, 1) := by decide +kernel
theorem dX5_isValue_5 : decode cX5_isValue 5 = .ok (.sipush 999, 3) := by decide +kernel
theorem dX5_isValue_8 : decode cX5_isValue 8 = .ok (.if_icmp .gt 7, 3) := by decide +kernel
theorem dX5_isValue_11 : decode cX5_isValue 11 = .ok (.iconst 1, 1) := by decide +kernel
theorem dX5_isValue_12 : decode cX5_isValue 12 = .ok (.goto 4, 3) := by decide +kernel
theorem dX5_isValue_15 : decode cX5_isValue 15 = .ok (.iconst 0, 1) := by decide +kernel
theorem dX5_isValue_16 : decode cX5_isValue 16 = .ok (.ireturn, 1) := by decide +kernel
theorem dX5_isSize_0 : decode cX5_isSize 0 = .ok (.iload_n 0, 1) := by decide +kernel
theorem dX5_isSize_1 : decode cX5_isSize 1 = .ok (.iconst 1, 1) := by decide +kernel
theorem dX5_isSize_2 : decode cX5_isSize 2 = .ok (.if_icmp .lt 12, 3) := by decide +kernel
theorem dX5_isSize_5 : decode cX5_isSize 5 = .ok (.iload_n 0, 1) := by decide +kernel
theorem dX5_isSize_6 : decode cX5_isSize 6 = .ok (.iconst 4, 1) := by decide +kernel
theorem dX5_isSize_7 : decode cX5_isSize 7 = .ok (.if_icmp .gt 7, 3) := by decide +kernel
theorem dX5_isSize_10 : decode cX5_isSize 10 = .ok (.iconst 1, 1) := by decide +kernel
theorem dX5_isSize_11 : decode cX5_isSize 11 = .ok (.goto 4, 3) := by decide +kernel
theorem dX5_isSize_14 : decode cX5_isSize 14 = .ok (.iconst 0, 1) := by decide +kernel
theorem dX5_isSize_15 : decode cX5_isSize 15 = .ok (.ireturn, 1) := by decide +kernel
theorem dX5_isWalker_0 : decode cX5_isWalker 0 = .ok (.iload_n 0, 1) := by decide +kernel
theorem dX5_isWalker_1 : decode cX5_isWalker 1 = .ok (.ifCond .lt 12, 3) := by decide +kernel
theorem dX5_isWalker_4 : decode cX5_isWalker 4 = .ok (.iload_n 0, 1) := by decide +kernel
theorem dX5_isWalker_5 : decode cX5_isWalker 5 = .ok (.iconst 4, 1) := by decide +kernel
theorem dX5_isWalker_6 : decode cX5_isWalker 6 = .ok (.if_icmp .ge 7, 3) := by decide +kernel
theorem dX5_isWalker_9 : decode cX5_isWalker 9 = .ok (.iconst 1, 1) := by decide +kernel
theorem dX5_isWalker_10 : decode cX5_isWalker 10 = .ok (.goto 4, 3) := by decide +kernel
theorem dX5_isWalker_13 : decode cX5_isWalker 13 = .ok (.iconst 0, 1) := by decide +kernel
theorem dX5_isWalker_14 : decode cX5_isWalker 14 = .ok (.ireturn, 1) := by decide +kernel
theorem dJ9_max_7cf53_0 : decode cJ9_max_7cf53 0 = .ok (.iload_n 0, 1) := by decide +kernel
theorem dJ9_max_7cf53_1 : decode cJ9_max_7cf53 1 = .ok (.iload_n 1, 1) := by decide +kernel
theorem dJ9_max_7cf53_2 : decode cJ9_max_7cf53 2 = .ok (.if_icmp .lt 7, 3) := by decide +kernel
theorem dJ9_max_7cf53_5 : decode cJ9_max_7cf53 5 = .ok (.iload_n 0, 1) := by decide +kernel
theorem dJ9_max_7cf53_6 : decode cJ9_max_7cf53 6 = .ok (.goto 4, 3) := by decide +kernel
theorem dJ9_max_7cf53_9 : decode cJ9_max_7cf53 9 = .ok (.iload_n 1, 1) := by decide +kernel
theorem dJ9_max_7cf53_10 : decode cJ9_max_7cf53 10 = .ok (.ireturn, 1) := by decide +kernel
theorem dL_part_0 : decode cL_part 0 = .ok (.iload_n 0, 1) := by decide +kernel
theorem dL_part_1 : decode cL_part 1 = .ok (.ldc 7, 2) := by decide +kernel
theorem dL_part_3 : decode cL_part 3 = .ok (.iand, 1) := by decide +kernel
theorem dL_part_4 : decode cL_part 4 = .ok (.iload_n 1, 1) := by decide +kernel
theorem dL_part_5 : decode cL_part 5 = .ok (.irem, 1) := by decide +kernel
theorem dL_part_6 : decode cL_part 6 = .ok (.ireturn, 1) := by decide +kernel
theorem dL_drawn_0 : decode cL_drawn 0 = .ok (.aload_n 0, 1) := by decide +kernel
theorem dL_drawn_1 : decode cL_drawn 1 = .ok (.arraylength, 1) := by decide +kernel
theorem dL_drawn_2 : decode cL_drawn 2 = .ok (.ifCond .ne 13, 3) := by decide +kernel
theorem dL_drawn_5 : decode cL_drawn 5 = .ok (.sipush 7919, 3) := by decide +kernel
theorem dL_drawn_8 : decode cL_drawn 8 = .ok (.iload_n 1, 1) := by decide +kernel
theorem dL_drawn_9 : decode cL_drawn 9 = .ok (.imul, 1) := by decide +kernel
theorem dL_drawn_10 : decode cL_drawn 10 = .ok (.iconst 3, 1) := by decide +kernel
theorem dL_drawn_11 : decode cL_drawn 11 = .ok (.iadd, 1) := by decide +kernel
theorem dL_drawn_12 : decode cL_drawn 12 = .ok (.goto 27, 3) := by decide +kernel
theorem dL_drawn_15 : decode cL_drawn 15 = .ok (.aload_n 0, 1) := by decide +kernel
theorem dL_drawn_16 : decode cL_drawn 16 = .ok (.iload_n 1, 1) := by decide +kernel
theorem dL_drawn_17 : decode cL_drawn 17 = .ok (.aload_n 0, 1) := by decide +kernel
theorem dL_drawn_18 : decode cL_drawn 18 = .ok (.arraylength, 1) := by decide +kernel
theorem dL_drawn_19 : decode cL_drawn 19 = .ok (.irem, 1) := by decide +kernel
theorem dL_drawn_20 : decode cL_drawn 20 = .ok (.iaload, 1) := by decide +kernel
theorem dL_drawn_21 : decode cL_drawn 21 = .ok (.iload_n 1, 1) := by decide +kernel
theorem dL_drawn_22 : decode cL_drawn 22 = .ok (.bipush 7, 2) := by decide +kernel
theorem dL_drawn_24 : decode cL_drawn 24 = .ok (.irem, 1) := by decide +kernel
theorem dL_drawn_25 : decode cL_drawn 25 = .ok (.ishr, 1) := by decide +kernel
theorem dL_drawn_26 : decode cL_drawn 26 = .ok (.iload_n 1, 1) := by decide +kernel
theorem dL_drawn_27 : decode cL_drawn 27 = .ok (.aload_n 0, 1) := by decide +kernel
theorem dL_drawn_28 : decode cL_drawn 28 = .ok (.arraylength, 1) := by decide +kernel
theorem dL_drawn_29 : decode cL_drawn 29 = .ok (.idiv, 1) := by decide +kernel
theorem dL_drawn_30 : decode cL_drawn 30 = .ok (.bipush 31, 2) := by decide +kernel
theorem dL_drawn_32 : decode cL_drawn 32 = .ok (.imul, 1) := by decide +kernel
theorem dL_drawn_33 : decode cL_drawn 33 = .ok (.ixor, 1) := by decide +kernel
theorem dL_drawn_34 : decode cL_drawn 34 = .ok (.iload_n 1, 1) := by decide +kernel
theorem dL_drawn_35 : decode cL_drawn 35 = .ok (.ldc 8, 2) := by decide +kernel
theorem dL_drawn_37 : decode cL_drawn 37 = .ok (.imul, 1) := by decide +kernel
theorem dL_drawn_38 : decode cL_drawn 38 = .ok (.ixor, 1) := by decide +kernel
theorem dL_drawn_39 : decode cL_drawn 39 = .ok (.ireturn, 1) := by decide +kernel
theorem dL_call_0 : decode cL_call 0 = .ok (.iload_n 1, 1) := by decide +kernel
theorem dL_call_1 : decode cL_call 1 = .ok (.ifCond .ne 14, 3) := by decide +kernel
theorem dL_call_4 : decode cL_call 4 = .ok (.aload_n 0, 1) := by decide +kernel
theorem dL_call_5 : decode cL_call 5 = .ok (.iload_n 2, 1) := by decide +kernel
theorem dL_call_6 : decode cL_call 6 = .ok (.iload_n 3, 1) := by decide +kernel
theorem dL_call_7 : decode cL_call 7 = .ok (.iload 4, 2) := by decide +kernel
theorem dL_call_9 : decode cL_call 9 = .ok (.invokevirtual 9, 3) := by decide +kernel
theorem dL_call_12 : decode cL_call 12 = .ok (.goto 257, 3) := by decide +kernel
theorem dL_call_15 : decode cL_call 15 = .ok (.iload_n 1, 1) := by decide +kernel
theorem dL_call_16 : decode cL_call 16 = .ok (.iconst 1, 1) := by decide +kernel
theorem dL_call_17 : decode cL_call 17 = .ok (.if_icmp .ne 15, 3) := by decide +kernel
theorem dL_call_20 : decode cL_call 20 = .ok (.aload_n 0, 1) := by decide +kernel
theorem dL_call_21 : decode cL_call 21 = .ok (.iload_n 2, 1) := by decide +kernel
theorem dL_call_22 : decode cL_call 22 = .ok (.iconst 5, 1) := by decide +kernel
theorem dL_call_23 : decode cL_call 23 = .ok (.iload_n 3, 1) := by decide +kernel
theorem dL_call_24 : decode cL_call 24 = .ok (.iload 4, 2) := by decide +kernel
theorem dL_call_26 : decode cL_call 26 = .ok (.invokevirtual 15, 3) := by decide +kernel
theorem dL_call_29 : decode cL_call 29 = .ok (.goto 240, 3) := by decide +kernel
theorem dL_call_32 : decode cL_call 32 = .ok (.iload_n 1, 1) := by decide +kernel
theorem dL_call_33 : decode cL_call 33 = .ok (.iconst 2, 1) := by decide +kernel
theorem dL_call_34 : decode cL_call 34 = .ok (.if_icmp .ne 11, 3) := by decide +kernel
theorem dL_call_37 : decode cL_call 37 = .ok (.aload_n 0, 1) := by decide +kernel
theorem dL_call_38 : decode cL_call 38 = .ok (.iload_n 2, 1) := by decide +kernel
theorem dL_call_39 : decode cL_call 39 = .ok (.invokevirtual 19, 3) := by decide +kernel
theorem dL_call_42 : decode cL_call 42 = .ok (.goto 227, 3) := by decide +kernel
theorem dL_call_45 : decode cL_call 45 = .ok (.iload_n 1, 1) := by decide +kernel
theorem dL_call_46 : decode cL_call 46 = .ok (.iconst 3, 1) := by decide +kernel
theorem dL_call_47 : decode cL_call 47 = .ok (.if_icmp .ne 12, 3) := by decide +kernel
theorem dL_call_50 : decode cL_call 50 = .ok (.aload_n 0, 1) := by decide +kernel
theorem dL_call_51 : decode cL_call 51 = .ok (.iload_n 2, 1) := by decide +kernel
theorem dL_call_52 : decode cL_call 52 = .ok (.iload_n 3, 1) := by decide +kernel
theorem dL_call_53 : decode cL_call 53 = .ok (.invokevirtual 23, 3) := by decide +kernel
theorem dL_call_56 : decode cL_call 56 = .ok (.goto 213, 3) := by decide +kernel
theorem dL_call_59 : decode cL_call 59 = .ok (.iload_n 1, 1) := by decide +kernel
theorem dL_call_60 : decode cL_call 60 = .ok (.iconst 4, 1) := by decide +kernel
theorem dL_call_61 : decode cL_call 61 = .ok (.if_icmp .ne 11, 3) := by decide +kernel
theorem dL_call_64 : decode cL_call 64 = .ok (.aload_n 0, 1) := by decide +kernel
theorem dL_call_65 : decode cL_call 65 = .ok (.iload_n 2, 1) := by decide +kernel
theorem dL_call_66 : decode cL_call 66 = .ok (.invokevirtual 27, 3) := by decide +kernel
theorem dL_call_69 : decode cL_call 69 = .ok (.goto 200, 3) := by decide +kernel
theorem dL_call_72 : decode cL_call 72 = .ok (.iload_n 1, 1) := by decide +kernel
theorem dL_call_73 : decode cL_call 73 = .ok (.iconst 5, 1) := by decide +kernel
theorem dL_call_74 : decode cL_call 74 = .ok (.if_icmp .ne 11, 3) := by decide +kernel
theorem dL_call_77 : decode cL_call 77 = .ok (.aload_n 0, 1) := by decide +kernel
theorem dL_call_78 : decode cL_call 78 = .ok (.iload_n 2, 1) := by decide +kernel
theorem dL_call_79 : decode cL_call 79 = .ok (.invokevirtual 30, 3) := by decide +kernel
theorem dL_call_82 : decode cL_call 82 = .ok (.goto 187, 3) := by decide +kernel
theorem dL_call_85 : decode cL_call 85 = .ok (.iload_n 1, 1) := by decide +kernel
theorem dL_call_86 : decode cL_call 86 = .ok (.bipush 6, 2) := by decide +kernel
theorem dL_call_88 : decode cL_call 88 = .ok (.if_icmp .ne 11, 3) := by decide +kernel
theorem dL_call_91 : decode cL_call 91 = .ok (.aload_n 0, 1) := by decide +kernel
theorem dL_call_92 : decode cL_call 92 = .ok (.iload_n 2, 1) := by decide +kernel
theorem dL_call_93 : decode cL_call 93 = .ok (.invokevirtual 33, 3) := by decide +kernel
theorem dL_call_96 : decode cL_call 96 = .ok (.goto 173, 3) := by decide +kernel
theorem dL_call_99 : decode cL_call 99 = .ok (.iload_n 1, 1) := by decide +kernel
theorem dL_call_100 : decode cL_call 100 = .ok (.bipush 7, 2) := by decide +kernel
theorem dL_call_102 : decode cL_call 102 = .ok (.if_icmp .ne 11, 3) := by decide +kernel
theorem dL_call_105 : decode cL_call 105 = .ok (.aload_n 0, 1) := by decide +kernel
theorem dL_call_106 : decode cL_call 106 = .ok (.iload_n 2, 1) := by decide +kernel
theorem dL_call_107 : decode cL_call 107 = .ok (.invokevirtual 36, 3) := by decide +kernel
theorem dL_call_110 : decode cL_call 110 = .ok (.goto 159, 3) := by decide +kernel
theorem dL_call_113 : decode cL_call 113 = .ok (.iload_n 1, 1) := by decide +kernel
theorem dL_call_114 : decode cL_call 114 = .ok (.bipush 8, 2) := by decide +kernel
theorem dL_call_116 : decode cL_call 116 = .ok (.if_icmp .ne 10, 3) := by decide +kernel
theorem dL_call_119 : decode cL_call 119 = .ok (.aload_n 0, 1) := by decide +kernel
theorem dL_call_120 : decode cL_call 120 = .ok (.invokevirtual 39, 3) := by decide +kernel
theorem dL_call_123 : decode cL_call 123 = .ok (.goto 146, 3) := by decide +kernel
theorem dL_call_126 : decode cL_call 126 = .ok (.iload_n 1, 1) := by decide +kernel
theorem dL_call_127 : decode cL_call 127 = .ok (.bipush 9, 2) := by decide +kernel
theorem dL_call_129 : decode cL_call 129 = .ok (.if_icmp .ne 10, 3) := by decide +kernel
theorem dL_call_132 : decode cL_call 132 = .ok (.aload_n 0, 1) := by decide +kernel
theorem dL_call_133 : decode cL_call 133 = .ok (.invokevirtual 43, 3) := by decide +kernel
theorem dL_call_136 : decode cL_call 136 = .ok (.goto 133, 3) := by decide +kernel
theorem dL_call_139 : decode cL_call 139 = .ok (.iload_n 1, 1) := by decide +kernel
theorem dL_call_140 : decode cL_call 140 = .ok (.bipush 10, 2) := by decide +kernel
theorem dL_call_142 : decode cL_call 142 = .ok (.if_icmp .ne 12, 3) := by decide +kernel
theorem dL_call_145 : decode cL_call 145 = .ok (.aload_n 0, 1) := by decide +kernel
theorem dL_call_146 : decode cL_call 146 = .ok (.iload_n 2, 1) := by decide +kernel
theorem dL_call_147 : decode cL_call 147 = .ok (.iload_n 3, 1) := by decide +kernel
theorem dL_call_148 : decode cL_call 148 = .ok (.invokevirtual 46, 3) := by decide +kernel
theorem dL_call_151 : decode cL_call 151 = .ok (.goto 118, 3) := by decide +kernel
theorem dL_call_154 : decode cL_call 154 = .ok (.iload_n 1, 1) := by decide +kernel
theorem dL_call_155 : decode cL_call 155 = .ok (.bipush 11, 2) := by decide +kernel
theorem dL_call_157 : decode cL_call 157 = .ok (.if_icmp .ne 11, 3) := by decide +kernel
theorem dL_call_160 : decode cL_call 160 = .ok (.aload_n 0, 1) := by decide +kernel
theorem dL_call_161 : decode cL_call 161 = .ok (.iload_n 2, 1) := by decide +kernel
theorem dL_call_162 : decode cL_call 162 = .ok (.invokevirtual 49, 3) := by decide +kernel
theorem dL_call_165 : decode cL_call 165 = .ok (.goto 104, 3) := by decide +kernel
theorem dL_call_168 : decode cL_call 168 = .ok (.iload_n 1, 1) := by decide +kernel
theorem dL_call_169 : decode cL_call 169 = .ok (.bipush 12, 2) := by decide +kernel
theorem dL_call_171 : decode cL_call 171 = .ok (.if_icmp .ne 12, 3) := by decide +kernel
theorem dL_call_174 : decode cL_call 174 = .ok (.aload_n 0, 1) := by decide +kernel
theorem dL_call_175 : decode cL_call 175 = .ok (.iload_n 2, 1) := by decide +kernel
theorem dL_call_176 : decode cL_call 176 = .ok (.iload_n 3, 1) := by decide +kernel
theorem dL_call_177 : decode cL_call 177 = .ok (.invokevirtual 52, 3) := by decide +kernel
theorem dL_call_180 : decode cL_call 180 = .ok (.goto 89, 3) := by decide +kernel
theorem dL_call_183 : decode cL_call 183 = .ok (.iload_n 1, 1) := by decide +kernel
theorem dL_call_184 : decode cL_call 184 = .ok (.bipush 13, 2) := by decide +kernel
theorem dL_call_186 : decode cL_call 186 = .ok (.if_icmp .ne 12, 3) := by decide +kernel
theorem dL_call_189 : decode cL_call 189 = .ok (.aload_n 0, 1) := by decide +kernel
theorem dL_call_190 : decode cL_call 190 = .ok (.iload_n 2, 1) := by decide +kernel
theorem dL_call_191 : decode cL_call 191 = .ok (.iload_n 3, 1) := by decide +kernel
theorem dL_call_192 : decode cL_call 192 = .ok (.invokevirtual 55, 3) := by decide +kernel
theorem dL_call_195 : decode cL_call 195 = .ok (.goto 74, 3) := by decide +kernel
theorem dL_call_198 : decode cL_call 198 = .ok (.iload_n 1, 1) := by decide +kernel
theorem dL_call_199 : decode cL_call 199 = .ok (.bipush 14, 2) := by decide +kernel
theorem dL_call_201 : decode cL_call 201 = .ok (.if_icmp .ne 11, 3) := by decide +kernel
theorem dL_call_204 : decode cL_call 204 = .ok (.aload_n 0, 1) := by decide +kernel
theorem dL_call_205 : decode cL_call 205 = .ok (.iload_n 2, 1) := by decide +kernel
theorem dL_call_206 : decode cL_call 206 = .ok (.invokevirtual 58, 3) := by decide +kernel
theorem dL_call_209 : decode cL_call 209 = .ok (.goto 60, 3) := by decide +kernel
theorem dL_call_212 : decode cL_call 212 = .ok (.iload_n 1, 1) := by decide +kernel
theorem dL_call_213 : decode cL_call 213 = .ok (.bipush 15, 2) := by decide +kernel
theorem dL_call_215 : decode cL_call 215 = .ok (.if_icmp .ne 11, 3) := by decide +kernel
theorem dL_call_218 : decode cL_call 218 = .ok (.aload_n 0, 1) := by decide +kernel
theorem dL_call_219 : decode cL_call 219 = .ok (.iload_n 2, 1) := by decide +kernel
theorem dL_call_220 : decode cL_call 220 = .ok (.invokevirtual 61, 3) := by decide +kernel
theorem dL_call_223 : decode cL_call 223 = .ok (.goto 46, 3) := by decide +kernel
theorem dL_call_226 : decode cL_call 226 = .ok (.iload_n 1, 1) := by decide +kernel
theorem dL_call_227 : decode cL_call 227 = .ok (.bipush 16, 2) := by decide +kernel
theorem dL_call_229 : decode cL_call 229 = .ok (.if_icmp .ne 11, 3) := by decide +kernel
theorem dL_call_232 : decode cL_call 232 = .ok (.aload_n 0, 1) := by decide +kernel
theorem dL_call_233 : decode cL_call 233 = .ok (.iload_n 2, 1) := by decide +kernel
theorem dL_call_234 : decode cL_call 234 = .ok (.invokevirtual 64, 3) := by decide +kernel
theorem dL_call_237 : decode cL_call 237 = .ok (.goto 32, 3) := by decide +kernel
theorem dL_call_240 : decode cL_call 240 = .ok (.iload_n 1, 1) := by decide +kernel
theorem dL_call_241 : decode cL_call 241 = .ok (.bipush 17, 2) := by decide +kernel
theorem dL_call_243 : decode cL_call 243 = .ok (.if_icmp .ne 12, 3) := by decide +kernel
theorem dL_call_246 : decode cL_call 246 = .ok (.aload_n 0, 1) := by decide +kernel
theorem dL_call_247 : decode cL_call 247 = .ok (.iload_n 2, 1) := by decide +kernel
theorem dL_call_248 : decode cL_call 248 = .ok (.iload_n 3, 1) := by decide +kernel
theorem dL_call_249 : decode cL_call 249 = .ok (.invokevirtual 67, 3) := by decide +kernel
theorem dL_call_252 : decode cL_call 252 = .ok (.goto 17, 3) := by decide +kernel
theorem dL_call_255 : decode cL_call 255 = .ok (.aload_n 0, 1) := by decide +kernel
theorem dL_call_256 : decode cL_call 256 = .ok (.iload_n 2, 1) := by decide +kernel
theorem dL_call_257 : decode cL_call 257 = .ok (.iload_n 3, 1) := by decide +kernel
theorem dL_call_258 : decode cL_call 258 = .ok (.ifCond .le 7, 3) := by decide +kernel
theorem dL_call_261 : decode cL_call 261 = .ok (.iconst 1, 1) := by decide +kernel
theorem dL_call_262 : decode cL_call 262 = .ok (.goto 4, 3) := by decide +kernel
theorem dL_call_265 : decode cL_call 265 = .ok (.iconst 0, 1) := by decide +kernel
theorem dL_call_266 : decode cL_call 266 = .ok (.invokevirtual 70, 3) := by decide +kernel
theorem dL_call_269 : decode cL_call 269 = .ok (.ireturn, 1) := by decide +kernel
theorem dL_call_270 : decode cL_call 270 = .ok (.astore 5, 2) := by decide +kernel
theorem dL_call_272 : decode cL_call 272 = .ok (.bipush (-11), 2) := by decide +kernel
theorem dL_call_274 : decode cL_call 274 = .ok (.ireturn, 1) := by decide +kernel
theorem dL_call_275 : decode cL_call 275 = .ok (.astore 5, 2) := by decide +kernel
theorem dL_call_277 : decode cL_call 277 = .ok (.bipush (-12), 2) := by decide +kernel
theorem dL_call_279 : decode cL_call 279 = .ok (.ireturn, 1) := by decide +kernel
theorem dL_call_280 : decode cL_call 280 = .ok (.astore 5, 2) := by decide +kernel
theorem dL_call_282 : decode cL_call 282 = .ok (.bipush (-13), 2) := by decide +kernel
theorem dL_call_284 : decode cL_call 284 = .ok (.ireturn, 1) := by decide +kernel
theorem dL_refusesAny_0 : decode cL_refusesAny 0 = .ok (.iload_n 1, 1) := by decide +kernel
theorem dL_refusesAny_1 : decode cL_refusesAny 1 = .ok (.ifCond .ne 7, 3) := by decide +kernel
theorem dL_refusesAny_4 : decode cL_refusesAny 4 = .ok (.iconst (-1), 1) := by decide +kernel
theorem dL_refusesAny_5 : decode cL_refusesAny 5 = .ok (.goto 12, 3) := by decide +kernel
theorem dL_refusesAny_8 : decode cL_refusesAny 8 = .ok (.sipush 1000, 3) := by decide +kernel
theorem dL_refusesAny_11 : decode cL_refusesAny 11 = .ok (.aload_n 0, 1) := by decide +kernel
theorem dL_refusesAny_12 : decode cL_refusesAny 12 = .ok (.iconst 2, 1) := by decide +kernel
theorem dL_refusesAny_13 : decode cL_refusesAny 13 = .ok (.invokevirtual 58, 3) := by decide +kernel
theorem dL_refusesAny_16 : decode cL_refusesAny 16 = .ok (.imul, 1) := by decide +kernel
theorem dL_refusesAny_17 : decode cL_refusesAny 17 = .ok (.istore_n 2, 1) := by decide +kernel
theorem dL_refusesAny_18 : decode cL_refusesAny 18 = .ok (.iload_n 1, 1) := by decide +kernel
theorem dL_refusesAny_19 : decode cL_refusesAny 19 = .ok (.ifCond .ne 7, 3) := by decide +kernel
theorem dL_refusesAny_22 : decode cL_refusesAny 22 = .ok (.iconst (-1), 1) := by decide +kernel
theorem dL_refusesAny_23 : decode cL_refusesAny 23 = .ok (.goto 4, 3) := by decide +kernel
theorem dL_refusesAny_26 : decode cL_refusesAny 26 = .ok (.iconst 4, 1) := by decide +kernel
theorem dL_refusesAny_27 : decode cL_refusesAny 27 = .ok (.istore_n 3, 1) := by decide +kernel
theorem dL_refusesAny_28 : decode cL_refusesAny 28 = .ok (.iload_n 1, 1) := by decide +kernel
theorem dL_refusesAny_29 : decode cL_refusesAny 29 = .ok (.ifCond .ne 7, 3) := by decide +kernel
theorem dL_refusesAny_32 : decode cL_refusesAny 32 = .ok (.iconst 0, 1) := by decide +kernel
theorem dL_refusesAny_33 : decode cL_refusesAny 33 = .ok (.goto 4, 3) := by decide +kernel
theorem dL_refusesAny_36 : decode cL_refusesAny 36 = .ok (.iconst 5, 1) := by decide +kernel
theorem dL_refusesAny_37 : decode cL_refusesAny 37 = .ok (.istore 4, 2) := by decide +kernel
theorem dL_refusesAny_39 : decode cL_refusesAny 39 = .ok (.iload_n 1, 1) := by decide +kernel
theorem dL_refusesAny_40 : decode cL_refusesAny 40 = .ok (.ifCond .ne 7, 3) := by decide +kernel
theorem dL_refusesAny_43 : decode cL_refusesAny 43 = .ok (.iconst (-1), 1) := by decide +kernel
theorem dL_refusesAny_44 : decode cL_refusesAny 44 = .ok (.goto 6, 3) := by decide +kernel
theorem dL_refusesAny_47 : decode cL_refusesAny 47 = .ok (.sipush 1000, 3) := by decide +kernel
theorem dL_refusesAny_50 : decode cL_refusesAny 50 = .ok (.istore 5, 2) := by decide +kernel
theorem dL_refusesAny_52 : decode cL_refusesAny 52 = .ok (.aload_n 0, 1) := by decide +kernel
theorem dL_refusesAny_53 : decode cL_refusesAny 53 = .ok (.iconst 0, 1) := by decide +kernel
theorem dL_refusesAny_54 : decode cL_refusesAny 54 = .ok (.iload 5, 2) := by decide +kernel
theorem dL_refusesAny_56 : decode cL_refusesAny 56 = .ok (.iconst 1, 1) := by decide +kernel
theorem dL_refusesAny_57 : decode cL_refusesAny 57 = .ok (.iconst 0, 1) := by decide +kernel
theorem dL_refusesAny_58 : decode cL_refusesAny 58 = .ok (.invokestatic 80, 3) := by decide +kernel
theorem dL_refusesAny_61 : decode cL_refusesAny 61 = .ok (.bipush (-12), 2) := by decide +kernel
theorem dL_refusesAny_63 : decode cL_refusesAny 63 = .ok (.if_icmp .ne 237, 3) := by decide +kernel
theorem dL_refusesAny_66 : decode cL_refusesAny 66 = .ok (.aload_n 0, 1) := by decide +kernel
theorem dL_refusesAny_67 : decode cL_refusesAny 67 = .ok (.iconst 0, 1) := by decide +kernel
theorem dL_refusesAny_68 : decode cL_refusesAny 68 = .ok (.iconst 1, 1) := by decide +kernel
theorem dL_refusesAny_69 : decode cL_refusesAny 69 = .ok (.iload 4, 2) := by decide +kernel
theorem dL_refusesAny_71 : decode cL_refusesAny 71 = .ok (.iconst 0, 1) := by decide +kernel
theorem dL_refusesAny_72 : decode cL_refusesAny 72 = .ok (.invokestatic 80, 3) := by decide +kernel
theorem dL_refusesAny_75 : decode cL_refusesAny 75 = .ok (.bipush (-12), 2) := by decide +kernel
theorem dL_refusesAny_77 : decode cL_refusesAny 77 = .ok (.if_icmp .ne 223, 3) := by decide +kernel
theorem dL_refusesAny_80 : decode cL_refusesAny 80 = .ok (.aload_n 0, 1) := by decide +kernel
theorem dL_refusesAny_81 : decode cL_refusesAny 81 = .ok (.iconst 0, 1) := by decide +kernel
theorem dL_refusesAny_82 : decode cL_refusesAny 82 = .ok (.iconst 1, 1) := by decide +kernel
theorem dL_refusesAny_83 : decode cL_refusesAny 83 = .ok (.iconst 1, 1) := by decide +kernel
theorem dL_refusesAny_84 : decode cL_refusesAny 84 = .ok (.iload_n 1, 1) := by decide +kernel
theorem dL_refusesAny_85 : decode cL_refusesAny 85 = .ok (.ifCond .ne 7, 3) := by decide +kernel
theorem dL_refusesAny_88 : decode cL_refusesAny 88 = .ok (.iconst (-1), 1) := by decide +kernel
theorem dL_refusesAny_89 : decode cL_refusesAny 89 = .ok (.goto 4, 3) := by decide +kernel
theorem dL_refusesAny_92 : decode cL_refusesAny 92 = .ok (.iconst 3, 1) := by decide +kernel
theorem dL_refusesAny_93 : decode cL_refusesAny 93 = .ok (.invokestatic 80, 3) := by decide +kernel
theorem dL_refusesAny_96 : decode cL_refusesAny 96 = .ok (.bipush (-12), 2) := by decide +kernel
theorem dL_refusesAny_98 : decode cL_refusesAny 98 = .ok (.if_icmp .ne 202, 3) := by decide +kernel
theorem dL_refusesAny_101 : decode cL_refusesAny 101 = .ok (.aload_n 0, 1) := by decide +kernel
theorem dL_refusesAny_102 : decode cL_refusesAny 102 = .ok (.iconst 1, 1) := by decide +kernel
theorem dL_refusesAny_103 : decode cL_refusesAny 103 = .ok (.iload_n 2, 1) := by decide +kernel
theorem dL_refusesAny_104 : decode cL_refusesAny 104 = .ok (.bipush 9, 2) := by decide +kernel
theorem dL_refusesAny_106 : decode cL_refusesAny 106 = .ok (.bipush 9, 2) := by decide +kernel
theorem dL_refusesAny_108 : decode cL_refusesAny 108 = .ok (.invokestatic 80, 3) := by decide +kernel
theorem dL_refusesAny_111 : decode cL_refusesAny 111 = .ok (.bipush (-11), 2) := by decide +kernel
theorem dL_refusesAny_113 : decode cL_refusesAny 113 = .ok (.if_icmp .ne 187, 3) := by decide +kernel
theorem dL_refusesAny_116 : decode cL_refusesAny 116 = .ok (.aload_n 0, 1) := by decide +kernel
theorem dL_refusesAny_117 : decode cL_refusesAny 117 = .ok (.iconst 2, 1) := by decide +kernel
theorem dL_refusesAny_118 : decode cL_refusesAny 118 = .ok (.iload_n 2, 1) := by decide +kernel
theorem dL_refusesAny_119 : decode cL_refusesAny 119 = .ok (.iconst 0, 1) := by decide +kernel
theorem dL_refusesAny_120 : decode cL_refusesAny 120 = .ok (.iconst 0, 1) := by decide +kernel
theorem dL_refusesAny_121 : decode cL_refusesAny 121 = .ok (.invokestatic 80, 3) := by decide +kernel
theorem dL_refusesAny_124 : decode cL_refusesAny 124 = .ok (.bipush (-11), 2) := by decide +kernel
theorem dL_refusesAny_126 : decode cL_refusesAny 126 = .ok (.if_icmp .ne 174, 3) := by decide +kernel
theorem dL_refusesAny_129 : decode cL_refusesAny 129 = .ok (.aload_n 0, 1) := by decide +kernel
theorem dL_refusesAny_130 : decode cL_refusesAny 130 = .ok (.iconst 3, 1) := by decide +kernel
theorem dL_refusesAny_131 : decode cL_refusesAny 131 = .ok (.iload_n 2, 1) := by decide +kernel
theorem dL_refusesAny_132 : decode cL_refusesAny 132 = .ok (.iconst (-1), 1) := by decide +kernel
theorem dL_refusesAny_133 : decode cL_refusesAny 133 = .ok (.iconst 0, 1) := by decide +kernel
theorem dL_refusesAny_134 : decode cL_refusesAny 134 = .ok (.invokestatic 80, 3) := by decide +kernel
theorem dL_refusesAny_137 : decode cL_refusesAny 137 = .ok (.bipush (-11), 2) := by decide +kernel
theorem dL_refusesAny_139 : decode cL_refusesAny 139 = .ok (.if_icmp .ne 161, 3) := by decide +kernel
theorem dL_refusesAny_142 : decode cL_refusesAny 142 = .ok (.aload_n 0, 1) := by decide +kernel
theorem dL_refusesAny_143 : decode cL_refusesAny 143 = .ok (.iconst 4, 1) := by decide +kernel
theorem dL_refusesAny_144 : decode cL_refusesAny 144 = .ok (.iload_n 3, 1) := by decide +kernel
theorem dL_refusesAny_145 : decode cL_refusesAny 145 = .ok (.iconst 0, 1) := by decide +kernel
theorem dL_refusesAny_146 : decode cL_refusesAny 146 = .ok (.iconst 0, 1) := by decide +kernel
theorem dL_refusesAny_147 : decode cL_refusesAny 147 = .ok (.invokestatic 80, 3) := by decide +kernel
theorem dL_refusesAny_150 : decode cL_refusesAny 150 = .ok (.bipush (-11), 2) := by decide +kernel
theorem dL_refusesAny_152 : decode cL_refusesAny 152 = .ok (.if_icmp .ne 148, 3) := by decide +kernel
theorem dL_refusesAny_155 : decode cL_refusesAny 155 = .ok (.aload_n 0, 1) := by decide +kernel
theorem dL_refusesAny_156 : decode cL_refusesAny 156 = .ok (.iconst 5, 1) := by decide +kernel
theorem dL_refusesAny_157 : decode cL_refusesAny 157 = .ok (.iload_n 3, 1) := by decide +kernel
theorem dL_refusesAny_158 : decode cL_refusesAny 158 = .ok (.iconst 0, 1) := by decide +kernel
theorem dL_refusesAny_159 : decode cL_refusesAny 159 = .ok (.iconst 0, 1) := by decide +kernel
theorem dL_refusesAny_160 : decode cL_refusesAny 160 = .ok (.invokestatic 80, 3) := by decide +kernel
theorem dL_refusesAny_163 : decode cL_refusesAny 163 = .ok (.bipush (-11), 2) := by decide +kernel
theorem dL_refusesAny_165 : decode cL_refusesAny 165 = .ok (.if_icmp .ne 135, 3) := by decide +kernel
theorem dL_refusesAny_168 : decode cL_refusesAny 168 = .ok (.aload_n 0, 1) := by decide +kernel
theorem dL_refusesAny_169 : decode cL_refusesAny 169 = .ok (.bipush 6, 2) := by decide +kernel
theorem dL_refusesAny_171 : decode cL_refusesAny 171 = .ok (.iload_n 3, 1) := by decide +kernel
theorem dL_refusesAny_172 : decode cL_refusesAny 172 = .ok (.iconst 0, 1) := by decide +kernel
theorem dL_refusesAny_173 : decode cL_refusesAny 173 = .ok (.iconst 0, 1) := by decide +kernel
theorem dL_refusesAny_174 : decode cL_refusesAny 174 = .ok (.invokestatic 80, 3) := by decide +kernel
theorem dL_refusesAny_177 : decode cL_refusesAny 177 = .ok (.bipush (-11), 2) := by decide +kernel
theorem dL_refusesAny_179 : decode cL_refusesAny 179 = .ok (.if_icmp .ne 121, 3) := by decide +kernel
theorem dL_refusesAny_182 : decode cL_refusesAny 182 = .ok (.aload_n 0, 1) := by decide +kernel
theorem dL_refusesAny_183 : decode cL_refusesAny 183 = .ok (.bipush 7, 2) := by decide +kernel
theorem dL_refusesAny_185 : decode cL_refusesAny 185 = .ok (.iload_n 1, 1) := by decide +kernel
theorem dL_refusesAny_186 : decode cL_refusesAny 186 = .ok (.ifCond .ne 8, 3) := by decide +kernel
theorem dL_refusesAny_189 : decode cL_refusesAny 189 = .ok (.bipush 32, 2) := by decide +kernel
theorem dL_refusesAny_191 : decode cL_refusesAny 191 = .ok (.goto 5, 3) := by decide +kernel
theorem dL_refusesAny_194 : decode cL_refusesAny 194 = .ok (.bipush 127, 2) := by decide +kernel
theorem dL_refusesAny_196 : decode cL_refusesAny 196 = .ok (.iconst 0, 1) := by decide +kernel
theorem dL_refusesAny_197 : decode cL_refusesAny 197 = .ok (.iconst 0, 1) := by decide +kernel
theorem dL_refusesAny_198 : decode cL_refusesAny 198 = .ok (.invokestatic 80, 3) := by decide +kernel
theorem dL_refusesAny_201 : decode cL_refusesAny 201 = .ok (.bipush (-12), 2) := by decide +kernel
theorem dL_refusesAny_203 : decode cL_refusesAny 203 = .ok (.if_icmp .ne 97, 3) := by decide +kernel
theorem dL_refusesAny_206 : decode cL_refusesAny 206 = .ok (.aload_n 0, 1) := by decide +kernel
theorem dL_refusesAny_207 : decode cL_refusesAny 207 = .ok (.bipush 8, 2) := by decide +kernel
theorem dL_refusesAny_209 : decode cL_refusesAny 209 = .ok (.iconst 0, 1) := by decide +kernel
theorem dL_refusesAny_210 : decode cL_refusesAny 210 = .ok (.iconst 0, 1) := by decide +kernel
theorem dL_refusesAny_211 : decode cL_refusesAny 211 = .ok (.iconst 0, 1) := by decide +kernel
theorem dL_refusesAny_212 : decode cL_refusesAny 212 = .ok (.invokestatic 80, 3) := by decide +kernel
theorem dL_refusesAny_215 : decode cL_refusesAny 215 = .ok (.bipush (-12), 2) := by decide +kernel
theorem dL_refusesAny_217 : decode cL_refusesAny 217 = .ok (.if_icmp .ne 83, 3) := by decide +kernel
theorem dL_refusesAny_220 : decode cL_refusesAny 220 = .ok (.aload_n 0, 1) := by decide +kernel
theorem dL_refusesAny_221 : decode cL_refusesAny 221 = .ok (.bipush 10, 2) := by decide +kernel
theorem dL_refusesAny_223 : decode cL_refusesAny 223 = .ok (.iload_n 2, 1) := by decide +kernel
theorem dL_refusesAny_224 : decode cL_refusesAny 224 = .ok (.bipush 9, 2) := by decide +kernel
theorem dL_refusesAny_226 : decode cL_refusesAny 226 = .ok (.iconst 0, 1) := by decide +kernel
theorem dL_refusesAny_227 : decode cL_refusesAny 227 = .ok (.invokestatic 80, 3) := by decide +kernel
theorem dL_refusesAny_230 : decode cL_refusesAny 230 = .ok (.bipush (-11), 2) := by decide +kernel
theorem dL_refusesAny_232 : decode cL_refusesAny 232 = .ok (.if_icmp .ne 68, 3) := by decide +kernel
theorem dL_refusesAny_235 : decode cL_refusesAny 235 = .ok (.aload_n 0, 1) := by decide +kernel
theorem dL_refusesAny_236 : decode cL_refusesAny 236 = .ok (.bipush 11, 2) := by decide +kernel
theorem dL_refusesAny_238 : decode cL_refusesAny 238 = .ok (.iconst (-1), 1) := by decide +kernel
theorem dL_refusesAny_239 : decode cL_refusesAny 239 = .ok (.iload_n 1, 1) := by decide +kernel
theorem dL_refusesAny_240 : decode cL_refusesAny 240 = .ok (.isub, 1) := by decide +kernel
theorem dL_refusesAny_241 : decode cL_refusesAny 241 = .ok (.iconst 0, 1) := by decide +kernel
theorem dL_refusesAny_242 : decode cL_refusesAny 242 = .ok (.iconst 0, 1) := by decide +kernel
theorem dL_refusesAny_243 : decode cL_refusesAny 243 = .ok (.invokestatic 80, 3) := by decide +kernel
theorem dL_refusesAny_246 : decode cL_refusesAny 246 = .ok (.bipush (-12), 2) := by decide +kernel
theorem dL_refusesAny_248 : decode cL_refusesAny 248 = .ok (.if_icmp .ne 52, 3) := by decide +kernel
theorem dL_refusesAny_251 : decode cL_refusesAny 251 = .ok (.aload_n 0, 1) := by decide +kernel
theorem dL_refusesAny_252 : decode cL_refusesAny 252 = .ok (.bipush 12, 2) := by decide +kernel
theorem dL_refusesAny_254 : decode cL_refusesAny 254 = .ok (.iload_n 1, 1) := by decide +kernel
theorem dL_refusesAny_255 : decode cL_refusesAny 255 = .ok (.ifCond .ne 7, 3) := by decide +kernel
theorem dL_refusesAny_258 : decode cL_refusesAny 258 = .ok (.iconst (-1), 1) := by decide +kernel
theorem dL_refusesAny_259 : decode cL_refusesAny 259 = .ok (.goto 8, 3) := by decide +kernel
theorem dL_refusesAny_262 : decode cL_refusesAny 262 = .ok (.aload_n 0, 1) := by decide +kernel
theorem dL_refusesAny_263 : decode cL_refusesAny 263 = .ok (.iconst 2, 1) := by decide +kernel
theorem dL_refusesAny_264 : decode cL_refusesAny 264 = .ok (.invokevirtual 58, 3) := by decide +kernel
theorem dL_refusesAny_267 : decode cL_refusesAny 267 = .ok (.bipush 9, 2) := by decide +kernel
theorem dL_refusesAny_269 : decode cL_refusesAny 269 = .ok (.iconst 0, 1) := by decide +kernel
theorem dL_refusesAny_270 : decode cL_refusesAny 270 = .ok (.invokestatic 80, 3) := by decide +kernel
theorem dL_refusesAny_273 : decode cL_refusesAny 273 = .ok (.bipush (-11), 2) := by decide +kernel
theorem dL_refusesAny_275 : decode cL_refusesAny 275 = .ok (.if_icmp .ne 25, 3) := by decide +kernel
theorem dL_refusesAny_278 : decode cL_refusesAny 278 = .ok (.aload_n 0, 1) := by decide +kernel
theorem dL_refusesAny_279 : decode cL_refusesAny 279 = .ok (.bipush 12, 2) := by decide +kernel
theorem dL_refusesAny_281 : decode cL_refusesAny 281 = .ok (.iconst 0, 1) := by decide +kernel
theorem dL_refusesAny_282 : decode cL_refusesAny 282 = .ok (.iload_n 1, 1) := by decide +kernel
theorem dL_refusesAny_283 : decode cL_refusesAny 283 = .ok (.ifCond .ne 7, 3) := by decide +kernel
theorem dL_refusesAny_286 : decode cL_refusesAny 286 = .ok (.iconst (-1), 1) := by decide +kernel
theorem dL_refusesAny_287 : decode cL_refusesAny 287 = .ok (.goto 4, 3) := by decide +kernel
theorem dL_refusesAny_290 : decode cL_refusesAny 290 = .ok (.iconst 2, 1) := by decide +kernel
theorem dL_refusesAny_291 : decode cL_refusesAny 291 = .ok (.iconst 0, 1) := by decide +kernel
theorem dL_refusesAny_292 : decode cL_refusesAny 292 = .ok (.invokestatic 80, 3) := by decide +kernel
theorem dL_refusesAny_295 : decode cL_refusesAny 295 = .ok (.bipush (-12), 2) := by decide +kernel
theorem dL_refusesAny_297 : decode cL_refusesAny 297 = .ok (.if_icmp .eq 5, 3) := by decide +kernel
theorem dL_refusesAny_300 : decode cL_refusesAny 300 = .ok (.iconst 0, 1) := by decide +kernel
theorem dL_refusesAny_301 : decode cL_refusesAny 301 = .ok (.ireturn, 1) := by decide +kernel
theorem dL_refusesAny_302 : decode cL_refusesAny 302 = .ok (.aload_n 0, 1) := by decide +kernel
theorem dL_refusesAny_303 : decode cL_refusesAny 303 = .ok (.bipush 13, 2) := by decide +kernel
theorem dL_refusesAny_305 : decode cL_refusesAny 305 = .ok (.iload_n 3, 1) := by decide +kernel
theorem dL_refusesAny_306 : decode cL_refusesAny 306 = .ok (.bipush 9, 2) := by decide +kernel
theorem dL_refusesAny_308 : decode cL_refusesAny 308 = .ok (.iconst 0, 1) := by decide +kernel
theorem dL_refusesAny_309 : decode cL_refusesAny 309 = .ok (.invokestatic 80, 3) := by decide +kernel
theorem dL_refusesAny_312 : decode cL_refusesAny 312 = .ok (.bipush (-11), 2) := by decide +kernel
theorem dL_refusesAny_314 : decode cL_refusesAny 314 = .ok (.if_icmp .ne 157, 3) := by decide +kernel
theorem dL_refusesAny_317 : decode cL_refusesAny 317 = .ok (.aload_n 0, 1) := by decide +kernel
theorem dL_refusesAny_318 : decode cL_refusesAny 318 = .ok (.bipush 13, 2) := by decide +kernel
theorem dL_refusesAny_320 : decode cL_refusesAny 320 = .ok (.iconst 0, 1) := by decide +kernel
theorem dL_refusesAny_321 : decode cL_refusesAny 321 = .ok (.iload_n 1, 1) := by decide +kernel
theorem dL_refusesAny_322 : decode cL_refusesAny 322 = .ok (.ifCond .ne 7, 3) := by decide +kernel
theorem dL_refusesAny_325 : decode cL_refusesAny 325 = .ok (.iconst (-1), 1) := by decide +kernel
theorem dL_refusesAny_326 : decode cL_refusesAny 326 = .ok (.goto 4, 3) := by decide +kernel
theorem dL_refusesAny_329 : decode cL_refusesAny 329 = .ok (.iconst 3, 1) := by decide +kernel
theorem dL_refusesAny_330 : decode cL_refusesAny 330 = .ok (.iconst 0, 1) := by decide +kernel
theorem dL_refusesAny_331 : decode cL_refusesAny 331 = .ok (.invokestatic 80, 3) := by decide +kernel
theorem dL_refusesAny_334 : decode cL_refusesAny 334 = .ok (.bipush (-12), 2) := by decide +kernel
theorem dL_refusesAny_336 : decode cL_refusesAny 336 = .ok (.if_icmp .ne 135, 3) := by decide +kernel
theorem dL_refusesAny_339 : decode cL_refusesAny 339 = .ok (.aload_n 0, 1) := by decide +kernel
theorem dL_refusesAny_340 : decode cL_refusesAny 340 = .ok (.bipush 14, 2) := by decide +kernel
theorem dL_refusesAny_342 : decode cL_refusesAny 342 = .ok (.iload_n 1, 1) := by decide +kernel
theorem dL_refusesAny_343 : decode cL_refusesAny 343 = .ok (.ifCond .ne 7, 3) := by decide +kernel
theorem dL_refusesAny_346 : decode cL_refusesAny 346 = .ok (.iconst (-1), 1) := by decide +kernel
theorem dL_refusesAny_347 : decode cL_refusesAny 347 = .ok (.goto 5, 3) := by decide +kernel
theorem dL_refusesAny_350 : decode cL_refusesAny 350 = .ok (.bipush 10, 2) := by decide +kernel
theorem dL_refusesAny_352 : decode cL_refusesAny 352 = .ok (.iconst 0, 1) := by decide +kernel
theorem dL_refusesAny_353 : decode cL_refusesAny 353 = .ok (.iconst 0, 1) := by decide +kernel
theorem dL_refusesAny_354 : decode cL_refusesAny 354 = .ok (.invokestatic 80, 3) := by decide +kernel
theorem dL_refusesAny_357 : decode cL_refusesAny 357 = .ok (.bipush (-12), 2) := by decide +kernel
theorem dL_refusesAny_359 : decode cL_refusesAny 359 = .ok (.if_icmp .ne 112, 3) := by decide +kernel
theorem dL_refusesAny_362 : decode cL_refusesAny 362 = .ok (.aload_n 0, 1) := by decide +kernel
theorem dL_refusesAny_363 : decode cL_refusesAny 363 = .ok (.bipush 15, 2) := by decide +kernel
theorem dL_refusesAny_365 : decode cL_refusesAny 365 = .ok (.iload 4, 2) := by decide +kernel
theorem dL_refusesAny_367 : decode cL_refusesAny 367 = .ok (.iconst 0, 1) := by decide +kernel
theorem dL_refusesAny_368 : decode cL_refusesAny 368 = .ok (.iconst 0, 1) := by decide +kernel
theorem dL_refusesAny_369 : decode cL_refusesAny 369 = .ok (.invokestatic 80, 3) := by decide +kernel
theorem dL_refusesAny_372 : decode cL_refusesAny 372 = .ok (.bipush (-12), 2) := by decide +kernel
theorem dL_refusesAny_374 : decode cL_refusesAny 374 = .ok (.if_icmp .ne 97, 3) := by decide +kernel
theorem dL_refusesAny_377 : decode cL_refusesAny 377 = .ok (.aload_n 0, 1) := by decide +kernel
theorem dL_refusesAny_378 : decode cL_refusesAny 378 = .ok (.bipush 16, 2) := by decide +kernel
theorem dL_refusesAny_380 : decode cL_refusesAny 380 = .ok (.iload_n 1, 1) := by decide +kernel
theorem dL_refusesAny_381 : decode cL_refusesAny 381 = .ok (.ifCond .ne 7, 3) := by decide +kernel
theorem dL_refusesAny_384 : decode cL_refusesAny 384 = .ok (.iconst (-1), 1) := by decide +kernel
theorem dL_refusesAny_385 : decode cL_refusesAny 385 = .ok (.goto 4, 3) := by decide +kernel
theorem dL_refusesAny_388 : decode cL_refusesAny 388 = .ok (.iconst 2, 1) := by decide +kernel
theorem dL_refusesAny_389 : decode cL_refusesAny 389 = .ok (.iconst 0, 1) := by decide +kernel
theorem dL_refusesAny_390 : decode cL_refusesAny 390 = .ok (.iconst 0, 1) := by decide +kernel
theorem dL_refusesAny_391 : decode cL_refusesAny 391 = .ok (.invokestatic 80, 3) := by decide +kernel
theorem dL_refusesAny_394 : decode cL_refusesAny 394 = .ok (.bipush (-12), 2) := by decide +kernel
theorem dL_refusesAny_396 : decode cL_refusesAny 396 = .ok (.if_icmp .ne 75, 3) := by decide +kernel
theorem dL_refusesAny_399 : decode cL_refusesAny 399 = .ok (.aload_n 0, 1) := by decide +kernel
theorem dL_refusesAny_400 : decode cL_refusesAny 400 = .ok (.bipush 17, 2) := by decide +kernel
theorem dL_refusesAny_402 : decode cL_refusesAny 402 = .ok (.iload_n 1, 1) := by decide +kernel
theorem dL_refusesAny_403 : decode cL_refusesAny 403 = .ok (.ifCond .ne 7, 3) := by decide +kernel
theorem dL_refusesAny_406 : decode cL_refusesAny 406 = .ok (.iconst 0, 1) := by decide +kernel
theorem dL_refusesAny_407 : decode cL_refusesAny 407 = .ok (.goto 5, 3) := by decide +kernel
theorem dL_refusesAny_410 : decode cL_refusesAny 410 = .ok (.bipush 10, 2) := by decide +kernel
theorem dL_refusesAny_412 : decode cL_refusesAny 412 = .ok (.iconst 0, 1) := by decide +kernel
theorem dL_refusesAny_413 : decode cL_refusesAny 413 = .ok (.iconst 0, 1) := by decide +kernel
theorem dL_refusesAny_414 : decode cL_refusesAny 414 = .ok (.invokestatic 80, 3) := by decide +kernel
theorem dL_refusesAny_417 : decode cL_refusesAny 417 = .ok (.bipush (-12), 2) := by decide +kernel
theorem dL_refusesAny_419 : decode cL_refusesAny 419 = .ok (.if_icmp .ne 52, 3) := by decide +kernel
theorem dL_refusesAny_422 : decode cL_refusesAny 422 = .ok (.aload_n 0, 1) := by decide +kernel
theorem dL_refusesAny_423 : decode cL_refusesAny 423 = .ok (.bipush 17, 2) := by decide +kernel
theorem dL_refusesAny_425 : decode cL_refusesAny 425 = .ok (.iconst 1, 1) := by decide +kernel
theorem dL_refusesAny_426 : decode cL_refusesAny 426 = .ok (.iload_n 1, 1) := by decide +kernel
theorem dL_refusesAny_427 : decode cL_refusesAny 427 = .ok (.ifCond .ne 7, 3) := by decide +kernel
theorem dL_refusesAny_430 : decode cL_refusesAny 430 = .ok (.iconst (-1), 1) := by decide +kernel
theorem dL_refusesAny_431 : decode cL_refusesAny 431 = .ok (.goto 4, 3) := by decide +kernel
theorem dL_refusesAny_434 : decode cL_refusesAny 434 = .ok (.iconst 3, 1) := by decide +kernel
theorem dL_refusesAny_435 : decode cL_refusesAny 435 = .ok (.iconst 0, 1) := by decide +kernel
theorem dL_refusesAny_436 : decode cL_refusesAny 436 = .ok (.invokestatic 80, 3) := by decide +kernel
theorem dL_refusesAny_439 : decode cL_refusesAny 439 = .ok (.bipush (-12), 2) := by decide +kernel
theorem dL_refusesAny_441 : decode cL_refusesAny 441 = .ok (.if_icmp .ne 30, 3) := by decide +kernel
theorem dL_refusesAny_444 : decode cL_refusesAny 444 = .ok (.aload_n 0, 1) := by decide +kernel
theorem dL_refusesAny_445 : decode cL_refusesAny 445 = .ok (.bipush 18, 2) := by decide +kernel
theorem dL_refusesAny_447 : decode cL_refusesAny 447 = .ok (.iload 4, 2) := by decide +kernel
theorem dL_refusesAny_449 : decode cL_refusesAny 449 = .ok (.iload_n 1, 1) := by decide +kernel
theorem dL_refusesAny_450 : decode cL_refusesAny 450 = .ok (.iconst 0, 1) := by decide +kernel
theorem dL_refusesAny_451 : decode cL_refusesAny 451 = .ok (.invokestatic 80, 3) := by decide +kernel
theorem dL_refusesAny_454 : decode cL_refusesAny 454 = .ok (.bipush (-12), 2) := by decide +kernel
theorem dL_refusesAny_456 : decode cL_refusesAny 456 = .ok (.if_icmp .ne 15, 3) := by decide +kernel
theorem dL_refusesAny_459 : decode cL_refusesAny 459 = .ok (.aload_n 0, 1) := by decide +kernel
theorem dL_refusesAny_460 : decode cL_refusesAny 460 = .ok (.iload_n 1, 1) := by decide +kernel
theorem dL_refusesAny_461 : decode cL_refusesAny 461 = .ok (.invokestatic 86, 3) := by decide +kernel
theorem dL_refusesAny_464 : decode cL_refusesAny 464 = .ok (.ifCond .eq 7, 3) := by decide +kernel
theorem dL_refusesAny_467 : decode cL_refusesAny 467 = .ok (.iconst 1, 1) := by decide +kernel
theorem dL_refusesAny_468 : decode cL_refusesAny 468 = .ok (.goto 4, 3) := by decide +kernel
theorem dL_refusesAny_471 : decode cL_refusesAny 471 = .ok (.iconst 0, 1) := by decide +kernel
theorem dL_refusesAny_472 : decode cL_refusesAny 472 = .ok (.ireturn, 1) := by decide +kernel
theorem dL_isRefused_0 : decode cL_isRefused 0 = .ok (.aload_n 0, 1) := by decide +kernel
theorem dL_isRefused_1 : decode cL_isRefused 1 = .ok (.iconst 0, 1) := by decide +kernel
theorem dL_isRefused_2 : decode cL_isRefused 2 = .ok (.invokevirtual 58, 3) := by decide +kernel
theorem dL_isRefused_5 : decode cL_isRefused 5 = .ok (.ifCond .le 112, 3) := by decide +kernel
theorem dL_isRefused_8 : decode cL_isRefused 8 = .ok (.aload_n 0, 1) := by decide +kernel
theorem dL_isRefused_9 : decode cL_isRefused 9 = .ok (.iconst 1, 1) := by decide +kernel
theorem dL_isRefused_10 : decode cL_isRefused 10 = .ok (.aload_n 0, 1) := by decide +kernel
theorem dL_isRefused_11 : decode cL_isRefused 11 = .ok (.iconst 0, 1) := by decide +kernel
theorem dL_isRefused_12 : decode cL_isRefused 12 = .ok (.invokevirtual 49, 3) := by decide +kernel
theorem dL_isRefused_15 : decode cL_isRefused 15 = .ok (.iconst 0, 1) := by decide +kernel
theorem dL_isRefused_16 : decode cL_isRefused 16 = .ok (.iconst 0, 1) := by decide +kernel
theorem dL_isRefused_17 : decode cL_isRefused 17 = .ok (.invokestatic 80, 3) := by decide +kernel
theorem dL_isRefused_20 : decode cL_isRefused 20 = .ok (.bipush (-12), 2) := by decide +kernel
theorem dL_isRefused_22 : decode cL_isRefused 22 = .ok (.if_icmp .ne 93, 3) := by decide +kernel
theorem dL_isRefused_25 : decode cL_isRefused 25 = .ok (.aload_n 0, 1) := by decide +kernel
theorem dL_isRefused_26 : decode cL_isRefused 26 = .ok (.iconst 1, 1) := by decide +kernel
theorem dL_isRefused_27 : decode cL_isRefused 27 = .ok (.aload_n 0, 1) := by decide +kernel
theorem dL_isRefused_28 : decode cL_isRefused 28 = .ok (.iconst 0, 1) := by decide +kernel
theorem dL_isRefused_29 : decode cL_isRefused 29 = .ok (.invokevirtual 49, 3) := by decide +kernel
theorem dL_isRefused_32 : decode cL_isRefused 32 = .ok (.iconst 1, 1) := by decide +kernel
theorem dL_isRefused_33 : decode cL_isRefused 33 = .ok (.iconst 3, 1) := by decide +kernel
theorem dL_isRefused_34 : decode cL_isRefused 34 = .ok (.invokestatic 80, 3) := by decide +kernel
theorem dL_isRefused_37 : decode cL_isRefused 37 = .ok (.bipush (-12), 2) := by decide +kernel
theorem dL_isRefused_39 : decode cL_isRefused 39 = .ok (.if_icmp .ne 76, 3) := by decide +kernel
theorem dL_isRefused_42 : decode cL_isRefused 42 = .ok (.aload_n 0, 1) := by decide +kernel
theorem dL_isRefused_43 : decode cL_isRefused 43 = .ok (.iconst 3, 1) := by decide +kernel
theorem dL_isRefused_44 : decode cL_isRefused 44 = .ok (.aload_n 0, 1) := by decide +kernel
theorem dL_isRefused_45 : decode cL_isRefused 45 = .ok (.iconst 0, 1) := by decide +kernel
theorem dL_isRefused_46 : decode cL_isRefused 46 = .ok (.invokevirtual 49, 3) := by decide +kernel
theorem dL_isRefused_49 : decode cL_isRefused 49 = .ok (.iload_n 1, 1) := by decide +kernel
theorem dL_isRefused_50 : decode cL_isRefused 50 = .ok (.ifCond .ne 7, 3) := by decide +kernel
theorem dL_isRefused_53 : decode cL_isRefused 53 = .ok (.iconst (-1), 1) := by decide +kernel
theorem dL_isRefused_54 : decode cL_isRefused 54 = .ok (.goto 6, 3) := by decide +kernel
theorem dL_isRefused_57 : decode cL_isRefused 57 = .ok (.sipush 1000, 3) := by decide +kernel
theorem dL_isRefused_60 : decode cL_isRefused 60 = .ok (.iconst 0, 1) := by decide +kernel
theorem dL_isRefused_61 : decode cL_isRefused 61 = .ok (.invokestatic 80, 3) := by decide +kernel
theorem dL_isRefused_64 : decode cL_isRefused 64 = .ok (.bipush (-12), 2) := by decide +kernel
theorem dL_isRefused_66 : decode cL_isRefused 66 = .ok (.if_icmp .ne 49, 3) := by decide +kernel
theorem dL_isRefused_69 : decode cL_isRefused 69 = .ok (.aload_n 0, 1) := by decide +kernel
theorem dL_isRefused_70 : decode cL_isRefused 70 = .ok (.bipush 10, 2) := by decide +kernel
theorem dL_isRefused_72 : decode cL_isRefused 72 = .ok (.aload_n 0, 1) := by decide +kernel
theorem dL_isRefused_73 : decode cL_isRefused 73 = .ok (.iconst 0, 1) := by decide +kernel
theorem dL_isRefused_74 : decode cL_isRefused 74 = .ok (.invokevirtual 49, 3) := by decide +kernel
theorem dL_isRefused_77 : decode cL_isRefused 77 = .ok (.iload_n 1, 1) := by decide +kernel
theorem dL_isRefused_78 : decode cL_isRefused 78 = .ok (.ifCond .ne 7, 3) := by decide +kernel
theorem dL_isRefused_81 : decode cL_isRefused 81 = .ok (.iconst (-1), 1) := by decide +kernel
theorem dL_isRefused_82 : decode cL_isRefused 82 = .ok (.goto 5, 3) := by decide +kernel
theorem dL_isRefused_85 : decode cL_isRefused 85 = .ok (.bipush 6, 2) := by decide +kernel
theorem dL_isRefused_87 : decode cL_isRefused 87 = .ok (.iconst 0, 1) := by decide +kernel
theorem dL_isRefused_88 : decode cL_isRefused 88 = .ok (.invokestatic 80, 3) := by decide +kernel
theorem dL_isRefused_91 : decode cL_isRefused 91 = .ok (.bipush (-12), 2) := by decide +kernel
theorem dL_isRefused_93 : decode cL_isRefused 93 = .ok (.if_icmp .ne 22, 3) := by decide +kernel
theorem dL_isRefused_96 : decode cL_isRefused 96 = .ok (.aload_n 0, 1) := by decide +kernel
theorem dL_isRefused_97 : decode cL_isRefused 97 = .ok (.iconst 2, 1) := by decide +kernel
theorem dL_isRefused_98 : decode cL_isRefused 98 = .ok (.aload_n 0, 1) := by decide +kernel
theorem dL_isRefused_99 : decode cL_isRefused 99 = .ok (.iconst 0, 1) := by decide +kernel
theorem dL_isRefused_100 : decode cL_isRefused 100 = .ok (.invokevirtual 49, 3) := by decide +kernel
theorem dL_isRefused_103 : decode cL_isRefused 103 = .ok (.iconst 1, 1) := by decide +kernel
theorem dL_isRefused_104 : decode cL_isRefused 104 = .ok (.iadd, 1) := by decide +kernel
theorem dL_isRefused_105 : decode cL_isRefused 105 = .ok (.iconst 0, 1) := by decide +kernel
theorem dL_isRefused_106 : decode cL_isRefused 106 = .ok (.iconst 0, 1) := by decide +kernel
theorem dL_isRefused_107 : decode cL_isRefused 107 = .ok (.invokestatic 80, 3) := by decide +kernel
theorem dL_isRefused_110 : decode cL_isRefused 110 = .ok (.bipush (-11), 2) := by decide +kernel
theorem dL_isRefused_112 : decode cL_isRefused 112 = .ok (.if_icmp .eq 5, 3) := by decide +kernel
theorem dL_isRefused_115 : decode cL_isRefused 115 = .ok (.iconst 0, 1) := by decide +kernel
theorem dL_isRefused_116 : decode cL_isRefused 116 = .ok (.ireturn, 1) := by decide +kernel
theorem dL_isRefused_117 : decode cL_isRefused 117 = .ok (.aload_n 0, 1) := by decide +kernel
theorem dL_isRefused_118 : decode cL_isRefused 118 = .ok (.iload_n 1, 1) := by decide +kernel
theorem dL_isRefused_119 : decode cL_isRefused 119 = .ok (.iconst 0, 1) := by decide +kernel
theorem dL_isRefused_120 : decode cL_isRefused 120 = .ok (.invokevirtual 55, 3) := by decide +kernel
theorem dL_isRefused_123 : decode cL_isRefused 123 = .ok (.iconst 1, 1) := by decide +kernel
theorem dL_isRefused_124 : decode cL_isRefused 124 = .ok (.if_icmp .eq 17, 3) := by decide +kernel
theorem dL_isRefused_127 : decode cL_isRefused 127 = .ok (.aload_n 0, 1) := by decide +kernel
theorem dL_isRefused_128 : decode cL_isRefused 128 = .ok (.bipush 6, 2) := by decide +kernel
theorem dL_isRefused_130 : decode cL_isRefused 130 = .ok (.iload_n 1, 1) := by decide +kernel
theorem dL_isRefused_131 : decode cL_isRefused 131 = .ok (.iconst 0, 1) := by decide +kernel
theorem dL_isRefused_132 : decode cL_isRefused 132 = .ok (.iconst 0, 1) := by decide +kernel
theorem dL_isRefused_133 : decode cL_isRefused 133 = .ok (.invokestatic 80, 3) := by decide +kernel
theorem dL_isRefused_136 : decode cL_isRefused 136 = .ok (.bipush (-13), 2) := by decide +kernel
theorem dL_isRefused_138 : decode cL_isRefused 138 = .ok (.if_icmp .ne 7, 3) := by decide +kernel
theorem dL_isRefused_141 : decode cL_isRefused 141 = .ok (.iconst 1, 1) := by decide +kernel
theorem dL_isRefused_142 : decode cL_isRefused 142 = .ok (.goto 4, 3) := by decide +kernel
theorem dL_isRefused_145 : decode cL_isRefused 145 = .ok (.iconst 0, 1) := by decide +kernel
theorem dL_isRefused_146 : decode cL_isRefused 146 = .ok (.ireturn, 1) := by decide +kernel
theorem dL_refused_0 : decode cL_refused 0 = .ok (.aload_n 0, 1) := by decide +kernel
theorem dL_refused_1 : decode cL_refused 1 = .ok (.invokevirtual 90, 3) := by decide +kernel
theorem dL_refused_4 : decode cL_refused 4 = .ok (.lstore_n 1, 1) := by decide +kernel
theorem dL_refused_5 : decode cL_refused 5 = .ok (.aload_n 0, 1) := by decide +kernel
theorem dL_refused_6 : decode cL_refused 6 = .ok (.iconst 0, 1) := by decide +kernel
theorem dL_refused_7 : decode cL_refused 7 = .ok (.invokestatic 94, 3) := by decide +kernel
theorem dL_refused_10 : decode cL_refused 10 = .ok (.ifCond .eq 24, 3) := by decide +kernel
theorem dL_refused_13 : decode cL_refused 13 = .ok (.aload_n 0, 1) := by decide +kernel
theorem dL_refused_14 : decode cL_refused 14 = .ok (.iconst 1, 1) := by decide +kernel
theorem dL_refused_15 : decode cL_refused 15 = .ok (.invokestatic 94, 3) := by decide +kernel
theorem dL_refused_18 : decode cL_refused 18 = .ok (.ifCond .eq 16, 3) := by decide +kernel
theorem dL_refused_21 : decode cL_refused 21 = .ok (.aload_n 0, 1) := by decide +kernel
theorem dL_refused_22 : decode cL_refused 22 = .ok (.invokevirtual 90, 3) := by decide +kernel
theorem dL_refused_25 : decode cL_refused 25 = .ok (.lload_n 1, 1) := by decide +kernel
theorem dL_refused_26 : decode cL_refused 26 = .ok (.lcmp, 1) := by decide +kernel
theorem dL_refused_27 : decode cL_refused 27 = .ok (.ifCond .ne 7, 3) := by decide +kernel
theorem dL_refused_30 : decode cL_refused 30 = .ok (.iconst 1, 1) := by decide +kernel
theorem dL_refused_31 : decode cL_refused 31 = .ok (.goto 4, 3) := by decide +kernel
theorem dL_refused_34 : decode cL_refused 34 = .ok (.iconst 0, 1) := by decide +kernel
theorem dL_refused_35 : decode cL_refused 35 = .ok (.ireturn, 1) := by decide +kernel
theorem dL_row_0 : decode cL_row 0 = .ok (.new 10, 3) := by decide +kernel
theorem dL_row_3 : decode cL_row 3 = .ok (.dup, 1) := by decide +kernel
theorem dL_row_4 : decode cL_row 4 = .ok (.invokespecial 97, 3) := by decide +kernel
theorem dL_row_7 : decode cL_row 7 = .ok (.astore_n 0, 1) := by decide +kernel
theorem dL_row_8 : decode cL_row 8 = .ok (.aload_n 0, 1) := by decide +kernel
theorem dL_row_9 : decode cL_row 9 = .ok (.bipush 9, 2) := by decide +kernel
theorem dL_row_11 : decode cL_row 11 = .ok (.iconst 0, 1) := by decide +kernel
theorem dL_row_12 : decode cL_row 12 = .ok (.iconst 0, 1) := by decide +kernel
theorem dL_row_13 : decode cL_row 13 = .ok (.iconst 0, 1) := by decide +kernel
theorem dL_row_14 : decode cL_row 14 = .ok (.invokestatic 80, 3) := by decide +kernel
theorem dL_row_17 : decode cL_row 17 = .ok (.bipush (-13), 2) := by decide +kernel
theorem dL_row_19 : decode cL_row 19 = .ok (.if_icmp .ne 265, 3) := by decide +kernel
theorem dL_row_22 : decode cL_row 22 = .ok (.aload_n 0, 1) := by decide +kernel
theorem dL_row_23 : decode cL_row 23 = .ok (.iconst 0, 1) := by decide +kernel
theorem dL_row_24 : decode cL_row 24 = .ok (.invokevirtual 49, 3) := by decide +kernel
theorem dL_row_27 : decode cL_row 27 = .ok (.iconst (-1), 1) := by decide +kernel
theorem dL_row_28 : decode cL_row 28 = .ok (.if_icmp .ne 256, 3) := by decide +kernel
theorem dL_row_31 : decode cL_row 31 = .ok (.aload_n 0, 1) := by decide +kernel
theorem dL_row_32 : decode cL_row 32 = .ok (.iconst 0, 1) := by decide +kernel
theorem dL_row_33 : decode cL_row 33 = .ok (.invokevirtual 64, 3) := by decide +kernel
theorem dL_row_36 : decode cL_row 36 = .ok (.bipush 16, 2) := by decide +kernel
theorem dL_row_38 : decode cL_row 38 = .ok (.if_icmp .ne 246, 3) := by decide +kernel
theorem dL_row_41 : decode cL_row 41 = .ok (.aload_n 0, 1) := by decide +kernel
theorem dL_row_42 : decode cL_row 42 = .ok (.iconst 1, 1) := by decide +kernel
theorem dL_row_43 : decode cL_row 43 = .ok (.invokevirtual 64, 3) := by decide +kernel
theorem dL_row_46 : decode cL_row 46 = .ok (.ifCond .ne 238, 3) := by decide +kernel
theorem dL_row_49 : decode cL_row 49 = .ok (.aload_n 0, 1) := by decide +kernel
theorem dL_row_50 : decode cL_row 50 = .ok (.iconst 2, 1) := by decide +kernel
theorem dL_row_51 : decode cL_row 51 = .ok (.invokevirtual 30, 3) := by decide +kernel
theorem dL_row_54 : decode cL_row 54 = .ok (.iconst (-1), 1) := by decide +kernel
theorem dL_row_55 : decode cL_row 55 = .ok (.if_icmp .ne 229, 3) := by decide +kernel
theorem dL_row_58 : decode cL_row 58 = .ok (.aload_n 0, 1) := by decide +kernel
theorem dL_row_59 : decode cL_row 59 = .ok (.iconst 2, 1) := by decide +kernel
theorem dL_row_60 : decode cL_row 60 = .ok (.iconst 0, 1) := by decide +kernel
theorem dL_row_61 : decode cL_row 61 = .ok (.invokevirtual 55, 3) := by decide +kernel
theorem dL_row_64 : decode cL_row 64 = .ok (.iconst 3, 1) := by decide +kernel
theorem dL_row_65 : decode cL_row 65 = .ok (.if_icmp .ne 219, 3) := by decide +kernel
theorem dL_row_68 : decode cL_row 68 = .ok (.aload_n 0, 1) := by decide +kernel
theorem dL_row_69 : decode cL_row 69 = .ok (.iconst 2, 1) := by decide +kernel
theorem dL_row_70 : decode cL_row 70 = .ok (.iconst 2, 1) := by decide +kernel
theorem dL_row_71 : decode cL_row 71 = .ok (.invokevirtual 55, 3) := by decide +kernel
theorem dL_row_74 : decode cL_row 74 = .ok (.ifCond .ne 210, 3) := by decide +kernel
theorem dL_row_77 : decode cL_row 77 = .ok (.aload_n 0, 1) := by decide +kernel
theorem dL_row_78 : decode cL_row 78 = .ok (.iconst 5, 1) := by decide +kernel
theorem dL_row_79 : decode cL_row 79 = .ok (.iconst 2, 1) := by decide +kernel
theorem dL_row_80 : decode cL_row 80 = .ok (.iconst 0, 1) := by decide +kernel
theorem dL_row_81 : decode cL_row 81 = .ok (.invokevirtual 9, 3) := by decide +kernel
theorem dL_row_84 : decode cL_row 84 = .ok (.ifCond .ne 200, 3) := by decide +kernel
theorem dL_row_87 : decode cL_row 87 = .ok (.aload_n 0, 1) := by decide +kernel
theorem dL_row_88 : decode cL_row 88 = .ok (.bipush 7, 2) := by decide +kernel
theorem dL_row_90 : decode cL_row 90 = .ok (.iconst 1, 1) := by decide +kernel
theorem dL_row_91 : decode cL_row 91 = .ok (.iconst 1, 1) := by decide +kernel
theorem dL_row_92 : decode cL_row 92 = .ok (.invokevirtual 9, 3) := by decide +kernel
theorem dL_row_95 : decode cL_row 95 = .ok (.sipush 2000, 3) := by decide +kernel
theorem dL_row_98 : decode cL_row 98 = .ok (.if_icmp .ne 186, 3) := by decide +kernel
theorem dL_row_101 : decode cL_row 101 = .ok (.aload_n 0, 1) := by decide +kernel
theorem dL_row_102 : decode cL_row 102 = .ok (.bipush 9, 2) := by decide +kernel
theorem dL_row_104 : decode cL_row 104 = .ok (.iconst 3, 1) := by decide +kernel
theorem dL_row_105 : decode cL_row 105 = .ok (.iconst 2, 1) := by decide +kernel
theorem dL_row_106 : decode cL_row 106 = .ok (.invokevirtual 9, 3) := by decide +kernel
theorem dL_row_109 : decode cL_row 109 = .ok (.sipush 3000, 3) := by decide +kernel
theorem dL_row_112 : decode cL_row 112 = .ok (.if_icmp .ne 172, 3) := by decide +kernel
theorem dL_row_115 : decode cL_row 115 = .ok (.aload_n 0, 1) := by decide +kernel
theorem dL_row_116 : decode cL_row 116 = .ok (.iconst 3, 1) := by decide +kernel
theorem dL_row_117 : decode cL_row 117 = .ok (.invokevirtual 58, 3) := by decide +kernel
theorem dL_row_120 : decode cL_row 120 = .ok (.bipush 10, 2) := by decide +kernel
theorem dL_row_122 : decode cL_row 122 = .ok (.if_icmp .ne 162, 3) := by decide +kernel
theorem dL_row_125 : decode cL_row 125 = .ok (.aload_n 0, 1) := by decide +kernel
theorem dL_row_126 : decode cL_row 126 = .ok (.iconst 1, 1) := by decide +kernel
theorem dL_row_127 : decode cL_row 127 = .ok (.invokevirtual 49, 3) := by decide +kernel
theorem dL_row_130 : decode cL_row 130 = .ok (.sipush 2000, 3) := by decide +kernel
theorem dL_row_133 : decode cL_row 133 = .ok (.if_icmp .ne 151, 3) := by decide +kernel
theorem dL_row_136 : decode cL_row 136 = .ok (.aload_n 0, 1) := by decide +kernel
theorem dL_row_137 : decode cL_row 137 = .ok (.sipush 3000, 3) := by decide +kernel
theorem dL_row_140 : decode cL_row 140 = .ok (.iconst 4, 1) := by decide +kernel
theorem dL_row_141 : decode cL_row 141 = .ok (.invokevirtual 46, 3) := by decide +kernel
theorem dL_row_144 : decode cL_row 144 = .ok (.iconst 2, 1) := by decide +kernel
theorem dL_row_145 : decode cL_row 145 = .ok (.if_icmp .ne 139, 3) := by decide +kernel
theorem dL_row_148 : decode cL_row 148 = .ok (.aload_n 0, 1) := by decide +kernel
theorem dL_row_149 : decode cL_row 149 = .ok (.iconst 4, 1) := by decide +kernel
theorem dL_row_150 : decode cL_row 150 = .ok (.invokevirtual 61, 3) := by decide +kernel
theorem dL_row_153 : decode cL_row 153 = .ok (.bipush 6, 2) := by decide +kernel
theorem dL_row_155 : decode cL_row 155 = .ok (.if_icmp .ne 129, 3) := by decide +kernel
theorem dL_row_158 : decode cL_row 158 = .ok (.aload_n 0, 1) := by decide +kernel
theorem dL_row_159 : decode cL_row 159 = .ok (.iconst 0, 1) := by decide +kernel
theorem dL_row_160 : decode cL_row 160 = .ok (.invokevirtual 64, 3) := by decide +kernel
theorem dL_row_163 : decode cL_row 163 = .ok (.bipush 10, 2) := by decide +kernel
theorem dL_row_165 : decode cL_row 165 = .ok (.if_icmp .ne 119, 3) := by decide +kernel
theorem dL_row_168 : decode cL_row 168 = .ok (.aload_n 0, 1) := by decide +kernel
theorem dL_row_169 : decode cL_row 169 = .ok (.iconst 1, 1) := by decide +kernel
theorem dL_row_170 : decode cL_row 170 = .ok (.invokevirtual 64, 3) := by decide +kernel
theorem dL_row_173 : decode cL_row 173 = .ok (.bipush 6, 2) := by decide +kernel
theorem dL_row_175 : decode cL_row 175 = .ok (.if_icmp .ne 109, 3) := by decide +kernel
theorem dL_row_178 : decode cL_row 178 = .ok (.aload_n 0, 1) := by decide +kernel
theorem dL_row_179 : decode cL_row 179 = .ok (.iconst 4, 1) := by decide +kernel
theorem dL_row_180 : decode cL_row 180 = .ok (.iconst 0, 1) := by decide +kernel
theorem dL_row_181 : decode cL_row 181 = .ok (.invokevirtual 70, 3) := by decide +kernel
theorem dL_row_184 : decode cL_row 184 = .ok (.iconst 2, 1) := by decide +kernel
theorem dL_row_185 : decode cL_row 185 = .ok (.if_icmp .ne 99, 3) := by decide +kernel
theorem dL_row_188 : decode cL_row 188 = .ok (.aload_n 0, 1) := by decide +kernel
theorem dL_row_189 : decode cL_row 189 = .ok (.iconst 3, 1) := by decide +kernel
theorem dL_row_190 : decode cL_row 190 = .ok (.iconst 0, 1) := by decide +kernel
theorem dL_row_191 : decode cL_row 191 = .ok (.invokevirtual 70, 3) := by decide +kernel
theorem dL_row_194 : decode cL_row 194 = .ok (.iconst 3, 1) := by decide +kernel
theorem dL_row_195 : decode cL_row 195 = .ok (.if_icmp .ne 89, 3) := by decide +kernel
theorem dL_row_198 : decode cL_row 198 = .ok (.aload_n 0, 1) := by decide +kernel
theorem dL_row_199 : decode cL_row 199 = .ok (.invokevirtual 98, 3) := by decide +kernel
theorem dL_row_202 : decode cL_row 202 = .ok (.ldc2_w 102, 3) := by decide +kernel
theorem dL_row_205 : decode cL_row 205 = .ok (.dcmp .l, 1) := by decide +kernel
theorem dL_row_206 : decode cL_row 206 = .ok (.ifCond .ne 78, 3) := by decide +kernel
theorem dL_row_209 : decode cL_row 209 = .ok (.aload_n 0, 1) := by decide +kernel
theorem dL_row_210 : decode cL_row 210 = .ok (.iconst 2, 1) := by decide +kernel
theorem dL_row_211 : decode cL_row 211 = .ok (.invokevirtual 30, 3) := by decide +kernel
theorem dL_row_214 : decode cL_row 214 = .ok (.iconst (-1), 1) := by decide +kernel
theorem dL_row_215 : decode cL_row 215 = .ok (.if_icmp .ne 69, 3) := by decide +kernel
theorem dL_row_218 : decode cL_row 218 = .ok (.aload_n 0, 1) := by decide +kernel
theorem dL_row_219 : decode cL_row 219 = .ok (.iconst 0, 1) := by decide +kernel
theorem dL_row_220 : decode cL_row 220 = .ok (.invokevirtual 30, 3) := by decide +kernel
theorem dL_row_223 : decode cL_row 223 = .ok (.ifCond .ne 61, 3) := by decide +kernel
theorem dL_row_226 : decode cL_row 226 = .ok (.aload_n 0, 1) := by decide +kernel
theorem dL_row_227 : decode cL_row 227 = .ok (.iconst 0, 1) := by decide +kernel
theorem dL_row_228 : decode cL_row 228 = .ok (.invokevirtual 30, 3) := by decide +kernel
theorem dL_row_231 : decode cL_row 231 = .ok (.sipush 2000, 3) := by decide +kernel
theorem dL_row_234 : decode cL_row 234 = .ok (.if_icmp .ne 50, 3) := by decide +kernel
theorem dL_row_237 : decode cL_row 237 = .ok (.aload_n 0, 1) := by decide +kernel
theorem dL_row_238 : decode cL_row 238 = .ok (.iconst 1, 1) := by decide +kernel
theorem dL_row_239 : decode cL_row 239 = .ok (.invokevirtual 30, 3) := by decide +kernel
theorem dL_row_242 : decode cL_row 242 = .ok (.ifCond .ne 42, 3) := by decide +kernel
theorem dL_row_245 : decode cL_row 245 = .ok (.aload_n 0, 1) := by decide +kernel
theorem dL_row_246 : decode cL_row 246 = .ok (.iconst 0, 1) := by decide +kernel
theorem dL_row_247 : decode cL_row 247 = .ok (.iconst 2, 1) := by decide +kernel
theorem dL_row_248 : decode cL_row 248 = .ok (.invokevirtual 55, 3) := by decide +kernel
theorem dL_row_251 : decode cL_row 251 = .ok (.iconst 1, 1) := by decide +kernel
theorem dL_row_252 : decode cL_row 252 = .ok (.if_icmp .ne 32, 3) := by decide +kernel
theorem dL_row_255 : decode cL_row 255 = .ok (.aload_n 0, 1) := by decide +kernel
theorem dL_row_256 : decode cL_row 256 = .ok (.iconst 3, 1) := by decide +kernel
theorem dL_row_257 : decode cL_row 257 = .ok (.iconst 2, 1) := by decide +kernel
theorem dL_row_258 : decode cL_row 258 = .ok (.invokevirtual 55, 3) := by decide +kernel
theorem dL_row_261 : decode cL_row 261 = .ok (.iconst 3, 1) := by decide +kernel
theorem dL_row_262 : decode cL_row 262 = .ok (.if_icmp .ne 22, 3) := by decide +kernel
theorem dL_row_265 : decode cL_row 265 = .ok (.aload_n 0, 1) := by decide +kernel
theorem dL_row_266 : decode cL_row 266 = .ok (.sipush 2000, 3) := by decide +kernel
theorem dL_row_269 : decode cL_row 269 = .ok (.iconst 5, 1) := by decide +kernel
theorem dL_row_270 : decode cL_row 270 = .ok (.invokevirtual 46, 3) := by decide +kernel
theorem dL_row_273 : decode cL_row 273 = .ok (.iconst 1, 1) := by decide +kernel
theorem dL_row_274 : decode cL_row 274 = .ok (.if_icmp .ne 10, 3) := by decide +kernel
theorem dL_row_277 : decode cL_row 277 = .ok (.aload_n 0, 1) := by decide +kernel
theorem dL_row_278 : decode cL_row 278 = .ok (.invokestatic 104, 3) := by decide +kernel
theorem dL_row_281 : decode cL_row 281 = .ok (.ifCond .ne 5, 3) := by decide +kernel
theorem dL_row_284 : decode cL_row 284 = .ok (.iconst 0, 1) := by decide +kernel
theorem dL_row_285 : decode cL_row 285 = .ok (.ireturn, 1) := by decide +kernel
theorem dL_row_286 : decode cL_row 286 = .ok (.aload_n 0, 1) := by decide +kernel
theorem dL_row_287 : decode cL_row 287 = .ok (.iconst 0, 1) := by decide +kernel
theorem dL_row_288 : decode cL_row 288 = .ok (.invokevirtual 33, 3) := by decide +kernel
theorem dL_row_291 : decode cL_row 291 = .ok (.bipush 7, 2) := by decide +kernel
theorem dL_row_293 : decode cL_row 293 = .ok (.if_icmp .ne 324, 3) := by decide +kernel
theorem dL_row_296 : decode cL_row 296 = .ok (.aload_n 0, 1) := by decide +kernel
theorem dL_row_297 : decode cL_row 297 = .ok (.iconst 1, 1) := by decide +kernel
theorem dL_row_298 : decode cL_row 298 = .ok (.invokevirtual 58, 3) := by decide +kernel
theorem dL_row_301 : decode cL_row 301 = .ok (.iconst 1, 1) := by decide +kernel
theorem dL_row_302 : decode cL_row 302 = .ok (.if_icmp .ne 315, 3) := by decide +kernel
theorem dL_row_305 : decode cL_row 305 = .ok (.aload_n 0, 1) := by decide +kernel
theorem dL_row_306 : decode cL_row 306 = .ok (.iconst 0, 1) := by decide +kernel
theorem dL_row_307 : decode cL_row 307 = .ok (.iconst 0, 1) := by decide +kernel
theorem dL_row_308 : decode cL_row 308 = .ok (.invokevirtual 55, 3) := by decide +kernel
theorem dL_row_311 : decode cL_row 311 = .ok (.iconst 2, 1) := by decide +kernel
theorem dL_row_312 : decode cL_row 312 = .ok (.if_icmp .ne 305, 3) := by decide +kernel
theorem dL_row_315 : decode cL_row 315 = .ok (.aload_n 0, 1) := by decide +kernel
theorem dL_row_316 : decode cL_row 316 = .ok (.iconst 0, 1) := by decide +kernel
theorem dL_row_317 : decode cL_row 317 = .ok (.iconst 1, 1) := by decide +kernel
theorem dL_row_318 : decode cL_row 318 = .ok (.invokevirtual 55, 3) := by decide +kernel
theorem dL_row_321 : decode cL_row 321 = .ok (.iconst (-1), 1) := by decide +kernel
theorem dL_row_322 : decode cL_row 322 = .ok (.if_icmp .ne 295, 3) := by decide +kernel
theorem dL_row_325 : decode cL_row 325 = .ok (.aload_n 0, 1) := by decide +kernel
theorem dL_row_326 : decode cL_row 326 = .ok (.iconst 0, 1) := by decide +kernel
theorem dL_row_327 : decode cL_row 327 = .ok (.iconst 2, 1) := by decide +kernel
theorem dL_row_328 : decode cL_row 328 = .ok (.invokevirtual 55, 3) := by decide +kernel
theorem dL_row_331 : decode cL_row 331 = .ok (.iconst 1, 1) := by decide +kernel
theorem dL_row_332 : decode cL_row 332 = .ok (.if_icmp .ne 285, 3) := by decide +kernel
theorem dL_row_335 : decode cL_row 335 = .ok (.aload_n 0, 1) := by decide +kernel
theorem dL_row_336 : decode cL_row 336 = .ok (.sipush 2000, 3) := by decide +kernel
theorem dL_row_339 : decode cL_row 339 = .ok (.invokevirtual 108, 3) := by decide +kernel
theorem dL_row_342 : decode cL_row 342 = .ok (.iconst 2, 1) := by decide +kernel
theorem dL_row_343 : decode cL_row 343 = .ok (.if_icmp .ne 274, 3) := by decide +kernel
theorem dL_row_346 : decode cL_row 346 = .ok (.aload_n 0, 1) := by decide +kernel
theorem dL_row_347 : decode cL_row 347 = .ok (.sipush 2001, 3) := by decide +kernel
theorem dL_row_350 : decode cL_row 350 = .ok (.invokevirtual 108, 3) := by decide +kernel
theorem dL_row_353 : decode cL_row 353 = .ok (.iconst 3, 1) := by decide +kernel
theorem dL_row_354 : decode cL_row 354 = .ok (.if_icmp .ne 263, 3) := by decide +kernel
theorem dL_row_357 : decode cL_row 357 = .ok (.aload_n 0, 1) := by decide +kernel
theorem dL_row_358 : decode cL_row 358 = .ok (.sipush 16000, 3) := by decide +kernel
theorem dL_row_361 : decode cL_row 361 = .ok (.invokevirtual 108, 3) := by decide +kernel
theorem dL_row_364 : decode cL_row 364 = .ok (.iconst 1, 1) := by decide +kernel
theorem dL_row_365 : decode cL_row 365 = .ok (.if_icmp .ne 252, 3) := by decide +kernel
theorem dL_row_368 : decode cL_row 368 = .ok (.aload_n 0, 1) := by decide +kernel
theorem dL_row_369 : decode cL_row 369 = .ok (.iconst (-1), 1) := by decide +kernel
theorem dL_row_370 : decode cL_row 370 = .ok (.invokevirtual 108, 3) := by decide +kernel
theorem dL_row_373 : decode cL_row 373 = .ok (.iconst 1, 1) := by decide +kernel
theorem dL_row_374 : decode cL_row 374 = .ok (.if_icmp .ne 243, 3) := by decide +kernel
theorem dL_row_377 : decode cL_row 377 = .ok (.aload_n 0, 1) := by decide +kernel
theorem dL_row_378 : decode cL_row 378 = .ok (.iconst 2, 1) := by decide +kernel
theorem dL_row_379 : decode cL_row 379 = .ok (.iconst 0, 1) := by decide +kernel
theorem dL_row_380 : decode cL_row 380 = .ok (.invokevirtual 52, 3) := by decide +kernel
theorem dL_row_383 : decode cL_row 383 = .ok (.iconst 1, 1) := by decide +kernel
theorem dL_row_384 : decode cL_row 384 = .ok (.if_icmp .ne 233, 3) := by decide +kernel
theorem dL_row_387 : decode cL_row 387 = .ok (.aload_n 0, 1) := by decide +kernel
theorem dL_row_388 : decode cL_row 388 = .ok (.iconst 2, 1) := by decide +kernel
theorem dL_row_389 : decode cL_row 389 = .ok (.iconst 1, 1) := by decide +kernel
theorem dL_row_390 : decode cL_row 390 = .ok (.invokevirtual 52, 3) := by decide +kernel
theorem dL_row_393 : decode cL_row 393 = .ok (.iconst (-1), 1) := by decide +kernel
theorem dL_row_394 : decode cL_row 394 = .ok (.if_icmp .ne 223, 3) := by decide +kernel
theorem dL_row_397 : decode cL_row 397 = .ok (.aload_n 0, 1) := by decide +kernel
theorem dL_row_398 : decode cL_row 398 = .ok (.iconst 4, 1) := by decide +kernel
theorem dL_row_399 : decode cL_row 399 = .ok (.iconst 1, 1) := by decide +kernel
theorem dL_row_400 : decode cL_row 400 = .ok (.invokevirtual 52, 3) := by decide +kernel
theorem dL_row_403 : decode cL_row 403 = .ok (.sipush 3000, 3) := by decide +kernel
theorem dL_row_406 : decode cL_row 406 = .ok (.if_icmp .ne 211, 3) := by decide +kernel
theorem dL_row_409 : decode cL_row 409 = .ok (.aload_n 0, 1) := by decide +kernel
theorem dL_row_410 : decode cL_row 410 = .ok (.sipush 4000, 3) := by decide +kernel
theorem dL_row_413 : decode cL_row 413 = .ok (.invokevirtual 108, 3) := by decide +kernel
theorem dL_row_416 : decode cL_row 416 = .ok (.iconst 3, 1) := by decide +kernel
theorem dL_row_417 : decode cL_row 417 = .ok (.if_icmp .ne 200, 3) := by decide +kernel
theorem dL_row_420 : decode cL_row 420 = .ok (.aload_n 0, 1) := by decide +kernel
theorem dL_row_421 : decode cL_row 421 = .ok (.iconst 0, 1) := by decide +kernel
theorem dL_row_422 : decode cL_row 422 = .ok (.bipush 8, 2) := by decide +kernel
theorem dL_row_424 : decode cL_row 424 = .ok (.iconst 1, 1) := by decide +kernel
theorem dL_row_425 : decode cL_row 425 = .ok (.iconst 0, 1) := by decide +kernel
theorem dL_row_426 : decode cL_row 426 = .ok (.invokevirtual 15, 3) := by decide +kernel
theorem dL_row_429 : decode cL_row 429 = .ok (.sipush 2001, 3) := by decide +kernel
theorem dL_row_432 : decode cL_row 432 = .ok (.if_icmp .ne 185, 3) := by decide +kernel
theorem dL_row_435 : decode cL_row 435 = .ok (.aload_n 0, 1) := by decide +kernel
theorem dL_row_436 : decode cL_row 436 = .ok (.iconst 1, 1) := by decide +kernel
theorem dL_row_437 : decode cL_row 437 = .ok (.invokevirtual 49, 3) := by decide +kernel
theorem dL_row_440 : decode cL_row 440 = .ok (.sipush 2001, 3) := by decide +kernel
theorem dL_row_443 : decode cL_row 443 = .ok (.if_icmp .ne 174, 3) := by decide +kernel
theorem dL_row_446 : decode cL_row 446 = .ok (.aload_n 0, 1) := by decide +kernel
theorem dL_row_447 : decode cL_row 447 = .ok (.iconst 0, 1) := by decide +kernel
theorem dL_row_448 : decode cL_row 448 = .ok (.invokevirtual 30, 3) := by decide +kernel
theorem dL_row_451 : decode cL_row 451 = .ok (.sipush 3000, 3) := by decide +kernel
theorem dL_row_454 : decode cL_row 454 = .ok (.if_icmp .ne 163, 3) := by decide +kernel
theorem dL_row_457 : decode cL_row 457 = .ok (.aload_n 0, 1) := by decide +kernel
theorem dL_row_458 : decode cL_row 458 = .ok (.iconst 1, 1) := by decide +kernel
theorem dL_row_459 : decode cL_row 459 = .ok (.invokevirtual 58, 3) := by decide +kernel
theorem dL_row_462 : decode cL_row 462 = .ok (.ifCond .ne 155, 3) := by decide +kernel
theorem dL_row_465 : decode cL_row 465 = .ok (.aload_n 0, 1) := by decide +kernel
theorem dL_row_466 : decode cL_row 466 = .ok (.iconst 0, 1) := by decide +kernel
theorem dL_row_467 : decode cL_row 467 = .ok (.invokevirtual 27, 3) := by decide +kernel
theorem dL_row_470 : decode cL_row 470 = .ok (.iconst 1, 1) := by decide +kernel
theorem dL_row_471 : decode cL_row 471 = .ok (.if_icmp .ne 146, 3) := by decide +kernel
theorem dL_row_474 : decode cL_row 474 = .ok (.aload_n 0, 1) := by decide +kernel
theorem dL_row_475 : decode cL_row 475 = .ok (.iconst 0, 1) := by decide +kernel
theorem dL_row_476 : decode cL_row 476 = .ok (.iconst 0, 1) := by decide +kernel
theorem dL_row_477 : decode cL_row 477 = .ok (.invokevirtual 55, 3) := by decide +kernel
theorem dL_row_480 : decode cL_row 480 = .ok (.ifCond .ne 137, 3) := by decide +kernel
theorem dL_row_483 : decode cL_row 483 = .ok (.aload_n 0, 1) := by decide +kernel
theorem dL_row_484 : decode cL_row 484 = .ok (.iconst 1, 1) := by decide +kernel
theorem dL_row_485 : decode cL_row 485 = .ok (.iconst 0, 1) := by decide +kernel
theorem dL_row_486 : decode cL_row 486 = .ok (.invokevirtual 67, 3) := by decide +kernel
theorem dL_row_489 : decode cL_row 489 = .ok (.bipush 22, 2) := by decide +kernel
theorem dL_row_491 : decode cL_row 491 = .ok (.if_icmp .ne 126, 3) := by decide +kernel
theorem dL_row_494 : decode cL_row 494 = .ok (.aload_n 0, 1) := by decide +kernel
theorem dL_row_495 : decode cL_row 495 = .ok (.iconst 2, 1) := by decide +kernel
theorem dL_row_496 : decode cL_row 496 = .ok (.iconst 0, 1) := by decide +kernel
theorem dL_row_497 : decode cL_row 497 = .ok (.invokevirtual 67, 3) := by decide +kernel
theorem dL_row_500 : decode cL_row 500 = .ok (.bipush 53, 2) := by decide +kernel
theorem dL_row_502 : decode cL_row 502 = .ok (.if_icmp .ne 115, 3) := by decide +kernel
theorem dL_row_505 : decode cL_row 505 = .ok (.aload_n 0, 1) := by decide +kernel
theorem dL_row_506 : decode cL_row 506 = .ok (.iconst 1, 1) := by decide +kernel
theorem dL_row_507 : decode cL_row 507 = .ok (.iconst 1, 1) := by decide +kernel
theorem dL_row_508 : decode cL_row 508 = .ok (.invokevirtual 67, 3) := by decide +kernel
theorem dL_row_511 : decode cL_row 511 = .ok (.iconst 4, 1) := by decide +kernel
theorem dL_row_512 : decode cL_row 512 = .ok (.if_icmp .ne 105, 3) := by decide +kernel
theorem dL_row_515 : decode cL_row 515 = .ok (.aload_n 0, 1) := by decide +kernel
theorem dL_row_516 : decode cL_row 516 = .ok (.iconst 2, 1) := by decide +kernel
theorem dL_row_517 : decode cL_row 517 = .ok (.iconst 1, 1) := by decide +kernel
theorem dL_row_518 : decode cL_row 518 = .ok (.invokevirtual 67, 3) := by decide +kernel
theorem dL_row_521 : decode cL_row 521 = .ok (.iconst 5, 1) := by decide +kernel
theorem dL_row_522 : decode cL_row 522 = .ok (.if_icmp .ne 95, 3) := by decide +kernel
theorem dL_row_525 : decode cL_row 525 = .ok (.aload_n 0, 1) := by decide +kernel
theorem dL_row_526 : decode cL_row 526 = .ok (.invokevirtual 111, 3) := by decide +kernel
theorem dL_row_529 : decode cL_row 529 = .ok (.bipush 22, 2) := by decide +kernel
theorem dL_row_531 : decode cL_row 531 = .ok (.if_icmp .ne 86, 3) := by decide +kernel
theorem dL_row_534 : decode cL_row 534 = .ok (.aload_n 0, 1) := by decide +kernel
theorem dL_row_535 : decode cL_row 535 = .ok (.iconst 0, 1) := by decide +kernel
theorem dL_row_536 : decode cL_row 536 = .ok (.invokevirtual 58, 3) := by decide +kernel
theorem dL_row_539 : decode cL_row 539 = .ok (.iconst 4, 1) := by decide +kernel
theorem dL_row_540 : decode cL_row 540 = .ok (.if_icmp .ne 77, 3) := by decide +kernel
theorem dL_row_543 : decode cL_row 543 = .ok (.aload_n 0, 1) := by decide +kernel
theorem dL_row_544 : decode cL_row 544 = .ok (.iconst 3, 1) := by decide +kernel
theorem dL_row_545 : decode cL_row 545 = .ok (.invokevirtual 49, 3) := by decide +kernel
theorem dL_row_548 : decode cL_row 548 = .ok (.sipush 6000, 3) := by decide +kernel
theorem dL_row_551 : decode cL_row 551 = .ok (.if_icmp .ne 66, 3) := by decide +kernel
theorem dL_row_554 : decode cL_row 554 = .ok (.aload_n 0, 1) := by decide +kernel
theorem dL_row_555 : decode cL_row 555 = .ok (.iconst 5, 1) := by decide +kernel
theorem dL_row_556 : decode cL_row 556 = .ok (.invokevirtual 58, 3) := by decide +kernel
theorem dL_row_559 : decode cL_row 559 = .ok (.iconst 1, 1) := by decide +kernel
theorem dL_row_560 : decode cL_row 560 = .ok (.if_icmp .ne 57, 3) := by decide +kernel
theorem dL_row_563 : decode cL_row 563 = .ok (.aload_n 0, 1) := by decide +kernel
theorem dL_row_564 : decode cL_row 564 = .ok (.bipush 6, 2) := by decide +kernel
theorem dL_row_566 : decode cL_row 566 = .ok (.invokevirtual 58, 3) := by decide +kernel
theorem dL_row_569 : decode cL_row 569 = .ok (.iconst 5, 1) := by decide +kernel
theorem dL_row_570 : decode cL_row 570 = .ok (.if_icmp .ne 47, 3) := by decide +kernel
theorem dL_row_573 : decode cL_row 573 = .ok (.aload_n 0, 1) := by decide +kernel
theorem dL_row_574 : decode cL_row 574 = .ok (.bipush 7, 2) := by decide +kernel
theorem dL_row_576 : decode cL_row 576 = .ok (.invokevirtual 58, 3) := by decide +kernel
theorem dL_row_579 : decode cL_row 579 = .ok (.iconst 1, 1) := by decide +kernel
theorem dL_row_580 : decode cL_row 580 = .ok (.if_icmp .ne 37, 3) := by decide +kernel
theorem dL_row_583 : decode cL_row 583 = .ok (.aload_n 0, 1) := by decide +kernel
theorem dL_row_584 : decode cL_row 584 = .ok (.sipush 3000, 3) := by decide +kernel
theorem dL_row_587 : decode cL_row 587 = .ok (.iconst 3, 1) := by decide +kernel
theorem dL_row_588 : decode cL_row 588 = .ok (.invokevirtual 46, 3) := by decide +kernel
theorem dL_row_591 : decode cL_row 591 = .ok (.iconst 1, 1) := by decide +kernel
theorem dL_row_592 : decode cL_row 592 = .ok (.if_icmp .ne 25, 3) := by decide +kernel
theorem dL_row_595 : decode cL_row 595 = .ok (.aload_n 0, 1) := by decide +kernel
theorem dL_row_596 : decode cL_row 596 = .ok (.sipush 6000, 3) := by decide +kernel
theorem dL_row_599 : decode cL_row 599 = .ok (.iconst 2, 1) := by decide +kernel
theorem dL_row_600 : decode cL_row 600 = .ok (.invokevirtual 46, 3) := by decide +kernel
theorem dL_row_603 : decode cL_row 603 = .ok (.ifCond .ne 14, 3) := by decide +kernel
theorem dL_row_606 : decode cL_row 606 = .ok (.aload_n 0, 1) := by decide +kernel
theorem dL_row_607 : decode cL_row 607 = .ok (.sipush 6000, 3) := by decide +kernel
theorem dL_row_610 : decode cL_row 610 = .ok (.iconst 3, 1) := by decide +kernel
theorem dL_row_611 : decode cL_row 611 = .ok (.invokevirtual 46, 3) := by decide +kernel
theorem dL_row_614 : decode cL_row 614 = .ok (.ifCond .eq 5, 3) := by decide +kernel
theorem dL_row_617 : decode cL_row 617 = .ok (.iconst 0, 1) := by decide +kernel
theorem dL_row_618 : decode cL_row 618 = .ok (.ireturn, 1) := by decide +kernel
theorem dL_row_619 : decode cL_row 619 = .ok (.aload_n 0, 1) := by decide +kernel
theorem dL_row_620 : decode cL_row 620 = .ok (.iconst 0, 1) := by decide +kernel
theorem dL_row_621 : decode cL_row 621 = .ok (.invokevirtual 19, 3) := by decide +kernel
theorem dL_row_624 : decode cL_row 624 = .ok (.iconst 5, 1) := by decide +kernel
theorem dL_row_625 : decode cL_row 625 = .ok (.if_icmp .ne 158, 3) := by decide +kernel
theorem dL_row_628 : decode cL_row 628 = .ok (.aload_n 0, 1) := by decide +kernel
theorem dL_row_629 : decode cL_row 629 = .ok (.iconst 1, 1) := by decide +kernel
theorem dL_row_630 : decode cL_row 630 = .ok (.invokevirtual 58, 3) := by decide +kernel
theorem dL_row_633 : decode cL_row 633 = .ok (.iconst 1, 1) := by decide +kernel
theorem dL_row_634 : decode cL_row 634 = .ok (.if_icmp .ne 149, 3) := by decide +kernel
theorem dL_row_637 : decode cL_row 637 = .ok (.aload_n 0, 1) := by decide +kernel
theorem dL_row_638 : decode cL_row 638 = .ok (.iconst 1, 1) := by decide +kernel
theorem dL_row_639 : decode cL_row 639 = .ok (.iconst 0, 1) := by decide +kernel
theorem dL_row_640 : decode cL_row 640 = .ok (.invokevirtual 55, 3) := by decide +kernel
theorem dL_row_643 : decode cL_row 643 = .ok (.iconst 2, 1) := by decide +kernel
theorem dL_row_644 : decode cL_row 644 = .ok (.if_icmp .ne 139, 3) := by decide +kernel
theorem dL_row_647 : decode cL_row 647 = .ok (.aload_n 0, 1) := by decide +kernel
theorem dL_row_648 : decode cL_row 648 = .ok (.iconst 4, 1) := by decide +kernel
theorem dL_row_649 : decode cL_row 649 = .ok (.iconst 0, 1) := by decide +kernel
theorem dL_row_650 : decode cL_row 650 = .ok (.invokevirtual 70, 3) := by decide +kernel
theorem dL_row_653 : decode cL_row 653 = .ok (.iconst 1, 1) := by decide +kernel
theorem dL_row_654 : decode cL_row 654 = .ok (.if_icmp .ne 129, 3) := by decide +kernel
theorem dL_row_657 : decode cL_row 657 = .ok (.aload_n 0, 1) := by decide +kernel
theorem dL_row_658 : decode cL_row 658 = .ok (.iconst 4, 1) := by decide +kernel
theorem dL_row_659 : decode cL_row 659 = .ok (.iconst 1, 1) := by decide +kernel
theorem dL_row_660 : decode cL_row 660 = .ok (.invokevirtual 70, 3) := by decide +kernel
theorem dL_row_663 : decode cL_row 663 = .ok (.iconst 2, 1) := by decide +kernel
theorem dL_row_664 : decode cL_row 664 = .ok (.if_icmp .ne 119, 3) := by decide +kernel
theorem dL_row_667 : decode cL_row 667 = .ok (.aload_n 0, 1) := by decide +kernel
theorem dL_row_668 : decode cL_row 668 = .ok (.invokevirtual 114, 3) := by decide +kernel
theorem dL_row_671 : decode cL_row 671 = .ok (.iconst 3, 1) := by decide +kernel
theorem dL_row_672 : decode cL_row 672 = .ok (.if_icmp .ne 111, 3) := by decide +kernel
theorem dL_row_675 : decode cL_row 675 = .ok (.aload_n 0, 1) := by decide +kernel
theorem dL_row_676 : decode cL_row 676 = .ok (.iconst 0, 1) := by decide +kernel
theorem dL_row_677 : decode cL_row 677 = .ok (.invokevirtual 49, 3) := by decide +kernel
theorem dL_row_680 : decode cL_row 680 = .ok (.iconst 1, 1) := by decide +kernel
theorem dL_row_681 : decode cL_row 681 = .ok (.if_icmp .ne 102, 3) := by decide +kernel
theorem dL_row_684 : decode cL_row 684 = .ok (.aload_n 0, 1) := by decide +kernel
theorem dL_row_685 : decode cL_row 685 = .ok (.iconst 1, 1) := by decide +kernel
theorem dL_row_686 : decode cL_row 686 = .ok (.invokevirtual 49, 3) := by decide +kernel
theorem dL_row_689 : decode cL_row 689 = .ok (.sipush 1000, 3) := by decide +kernel
theorem dL_row_692 : decode cL_row 692 = .ok (.if_icmp .ne 91, 3) := by decide +kernel
theorem dL_row_695 : decode cL_row 695 = .ok (.aload_n 0, 1) := by decide +kernel
theorem dL_row_696 : decode cL_row 696 = .ok (.iconst 2, 1) := by decide +kernel
theorem dL_row_697 : decode cL_row 697 = .ok (.invokevirtual 49, 3) := by decide +kernel
theorem dL_row_700 : decode cL_row 700 = .ok (.sipush 4000, 3) := by decide +kernel
theorem dL_row_703 : decode cL_row 703 = .ok (.if_icmp .ne 80, 3) := by decide +kernel
theorem dL_row_706 : decode cL_row 706 = .ok (.aload_n 0, 1) := by decide +kernel
theorem dL_row_707 : decode cL_row 707 = .ok (.bipush 8, 2) := by decide +kernel
theorem dL_row_709 : decode cL_row 709 = .ok (.invokevirtual 58, 3) := by decide +kernel
theorem dL_row_712 : decode cL_row 712 = .ok (.iconst 3, 1) := by decide +kernel
theorem dL_row_713 : decode cL_row 713 = .ok (.if_icmp .ne 70, 3) := by decide +kernel
theorem dL_row_716 : decode cL_row 716 = .ok (.aload_n 0, 1) := by decide +kernel
theorem dL_row_717 : decode cL_row 717 = .ok (.sipush 2001, 3) := by decide +kernel
theorem dL_row_720 : decode cL_row 720 = .ok (.invokevirtual 108, 3) := by decide +kernel
theorem dL_row_723 : decode cL_row 723 = .ok (.iconst 2, 1) := by decide +kernel
theorem dL_row_724 : decode cL_row 724 = .ok (.if_icmp .ne 59, 3) := by decide +kernel
theorem dL_row_727 : decode cL_row 727 = .ok (.aload_n 0, 1) := by decide +kernel
theorem dL_row_728 : decode cL_row 728 = .ok (.iconst 2, 1) := by decide +kernel
theorem dL_row_729 : decode cL_row 729 = .ok (.iconst 0, 1) := by decide +kernel
theorem dL_row_730 : decode cL_row 730 = .ok (.invokevirtual 52, 3) := by decide +kernel
theorem dL_row_733 : decode cL_row 733 = .ok (.iconst 2, 1) := by decide +kernel
theorem dL_row_734 : decode cL_row 734 = .ok (.if_icmp .ne 49, 3) := by decide +kernel
theorem dL_row_737 : decode cL_row 737 = .ok (.aload_n 0, 1) := by decide +kernel
theorem dL_row_738 : decode cL_row 738 = .ok (.iconst 1, 1) := by decide +kernel
theorem dL_row_739 : decode cL_row 739 = .ok (.iconst 0, 1) := by decide +kernel
theorem dL_row_740 : decode cL_row 740 = .ok (.invokevirtual 46, 3) := by decide +kernel
theorem dL_row_743 : decode cL_row 743 = .ok (.bipush 8, 2) := by decide +kernel
theorem dL_row_745 : decode cL_row 745 = .ok (.if_icmp .ne 38, 3) := by decide +kernel
theorem dL_row_748 : decode cL_row 748 = .ok (.aload_n 0, 1) := by decide +kernel
theorem dL_row_749 : decode cL_row 749 = .ok (.invokestatic 104, 3) := by decide +kernel
theorem dL_row_752 : decode cL_row 752 = .ok (.ifCond .eq 31, 3) := by decide +kernel
theorem dL_row_755 : decode cL_row 755 = .ok (.aload_n 0, 1) := by decide +kernel
theorem dL_row_756 : decode cL_row 756 = .ok (.iconst 1, 1) := by decide +kernel
theorem dL_row_757 : decode cL_row 757 = .ok (.invokevirtual 30, 3) := by decide +kernel
theorem dL_row_760 : decode cL_row 760 = .ok (.iconst 1, 1) := by decide +kernel
theorem dL_row_761 : decode cL_row 761 = .ok (.if_icmp .ne 22, 3) := by decide +kernel
theorem dL_row_764 : decode cL_row 764 = .ok (.aload_n 0, 1) := by decide +kernel
theorem dL_row_765 : decode cL_row 765 = .ok (.iconst 1, 1) := by decide +kernel
theorem dL_row_766 : decode cL_row 766 = .ok (.invokevirtual 58, 3) := by decide +kernel
theorem dL_row_769 : decode cL_row 769 = .ok (.ifCond .ne 14, 3) := by decide +kernel
theorem dL_row_772 : decode cL_row 772 = .ok (.aload_n 0, 1) := by decide +kernel
theorem dL_row_773 : decode cL_row 773 = .ok (.bipush 9, 2) := by decide +kernel
theorem dL_row_775 : decode cL_row 775 = .ok (.invokevirtual 58, 3) := by decide +kernel
theorem dL_row_778 : decode cL_row 778 = .ok (.bipush 6, 2) := by decide +kernel
theorem dL_row_780 : decode cL_row 780 = .ok (.if_icmp .eq 5, 3) := by decide +kernel
theorem dL_row_783 : decode cL_row 783 = .ok (.iconst 0, 1) := by decide +kernel
theorem dL_row_784 : decode cL_row 784 = .ok (.ireturn, 1) := by decide +kernel
theorem dL_row_785 : decode cL_row 785 = .ok (.aload_n 0, 1) := by decide +kernel
theorem dL_row_786 : decode cL_row 786 = .ok (.invokevirtual 43, 3) := by decide +kernel
theorem dL_row_789 : decode cL_row 789 = .ok (.iconst 5, 1) := by decide +kernel
theorem dL_row_790 : decode cL_row 790 = .ok (.if_icmp .ne 108, 3) := by decide +kernel
theorem dL_row_793 : decode cL_row 793 = .ok (.aload_n 0, 1) := by decide +kernel
theorem dL_row_794 : decode cL_row 794 = .ok (.iconst 1, 1) := by decide +kernel
theorem dL_row_795 : decode cL_row 795 = .ok (.invokevirtual 58, 3) := by decide +kernel
theorem dL_row_798 : decode cL_row 798 = .ok (.iconst 1, 1) := by decide +kernel
theorem dL_row_799 : decode cL_row 799 = .ok (.if_icmp .ne 99, 3) := by decide +kernel
theorem dL_row_802 : decode cL_row 802 = .ok (.aload_n 0, 1) := by decide +kernel
theorem dL_row_803 : decode cL_row 803 = .ok (.iconst 1, 1) := by decide +kernel
theorem dL_row_804 : decode cL_row 804 = .ok (.iconst 0, 1) := by decide +kernel
theorem dL_row_805 : decode cL_row 805 = .ok (.invokevirtual 55, 3) := by decide +kernel
theorem dL_row_808 : decode cL_row 808 = .ok (.iconst 2, 1) := by decide +kernel
theorem dL_row_809 : decode cL_row 809 = .ok (.if_icmp .ne 89, 3) := by decide +kernel
theorem dL_row_812 : decode cL_row 812 = .ok (.aload_n 0, 1) := by decide +kernel
theorem dL_row_813 : decode cL_row 813 = .ok (.invokevirtual 43, 3) := by decide +kernel
theorem dL_row_816 : decode cL_row 816 = .ok (.iconst 4, 1) := by decide +kernel
theorem dL_row_817 : decode cL_row 817 = .ok (.if_icmp .ne 81, 3) := by decide +kernel
theorem dL_row_820 : decode cL_row 820 = .ok (.aload_n 0, 1) := by decide +kernel
theorem dL_row_821 : decode cL_row 821 = .ok (.iconst 0, 1) := by decide +kernel
theorem dL_row_822 : decode cL_row 822 = .ok (.invokevirtual 49, 3) := by decide +kernel
theorem dL_row_825 : decode cL_row 825 = .ok (.sipush 2001, 3) := by decide +kernel
theorem dL_row_828 : decode cL_row 828 = .ok (.if_icmp .ne 70, 3) := by decide +kernel
theorem dL_row_831 : decode cL_row 831 = .ok (.aload_n 0, 1) := by decide +kernel
theorem dL_row_832 : decode cL_row 832 = .ok (.iconst 2, 1) := by decide +kernel
theorem dL_row_833 : decode cL_row 833 = .ok (.iconst 0, 1) := by decide +kernel
theorem dL_row_834 : decode cL_row 834 = .ok (.invokevirtual 52, 3) := by decide +kernel
theorem dL_row_837 : decode cL_row 837 = .ok (.iconst 1, 1) := by decide +kernel
theorem dL_row_838 : decode cL_row 838 = .ok (.if_icmp .ne 60, 3) := by decide +kernel
theorem dL_row_841 : decode cL_row 841 = .ok (.aload_n 0, 1) := by decide +kernel
theorem dL_row_842 : decode cL_row 842 = .ok (.invokevirtual 43, 3) := by decide +kernel
theorem dL_row_845 : decode cL_row 845 = .ok (.iconst 3, 1) := by decide +kernel
theorem dL_row_846 : decode cL_row 846 = .ok (.if_icmp .ne 52, 3) := by decide +kernel
theorem dL_row_849 : decode cL_row 849 = .ok (.aload_n 0, 1) := by decide +kernel
theorem dL_row_850 : decode cL_row 850 = .ok (.iconst 0, 1) := by decide +kernel
theorem dL_row_851 : decode cL_row 851 = .ok (.invokevirtual 49, 3) := by decide +kernel
theorem dL_row_854 : decode cL_row 854 = .ok (.ifCond .ne 44, 3) := by decide +kernel
theorem dL_row_857 : decode cL_row 857 = .ok (.aload_n 0, 1) := by decide +kernel
theorem dL_row_858 : decode cL_row 858 = .ok (.iconst 1, 1) := by decide +kernel
theorem dL_row_859 : decode cL_row 859 = .ok (.iconst 0, 1) := by decide +kernel
theorem dL_row_860 : decode cL_row 860 = .ok (.invokevirtual 55, 3) := by decide +kernel
theorem dL_row_863 : decode cL_row 863 = .ok (.iconst 1, 1) := by decide +kernel
theorem dL_row_864 : decode cL_row 864 = .ok (.if_icmp .ne 34, 3) := by decide +kernel
theorem dL_row_867 : decode cL_row 867 = .ok (.aload_n 0, 1) := by decide +kernel
theorem dL_row_868 : decode cL_row 868 = .ok (.invokevirtual 43, 3) := by decide +kernel
theorem dL_row_871 : decode cL_row 871 = .ok (.iconst 2, 1) := by decide +kernel
theorem dL_row_872 : decode cL_row 872 = .ok (.if_icmp .ne 26, 3) := by decide +kernel
theorem dL_row_875 : decode cL_row 875 = .ok (.aload_n 0, 1) := by decide +kernel
theorem dL_row_876 : decode cL_row 876 = .ok (.iconst 5, 1) := by decide +kernel
theorem dL_row_877 : decode cL_row 877 = .ok (.invokevirtual 58, 3) := by decide +kernel
theorem dL_row_880 : decode cL_row 880 = .ok (.ifCond .ne 18, 3) := by decide +kernel
theorem dL_row_883 : decode cL_row 883 = .ok (.aload_n 0, 1) := by decide +kernel
theorem dL_row_884 : decode cL_row 884 = .ok (.sipush 3000, 3) := by decide +kernel
theorem dL_row_887 : decode cL_row 887 = .ok (.iconst 3, 1) := by decide +kernel
theorem dL_row_888 : decode cL_row 888 = .ok (.invokevirtual 46, 3) := by decide +kernel
theorem dL_row_891 : decode cL_row 891 = .ok (.ifCond .ne 7, 3) := by decide +kernel
theorem dL_row_894 : decode cL_row 894 = .ok (.iconst 1, 1) := by decide +kernel
theorem dL_row_895 : decode cL_row 895 = .ok (.goto 4, 3) := by decide +kernel
theorem dL_row_898 : decode cL_row 898 = .ok (.iconst 0, 1) := by decide +kernel
theorem dL_row_899 : decode cL_row 899 = .ok (.ireturn, 1) := by decide +kernel
theorem dL_store_0 : decode cL_store 0 = .ok (.new 10, 3) := by decide +kernel
theorem dL_store_3 : decode cL_store 3 = .ok (.dup, 1) := by decide +kernel
theorem dL_store_4 : decode cL_store 4 = .ok (.invokespecial 97, 3) := by decide +kernel
theorem dL_store_7 : decode cL_store 7 = .ok (.astore_n 0, 1) := by decide +kernel
theorem dL_store_8 : decode cL_store 8 = .ok (.iconst 0, 1) := by decide +kernel
theorem dL_store_9 : decode cL_store 9 = .ok (.istore_n 1, 1) := by decide +kernel
theorem dL_store_10 : decode cL_store 10 = .ok (.iload_n 1, 1) := by decide +kernel
theorem dL_store_11 : decode cL_store 11 = .ok (.iconst 3, 1) := by decide +kernel
theorem dL_store_12 : decode cL_store 12 = .ok (.if_icmp .ge 26, 3) := by decide +kernel
theorem dL_store_15 : decode cL_store 15 = .ok (.aload_n 0, 1) := by decide +kernel
theorem dL_store_16 : decode cL_store 16 = .ok (.iload_n 1, 1) := by decide +kernel
theorem dL_store_17 : decode cL_store 17 = .ok (.iconst 4, 1) := by decide +kernel
theorem dL_store_18 : decode cL_store 18 = .ok (.iconst 0, 1) := by decide +kernel
theorem dL_store_19 : decode cL_store 19 = .ok (.invokevirtual 9, 3) := by decide +kernel
theorem dL_store_22 : decode cL_store 22 = .ok (.sipush 4000, 3) := by decide +kernel
theorem dL_store_25 : decode cL_store 25 = .ok (.iload_n 1, 1) := by decide +kernel
theorem dL_store_26 : decode cL_store 26 = .ok (.imul, 1) := by decide +kernel
theorem dL_store_27 : decode cL_store 27 = .ok (.if_icmp .eq 5, 3) := by decide +kernel
theorem dL_store_30 : decode cL_store 30 = .ok (.iconst 0, 1) := by decide +kernel
theorem dL_store_31 : decode cL_store 31 = .ok (.ireturn, 1) := by decide +kernel
theorem dL_store_32 : decode cL_store 32 = .ok (.iinc 1 1, 3) := by decide +kernel
theorem dL_store_35 : decode cL_store 35 = .ok (.goto (-25), 3) := by decide +kernel
theorem dL_store_38 : decode cL_store 38 = .ok (.aload_n 0, 1) := by decide +kernel
theorem dL_store_39 : decode cL_store 39 = .ok (.iconst 3, 1) := by decide +kernel
theorem dL_store_40 : decode cL_store 40 = .ok (.iconst 3, 1) := by decide +kernel
theorem dL_store_41 : decode cL_store 41 = .ok (.iconst 2, 1) := by decide +kernel
theorem dL_store_42 : decode cL_store 42 = .ok (.invokevirtual 9, 3) := by decide +kernel
theorem dL_store_45 : decode cL_store 45 = .ok (.sipush 12000, 3) := by decide +kernel
theorem dL_store_48 : decode cL_store 48 = .ok (.if_icmp .ne 156, 3) := by decide +kernel
theorem dL_store_51 : decode cL_store 51 = .ok (.aload_n 0, 1) := by decide +kernel
theorem dL_store_52 : decode cL_store 52 = .ok (.iconst 1, 1) := by decide +kernel
theorem dL_store_53 : decode cL_store 53 = .ok (.invokevirtual 61, 3) := by decide +kernel
theorem dL_store_56 : decode cL_store 56 = .ok (.bipush 15, 2) := by decide +kernel
theorem dL_store_58 : decode cL_store 58 = .ok (.if_icmp .ne 146, 3) := by decide +kernel
theorem dL_store_61 : decode cL_store 61 = .ok (.aload_n 0, 1) := by decide +kernel
theorem dL_store_62 : decode cL_store 62 = .ok (.iconst 4, 1) := by decide +kernel
theorem dL_store_63 : decode cL_store 63 = .ok (.invokevirtual 61, 3) := by decide +kernel
theorem dL_store_66 : decode cL_store 66 = .ok (.bipush 15, 2) := by decide +kernel
theorem dL_store_68 : decode cL_store 68 = .ok (.if_icmp .ne 136, 3) := by decide +kernel
theorem dL_store_71 : decode cL_store 71 = .ok (.aload_n 0, 1) := by decide +kernel
theorem dL_store_72 : decode cL_store 72 = .ok (.iconst 2, 1) := by decide +kernel
theorem dL_store_73 : decode cL_store 73 = .ok (.invokevirtual 58, 3) := by decide +kernel
theorem dL_store_76 : decode cL_store 76 = .ok (.bipush 16, 2) := by decide +kernel
theorem dL_store_78 : decode cL_store 78 = .ok (.if_icmp .ne 126, 3) := by decide +kernel
theorem dL_store_81 : decode cL_store 81 = .ok (.aload_n 0, 1) := by decide +kernel
theorem dL_store_82 : decode cL_store 82 = .ok (.iconst 4, 1) := by decide +kernel
theorem dL_store_83 : decode cL_store 83 = .ok (.iconst 4, 1) := by decide +kernel
theorem dL_store_84 : decode cL_store 84 = .ok (.iconst 1, 1) := by decide +kernel
theorem dL_store_85 : decode cL_store 85 = .ok (.invokevirtual 9, 3) := by decide +kernel
theorem dL_store_88 : decode cL_store 88 = .ok (.sipush 15000, 3) := by decide +kernel
theorem dL_store_91 : decode cL_store 91 = .ok (.if_icmp .ne 113, 3) := by decide +kernel
theorem dL_store_94 : decode cL_store 94 = .ok (.aload_n 0, 1) := by decide +kernel
theorem dL_store_95 : decode cL_store 95 = .ok (.iconst 2, 1) := by decide +kernel
theorem dL_store_96 : decode cL_store 96 = .ok (.invokevirtual 58, 3) := by decide +kernel
theorem dL_store_99 : decode cL_store 99 = .ok (.bipush 32, 2) := by decide +kernel
theorem dL_store_101 : decode cL_store 101 = .ok (.if_icmp .ne 103, 3) := by decide +kernel
theorem dL_store_104 : decode cL_store 104 = .ok (.aload_n 0, 1) := by decide +kernel
theorem dL_store_105 : decode cL_store 105 = .ok (.iconst 1, 1) := by decide +kernel
theorem dL_store_106 : decode cL_store 106 = .ok (.invokevirtual 61, 3) := by decide +kernel
theorem dL_store_109 : decode cL_store 109 = .ok (.bipush 19, 2) := by decide +kernel
theorem dL_store_111 : decode cL_store 111 = .ok (.if_icmp .ne 93, 3) := by decide +kernel
theorem dL_store_114 : decode cL_store 114 = .ok (.aload_n 0, 1) := by decide +kernel
theorem dL_store_115 : decode cL_store 115 = .ok (.iconst 1, 1) := by decide +kernel
theorem dL_store_116 : decode cL_store 116 = .ok (.invokevirtual 30, 3) := by decide +kernel
theorem dL_store_119 : decode cL_store 119 = .ok (.ifCond .ne 85, 3) := by decide +kernel
theorem dL_store_122 : decode cL_store 122 = .ok (.aload_n 0, 1) := by decide +kernel
theorem dL_store_123 : decode cL_store 123 = .ok (.bipush 9, 2) := by decide +kernel
theorem dL_store_125 : decode cL_store 125 = .ok (.iconst 2, 1) := by decide +kernel
theorem dL_store_126 : decode cL_store 126 = .ok (.invokevirtual 67, 3) := by decide +kernel
theorem dL_store_129 : decode cL_store 129 = .ok (.bipush 64, 2) := by decide +kernel
theorem dL_store_131 : decode cL_store 131 = .ok (.if_icmp .ne 73, 3) := by decide +kernel
theorem dL_store_134 : decode cL_store 134 = .ok (.aload_n 0, 1) := by decide +kernel
theorem dL_store_135 : decode cL_store 135 = .ok (.invokevirtual 111, 3) := by decide +kernel
theorem dL_store_138 : decode cL_store 138 = .ok (.bipush 10, 2) := by decide +kernel
theorem dL_store_140 : decode cL_store 140 = .ok (.if_icmp .ne 64, 3) := by decide +kernel
theorem dL_store_143 : decode cL_store 143 = .ok (.aload_n 0, 1) := by decide +kernel
theorem dL_store_144 : decode cL_store 144 = .ok (.sipush 15000, 3) := by decide +kernel
theorem dL_store_147 : decode cL_store 147 = .ok (.invokevirtual 108, 3) := by decide +kernel
theorem dL_store_150 : decode cL_store 150 = .ok (.iconst 2, 1) := by decide +kernel
theorem dL_store_151 : decode cL_store 151 = .ok (.if_icmp .ne 53, 3) := by decide +kernel
theorem dL_store_154 : decode cL_store 154 = .ok (.aload_n 0, 1) := by decide +kernel
theorem dL_store_155 : decode cL_store 155 = .ok (.iconst 4, 1) := by decide +kernel
theorem dL_store_156 : decode cL_store 156 = .ok (.invokevirtual 49, 3) := by decide +kernel
theorem dL_store_159 : decode cL_store 159 = .ok (.sipush 19000, 3) := by decide +kernel
theorem dL_store_162 : decode cL_store 162 = .ok (.if_icmp .ne 42, 3) := by decide +kernel
theorem dL_store_165 : decode cL_store 165 = .ok (.aload_n 0, 1) := by decide +kernel
theorem dL_store_166 : decode cL_store 166 = .ok (.iconst 0, 1) := by decide +kernel
theorem dL_store_167 : decode cL_store 167 = .ok (.invokevirtual 58, 3) := by decide +kernel
theorem dL_store_170 : decode cL_store 170 = .ok (.iconst 5, 1) := by decide +kernel
theorem dL_store_171 : decode cL_store 171 = .ok (.if_icmp .ne 33, 3) := by decide +kernel
theorem dL_store_174 : decode cL_store 174 = .ok (.aload_n 0, 1) := by decide +kernel
theorem dL_store_175 : decode cL_store 175 = .ok (.iconst 1, 1) := by decide +kernel
theorem dL_store_176 : decode cL_store 176 = .ok (.invokevirtual 58, 3) := by decide +kernel
theorem dL_store_179 : decode cL_store 179 = .ok (.ifCond .ne 25, 3) := by decide +kernel
theorem dL_store_182 : decode cL_store 182 = .ok (.aload_n 0, 1) := by decide +kernel
theorem dL_store_183 : decode cL_store 183 = .ok (.sipush 19000, 3) := by decide +kernel
theorem dL_store_186 : decode cL_store 186 = .ok (.iconst 1, 1) := by decide +kernel
theorem dL_store_187 : decode cL_store 187 = .ok (.invokevirtual 46, 3) := by decide +kernel
theorem dL_store_190 : decode cL_store 190 = .ok (.iconst 3, 1) := by decide +kernel
theorem dL_store_191 : decode cL_store 191 = .ok (.if_icmp .ne 13, 3) := by decide +kernel
theorem dL_store_194 : decode cL_store 194 = .ok (.aload_n 0, 1) := by decide +kernel
theorem dL_store_195 : decode cL_store 195 = .ok (.iconst 3, 1) := by decide +kernel
theorem dL_store_196 : decode cL_store 196 = .ok (.invokevirtual 58, 3) := by decide +kernel
theorem dL_store_199 : decode cL_store 199 = .ok (.bipush 14, 2) := by decide +kernel
theorem dL_store_201 : decode cL_store 201 = .ok (.if_icmp .eq 5, 3) := by decide +kernel
theorem dL_store_204 : decode cL_store 204 = .ok (.iconst 0, 1) := by decide +kernel
theorem dL_store_205 : decode cL_store 205 = .ok (.ireturn, 1) := by decide +kernel
theorem dL_store_206 : decode cL_store 206 = .ok (.iconst 0, 1) := by decide +kernel
theorem dL_store_207 : decode cL_store 207 = .ok (.istore_n 1, 1) := by decide +kernel
theorem dL_store_208 : decode cL_store 208 = .ok (.iload_n 1, 1) := by decide +kernel
theorem dL_store_209 : decode cL_store 209 = .ok (.bipush 11, 2) := by decide +kernel
theorem dL_store_211 : decode cL_store 211 = .ok (.if_icmp .ge 61, 3) := by decide +kernel
theorem dL_store_214 : decode cL_store 214 = .ok (.aload_n 0, 1) := by decide +kernel
theorem dL_store_215 : decode cL_store 215 = .ok (.sipush 900, 3) := by decide +kernel
theorem dL_store_218 : decode cL_store 218 = .ok (.iconst 4, 1) := by decide +kernel
theorem dL_store_219 : decode cL_store 219 = .ok (.iconst 0, 1) := by decide +kernel
theorem dL_store_220 : decode cL_store 220 = .ok (.invokevirtual 9, 3) := by decide +kernel
theorem dL_store_223 : decode cL_store 223 = .ok (.iload_n 1, 1) := by decide +kernel
theorem dL_store_224 : decode cL_store 224 = .ok (.ifCond .ne 9, 3) := by decide +kernel
theorem dL_store_227 : decode cL_store 227 = .ok (.sipush 15001, 3) := by decide +kernel
theorem dL_store_230 : decode cL_store 230 = .ok (.goto 31, 3) := by decide +kernel
theorem dL_store_233 : decode cL_store 233 = .ok (.iload_n 1, 1) := by decide +kernel
theorem dL_store_234 : decode cL_store 234 = .ok (.iconst 3, 1) := by decide +kernel
theorem dL_store_235 : decode cL_store 235 = .ok (.if_icmp .ge 15, 3) := by decide +kernel
theorem dL_store_238 : decode cL_store 238 = .ok (.sipush 18000, 3) := by decide +kernel
theorem dL_store_241 : decode cL_store 241 = .ok (.sipush 4000, 3) := by decide +kernel
theorem dL_store_244 : decode cL_store 244 = .ok (.iload_n 1, 1) := by decide +kernel
theorem dL_store_245 : decode cL_store 245 = .ok (.imul, 1) := by decide +kernel
theorem dL_store_246 : decode cL_store 246 = .ok (.iadd, 1) := by decide +kernel
theorem dL_store_247 : decode cL_store 247 = .ok (.goto 14, 3) := by decide +kernel
theorem dL_store_250 : decode cL_store 250 = .ok (.sipush 30000, 3) := by decide +kernel
theorem dL_store_253 : decode cL_store 253 = .ok (.sipush 4000, 3) := by decide +kernel
theorem dL_store_256 : decode cL_store 256 = .ok (.iload_n 1, 1) := by decide +kernel
theorem dL_store_257 : decode cL_store 257 = .ok (.iconst 3, 1) := by decide +kernel
theorem dL_store_258 : decode cL_store 258 = .ok (.isub, 1) := by decide +kernel
theorem dL_store_259 : decode cL_store 259 = .ok (.imul, 1) := by decide +kernel
theorem dL_store_260 : decode cL_store 260 = .ok (.iadd, 1) := by decide +kernel
theorem dL_store_261 : decode cL_store 261 = .ok (.if_icmp .eq 5, 3) := by decide +kernel
theorem dL_store_264 : decode cL_store 264 = .ok (.iconst 0, 1) := by decide +kernel
theorem dL_store_265 : decode cL_store 265 = .ok (.ireturn, 1) := by decide +kernel
theorem dL_store_266 : decode cL_store 266 = .ok (.iinc 1 1, 3) := by decide +kernel
theorem dL_store_269 : decode cL_store 269 = .ok (.goto (-61), 3) := by decide +kernel
theorem dL_store_272 : decode cL_store 272 = .ok (.aload_n 0, 1) := by decide +kernel
theorem dL_store_273 : decode cL_store 273 = .ok (.iconst 2, 1) := by decide +kernel
theorem dL_store_274 : decode cL_store 274 = .ok (.invokevirtual 58, 3) := by decide +kernel
theorem dL_store_277 : decode cL_store 277 = .ok (.bipush 64, 2) := by decide +kernel
theorem dL_store_279 : decode cL_store 279 = .ok (.if_icmp .ne 156, 3) := by decide +kernel
theorem dL_store_282 : decode cL_store 282 = .ok (.aload_n 0, 1) := by decide +kernel
theorem dL_store_283 : decode cL_store 283 = .ok (.iconst 3, 1) := by decide +kernel
theorem dL_store_284 : decode cL_store 284 = .ok (.invokevirtual 58, 3) := by decide +kernel
theorem dL_store_287 : decode cL_store 287 = .ok (.iconst 2, 1) := by decide +kernel
theorem dL_store_288 : decode cL_store 288 = .ok (.if_icmp .ne 147, 3) := by decide +kernel
theorem dL_store_291 : decode cL_store 291 = .ok (.aload_n 0, 1) := by decide +kernel
theorem dL_store_292 : decode cL_store 292 = .ok (.iconst 4, 1) := by decide +kernel
theorem dL_store_293 : decode cL_store 293 = .ok (.invokevirtual 61, 3) := by decide +kernel
theorem dL_store_296 : decode cL_store 296 = .ok (.iconst (-1), 1) := by decide +kernel
theorem dL_store_297 : decode cL_store 297 = .ok (.if_icmp .ne 138, 3) := by decide +kernel
theorem dL_store_300 : decode cL_store 300 = .ok (.aload_n 0, 1) := by decide +kernel
theorem dL_store_301 : decode cL_store 301 = .ok (.iconst 3, 1) := by decide +kernel
theorem dL_store_302 : decode cL_store 302 = .ok (.invokevirtual 61, 3) := by decide +kernel
theorem dL_store_305 : decode cL_store 305 = .ok (.iconst (-1), 1) := by decide +kernel
theorem dL_store_306 : decode cL_store 306 = .ok (.if_icmp .ne 129, 3) := by decide +kernel
theorem dL_store_309 : decode cL_store 309 = .ok (.aload_n 0, 1) := by decide +kernel
theorem dL_store_310 : decode cL_store 310 = .ok (.iconst 2, 1) := by decide +kernel
theorem dL_store_311 : decode cL_store 311 = .ok (.invokevirtual 61, 3) := by decide +kernel
theorem dL_store_314 : decode cL_store 314 = .ok (.bipush 62, 2) := by decide +kernel
theorem dL_store_316 : decode cL_store 316 = .ok (.if_icmp .ne 119, 3) := by decide +kernel
theorem dL_store_319 : decode cL_store 319 = .ok (.aload_n 0, 1) := by decide +kernel
theorem dL_store_320 : decode cL_store 320 = .ok (.iconst 0, 1) := by decide +kernel
theorem dL_store_321 : decode cL_store 321 = .ok (.iconst 1, 1) := by decide +kernel
theorem dL_store_322 : decode cL_store 322 = .ok (.iconst 3, 1) := by decide +kernel
theorem dL_store_323 : decode cL_store 323 = .ok (.iconst 0, 1) := by decide +kernel
theorem dL_store_324 : decode cL_store 324 = .ok (.invokestatic 80, 3) := by decide +kernel
theorem dL_store_327 : decode cL_store 327 = .ok (.bipush (-13), 2) := by decide +kernel
theorem dL_store_329 : decode cL_store 329 = .ok (.if_icmp .ne 106, 3) := by decide +kernel
theorem dL_store_332 : decode cL_store 332 = .ok (.aload_n 0, 1) := by decide +kernel
theorem dL_store_333 : decode cL_store 333 = .ok (.iconst 0, 1) := by decide +kernel
theorem dL_store_334 : decode cL_store 334 = .ok (.iconst 1, 1) := by decide +kernel
theorem dL_store_335 : decode cL_store 335 = .ok (.iconst 5, 1) := by decide +kernel
theorem dL_store_336 : decode cL_store 336 = .ok (.iconst 0, 1) := by decide +kernel
theorem dL_store_337 : decode cL_store 337 = .ok (.invokestatic 80, 3) := by decide +kernel
theorem dL_store_340 : decode cL_store 340 = .ok (.bipush (-12), 2) := by decide +kernel
theorem dL_store_342 : decode cL_store 342 = .ok (.if_icmp .ne 93, 3) := by decide +kernel
theorem dL_store_345 : decode cL_store 345 = .ok (.aload_n 0, 1) := by decide +kernel
theorem dL_store_346 : decode cL_store 346 = .ok (.iconst 1, 1) := by decide +kernel
theorem dL_store_347 : decode cL_store 347 = .ok (.iconst 0, 1) := by decide +kernel
theorem dL_store_348 : decode cL_store 348 = .ok (.iconst 3, 1) := by decide +kernel
theorem dL_store_349 : decode cL_store 349 = .ok (.iconst 0, 1) := by decide +kernel
theorem dL_store_350 : decode cL_store 350 = .ok (.invokestatic 80, 3) := by decide +kernel
theorem dL_store_353 : decode cL_store 353 = .ok (.bipush (-13), 2) := by decide +kernel
theorem dL_store_355 : decode cL_store 355 = .ok (.if_icmp .ne 80, 3) := by decide +kernel
theorem dL_store_358 : decode cL_store 358 = .ok (.aload_n 0, 1) := by decide +kernel
theorem dL_store_359 : decode cL_store 359 = .ok (.iconst 1, 1) := by decide +kernel
theorem dL_store_360 : decode cL_store 360 = .ok (.iconst 1, 1) := by decide +kernel
theorem dL_store_361 : decode cL_store 361 = .ok (.invokevirtual 67, 3) := by decide +kernel
theorem dL_store_364 : decode cL_store 364 = .ok (.bipush 16, 2) := by decide +kernel
theorem dL_store_366 : decode cL_store 366 = .ok (.if_icmp .ne 69, 3) := by decide +kernel
theorem dL_store_369 : decode cL_store 369 = .ok (.aload_n 0, 1) := by decide +kernel
theorem dL_store_370 : decode cL_store 370 = .ok (.iconst 1, 1) := by decide +kernel
theorem dL_store_371 : decode cL_store 371 = .ok (.iconst 1, 1) := by decide +kernel
theorem dL_store_372 : decode cL_store 372 = .ok (.iconst 1, 1) := by decide +kernel
theorem dL_store_373 : decode cL_store 373 = .ok (.invokevirtual 9, 3) := by decide +kernel
theorem dL_store_376 : decode cL_store 376 = .ok (.ldc 117, 2) := by decide +kernel
theorem dL_store_378 : decode cL_store 378 = .ok (.if_icmp .ne 57, 3) := by decide +kernel
theorem dL_store_381 : decode cL_store 381 = .ok (.aload_n 0, 1) := by decide +kernel
theorem dL_store_382 : decode cL_store 382 = .ok (.iconst 1, 1) := by decide +kernel
theorem dL_store_383 : decode cL_store 383 = .ok (.iconst 1, 1) := by decide +kernel
theorem dL_store_384 : decode cL_store 384 = .ok (.iconst 1, 1) := by decide +kernel
theorem dL_store_385 : decode cL_store 385 = .ok (.invokevirtual 9, 3) := by decide +kernel
theorem dL_store_388 : decode cL_store 388 = .ok (.ldc 118, 2) := by decide +kernel
theorem dL_store_390 : decode cL_store 390 = .ok (.if_icmp .ne 45, 3) := by decide +kernel
theorem dL_store_393 : decode cL_store 393 = .ok (.aload_n 0, 1) := by decide +kernel
theorem dL_store_394 : decode cL_store 394 = .ok (.iconst 0, 1) := by decide +kernel
theorem dL_store_395 : decode cL_store 395 = .ok (.invokevirtual 64, 3) := by decide +kernel
theorem dL_store_398 : decode cL_store 398 = .ok (.ifCond .ne 37, 3) := by decide +kernel
theorem dL_store_401 : decode cL_store 401 = .ok (.aload_n 0, 1) := by decide +kernel
theorem dL_store_402 : decode cL_store 402 = .ok (.iconst 1, 1) := by decide +kernel
theorem dL_store_403 : decode cL_store 403 = .ok (.invokevirtual 64, 3) := by decide +kernel
theorem dL_store_406 : decode cL_store 406 = .ok (.iconst (-1), 1) := by decide +kernel
theorem dL_store_407 : decode cL_store 407 = .ok (.if_icmp .ne 28, 3) := by decide +kernel
theorem dL_store_410 : decode cL_store 410 = .ok (.aload_n 0, 1) := by decide +kernel
theorem dL_store_411 : decode cL_store 411 = .ok (.invokevirtual 98, 3) := by decide +kernel
theorem dL_store_414 : decode cL_store 414 = .ok (.dconst 1, 1) := by decide +kernel
theorem dL_store_415 : decode cL_store 415 = .ok (.dcmp .l, 1) := by decide +kernel
theorem dL_store_416 : decode cL_store 416 = .ok (.ifCond .ne 19, 3) := by decide +kernel
theorem dL_store_419 : decode cL_store 419 = .ok (.aload_n 0, 1) := by decide +kernel
theorem dL_store_420 : decode cL_store 420 = .ok (.iconst 1, 1) := by decide +kernel
theorem dL_store_421 : decode cL_store 421 = .ok (.iconst 1, 1) := by decide +kernel
theorem dL_store_422 : decode cL_store 422 = .ok (.invokevirtual 70, 3) := by decide +kernel
theorem dL_store_425 : decode cL_store 425 = .ok (.ifCond .ne 10, 3) := by decide +kernel
theorem dL_store_428 : decode cL_store 428 = .ok (.aload_n 0, 1) := by decide +kernel
theorem dL_store_429 : decode cL_store 429 = .ok (.invokestatic 104, 3) := by decide +kernel
theorem dL_store_432 : decode cL_store 432 = .ok (.ifCond .ne 5, 3) := by decide +kernel
theorem dL_store_435 : decode cL_store 435 = .ok (.iconst 0, 1) := by decide +kernel
theorem dL_store_436 : decode cL_store 436 = .ok (.ireturn, 1) := by decide +kernel
theorem dL_store_437 : decode cL_store 437 = .ok (.aload_n 0, 1) := by decide +kernel
theorem dL_store_438 : decode cL_store 438 = .ok (.invokevirtual 111, 3) := by decide +kernel
theorem dL_store_441 : decode cL_store 441 = .ok (.sipush 9911, 3) := by decide +kernel
theorem dL_store_444 : decode cL_store 444 = .ok (.if_icmp .ne 25, 3) := by decide +kernel
theorem dL_store_447 : decode cL_store 447 = .ok (.aload_n 0, 1) := by decide +kernel
theorem dL_store_448 : decode cL_store 448 = .ok (.iconst 0, 1) := by decide +kernel
theorem dL_store_449 : decode cL_store 449 = .ok (.invokevirtual 58, 3) := by decide +kernel
theorem dL_store_452 : decode cL_store 452 = .ok (.bipush 16, 2) := by decide +kernel
theorem dL_store_454 : decode cL_store 454 = .ok (.if_icmp .ne 15, 3) := by decide +kernel
theorem dL_store_457 : decode cL_store 457 = .ok (.aload_n 0, 1) := by decide +kernel
theorem dL_store_458 : decode cL_store 458 = .ok (.sipush 12000, 3) := by decide +kernel
theorem dL_store_461 : decode cL_store 461 = .ok (.iconst 3, 1) := by decide +kernel
theorem dL_store_462 : decode cL_store 462 = .ok (.invokevirtual 46, 3) := by decide +kernel
theorem dL_store_465 : decode cL_store 465 = .ok (.iconst 2, 1) := by decide +kernel
theorem dL_store_466 : decode cL_store 466 = .ok (.if_icmp .eq 5, 3) := by decide +kernel
theorem dL_store_469 : decode cL_store 469 = .ok (.iconst 0, 1) := by decide +kernel
theorem dL_store_470 : decode cL_store 470 = .ok (.ireturn, 1) := by decide +kernel
theorem dL_store_471 : decode cL_store 471 = .ok (.new 10, 3) := by decide +kernel
theorem dL_store_474 : decode cL_store 474 = .ok (.dup, 1) := by decide +kernel
theorem dL_store_475 : decode cL_store 475 = .ok (.invokespecial 97, 3) := by decide +kernel
theorem dL_store_478 : decode cL_store 478 = .ok (.astore_n 1, 1) := by decide +kernel
theorem dL_store_479 : decode cL_store 479 = .ok (.iconst 0, 1) := by decide +kernel
theorem dL_store_480 : decode cL_store 480 = .ok (.istore_n 2, 1) := by decide +kernel
theorem dL_store_481 : decode cL_store 481 = .ok (.iload_n 2, 1) := by decide +kernel
theorem dL_store_482 : decode cL_store 482 = .ok (.sipush 1000, 3) := by decide +kernel
theorem dL_store_485 : decode cL_store 485 = .ok (.if_icmp .ge 31, 3) := by decide +kernel
theorem dL_store_488 : decode cL_store 488 = .ok (.aload_n 1, 1) := by decide +kernel
theorem dL_store_489 : decode cL_store 489 = .ok (.iconst 1, 1) := by decide +kernel
theorem dL_store_490 : decode cL_store 490 = .ok (.iconst 1, 1) := by decide +kernel
theorem dL_store_491 : decode cL_store 491 = .ok (.iconst 0, 1) := by decide +kernel
theorem dL_store_492 : decode cL_store 492 = .ok (.invokevirtual 9, 3) := by decide +kernel
theorem dL_store_495 : decode cL_store 495 = .ok (.iload_n 2, 1) := by decide +kernel
theorem dL_store_496 : decode cL_store 496 = .ok (.if_icmp .ne 12, 3) := by decide +kernel
theorem dL_store_499 : decode cL_store 499 = .ok (.aload_n 1, 1) := by decide +kernel
theorem dL_store_500 : decode cL_store 500 = .ok (.iload_n 2, 1) := by decide +kernel
theorem dL_store_501 : decode cL_store 501 = .ok (.invokevirtual 19, 3) := by decide +kernel
theorem dL_store_504 : decode cL_store 504 = .ok (.iconst 1, 1) := by decide +kernel
theorem dL_store_505 : decode cL_store 505 = .ok (.if_icmp .eq 5, 3) := by decide +kernel
theorem dL_store_508 : decode cL_store 508 = .ok (.iconst 0, 1) := by decide +kernel
theorem dL_store_509 : decode cL_store 509 = .ok (.ireturn, 1) := by decide +kernel
theorem dL_store_510 : decode cL_store 510 = .ok (.iinc 2 1, 3) := by decide +kernel
theorem dL_store_513 : decode cL_store 513 = .ok (.goto (-32), 3) := by decide +kernel
theorem dL_store_516 : decode cL_store 516 = .ok (.aload_n 1, 1) := by decide +kernel
theorem dL_store_517 : decode cL_store 517 = .ok (.iconst 1, 1) := by decide +kernel
theorem dL_store_518 : decode cL_store 518 = .ok (.iconst 1, 1) := by decide +kernel
theorem dL_store_519 : decode cL_store 519 = .ok (.iconst 0, 1) := by decide +kernel
theorem dL_store_520 : decode cL_store 520 = .ok (.invokevirtual 9, 3) := by decide +kernel
theorem dL_store_523 : decode cL_store 523 = .ok (.ifCond .ne 42, 3) := by decide +kernel
theorem dL_store_526 : decode cL_store 526 = .ok (.aload_n 1, 1) := by decide +kernel
theorem dL_store_527 : decode cL_store 527 = .ok (.bipush 6, 2) := by decide +kernel
theorem dL_store_529 : decode cL_store 529 = .ok (.invokevirtual 58, 3) := by decide +kernel
theorem dL_store_532 : decode cL_store 532 = .ok (.sipush 1001, 3) := by decide +kernel
theorem dL_store_535 : decode cL_store 535 = .ok (.if_icmp .ne 30, 3) := by decide +kernel
theorem dL_store_538 : decode cL_store 538 = .ok (.aload_n 1, 1) := by decide +kernel
theorem dL_store_539 : decode cL_store 539 = .ok (.bipush 7, 2) := by decide +kernel
theorem dL_store_541 : decode cL_store 541 = .ok (.invokevirtual 58, 3) := by decide +kernel
theorem dL_store_544 : decode cL_store 544 = .ok (.sipush 1000, 3) := by decide +kernel
theorem dL_store_547 : decode cL_store 547 = .ok (.if_icmp .ne 18, 3) := by decide +kernel
theorem dL_store_550 : decode cL_store 550 = .ok (.aload_n 1, 1) := by decide +kernel
theorem dL_store_551 : decode cL_store 551 = .ok (.bipush 9, 2) := by decide +kernel
theorem dL_store_553 : decode cL_store 553 = .ok (.invokevirtual 58, 3) := by decide +kernel
theorem dL_store_556 : decode cL_store 556 = .ok (.bipush 6, 2) := by decide +kernel
theorem dL_store_558 : decode cL_store 558 = .ok (.if_icmp .ne 7, 3) := by decide +kernel
theorem dL_store_561 : decode cL_store 561 = .ok (.iconst 1, 1) := by decide +kernel
theorem dL_store_562 : decode cL_store 562 = .ok (.goto 4, 3) := by decide +kernel
theorem dL_store_565 : decode cL_store 565 = .ok (.iconst 0, 1) := by decide +kernel
theorem dL_store_566 : decode cL_store 566 = .ok (.ireturn, 1) := by decide +kernel
theorem dL_isError_0 : decode cL_isError 0 = .ok (.aload_n 0, 1) := by decide +kernel
theorem dL_isError_1 : decode cL_isError 1 = .ok (.invokevirtual 119, 3) := by decide +kernel
theorem dL_isError_4 : decode cL_isError 4 = .ok (.ifCond .lt 7, 3) := by decide +kernel
theorem dL_isError_7 : decode cL_isError 7 = .ok (.iconst 1, 1) := by decide +kernel
theorem dL_isError_8 : decode cL_isError 8 = .ok (.goto 4, 3) := by decide +kernel
theorem dL_isError_11 : decode cL_isError 11 = .ok (.iconst 0, 1) := by decide +kernel
theorem dL_isError_12 : decode cL_isError 12 = .ok (.istore 4, 2) := by decide +kernel
theorem dL_isError_14 : decode cL_isError 14 = .ok (.bipush 56, 2) := by decide +kernel
theorem dL_isError_16 : decode cL_isError 16 = .ok (.istore 5, 2) := by decide +kernel
theorem dL_isError_18 : decode cL_isError 18 = .ok (.iload 5, 2) := by decide +kernel
theorem dL_isError_20 : decode cL_isError 20 = .ok (.ifCond .lt 46, 3) := by decide +kernel
theorem dL_isError_23 : decode cL_isError 23 = .ok (.lload_n 1, 1) := by decide +kernel
theorem dL_isError_24 : decode cL_isError 24 = .ok (.iload 5, 2) := by decide +kernel
theorem dL_isError_26 : decode cL_isError 26 = .ok (.lshr, 1) := by decide +kernel
theorem dL_isError_27 : decode cL_isError 27 = .ok (.ldc2_w 122, 3) := by decide +kernel
theorem dL_isError_30 : decode cL_isError 30 = .ok (.land, 1) := by decide +kernel
theorem dL_isError_31 : decode cL_isError 31 = .ok (.l2i, 1) := by decide +kernel
theorem dL_isError_32 : decode cL_isError 32 = .ok (.istore 6, 2) := by decide +kernel
theorem dL_isError_34 : decode cL_isError 34 = .ok (.iload 4, 2) := by decide +kernel
theorem dL_isError_36 : decode cL_isError 36 = .ok (.ifCond .eq 21, 3) := by decide +kernel
theorem dL_isError_39 : decode cL_isError 39 = .ok (.iload 6, 2) := by decide +kernel
theorem dL_isError_41 : decode cL_isError 41 = .ok (.ifCond .eq 12, 3) := by decide +kernel
theorem dL_isError_44 : decode cL_isError 44 = .ok (.aload_n 0, 1) := by decide +kernel
theorem dL_isError_45 : decode cL_isError 45 = .ok (.iload 6, 2) := by decide +kernel
theorem dL_isError_47 : decode cL_isError 47 = .ok (.invokevirtual 36, 3) := by decide +kernel
theorem dL_isError_50 : decode cL_isError 50 = .ok (.ifCond .le 7, 3) := by decide +kernel
theorem dL_isError_53 : decode cL_isError 53 = .ok (.iconst 1, 1) := by decide +kernel
theorem dL_isError_54 : decode cL_isError 54 = .ok (.goto 4, 3) := by decide +kernel
theorem dL_isError_57 : decode cL_isError 57 = .ok (.iconst 0, 1) := by decide +kernel
theorem dL_isError_58 : decode cL_isError 58 = .ok (.istore 4, 2) := by decide +kernel
theorem dL_isError_60 : decode cL_isError 60 = .ok (.iinc 5 (-8), 3) := by decide +kernel
theorem dL_isError_63 : decode cL_isError 63 = .ok (.goto (-45), 3) := by decide +kernel
theorem dL_isError_66 : decode cL_isError 66 = .ok (.iload 4, 2) := by decide +kernel
theorem dL_isError_68 : decode cL_isError 68 = .ok (.ifCond .eq 15, 3) := by decide +kernel
theorem dL_isError_71 : decode cL_isError 71 = .ok (.aload_n 0, 1) := by decide +kernel
theorem dL_isError_72 : decode cL_isError 72 = .ok (.invokevirtual 124, 3) := by decide +kernel
theorem dL_isError_75 : decode cL_isError 75 = .ok (.iload_n 3, 1) := by decide +kernel
theorem dL_isError_76 : decode cL_isError 76 = .ok (.if_icmp .ne 7, 3) := by decide +kernel
theorem dL_isError_79 : decode cL_isError 79 = .ok (.iconst 1, 1) := by decide +kernel
theorem dL_isError_80 : decode cL_isError 80 = .ok (.goto 4, 3) := by decide +kernel
theorem dL_isError_83 : decode cL_isError 83 = .ok (.iconst 0, 1) := by decide +kernel
theorem dL_isError_84 : decode cL_isError 84 = .ok (.ireturn, 1) := by decide +kernel
theorem dL_texts_0 : decode cL_texts 0 = .ok (.new 10, 3) := by decide +kernel
theorem dL_texts_3 : decode cL_texts 3 = .ok (.dup, 1) := by decide +kernel
theorem dL_texts_4 : decode cL_texts 4 = .ok (.invokespecial 97, 3) := by decide +kernel
theorem dL_texts_7 : decode cL_texts 7 = .ok (.astore_n 0, 1) := by decide +kernel
theorem dL_texts_8 : decode cL_texts 8 = .ok (.aload_n 0, 1) := by decide +kernel
theorem dL_texts_9 : decode cL_texts 9 = .ok (.invokevirtual 124, 3) := by decide +kernel
theorem dL_texts_12 : decode cL_texts 12 = .ok (.ifCond .ne 148, 3) := by decide +kernel
theorem dL_texts_15 : decode cL_texts 15 = .ok (.aload_n 0, 1) := by decide +kernel
theorem dL_texts_16 : decode cL_texts 16 = .ok (.ldc2_w 127, 3) := by decide +kernel
theorem dL_texts_19 : decode cL_texts 19 = .ok (.iconst 3, 1) := by decide +kernel
theorem dL_texts_20 : decode cL_texts 20 = .ok (.invokestatic 129, 3) := by decide +kernel
theorem dL_texts_23 : decode cL_texts 23 = .ok (.ifCond .eq 137, 3) := by decide +kernel
theorem dL_texts_26 : decode cL_texts 26 = .ok (.aload_n 0, 1) := by decide +kernel
theorem dL_texts_27 : decode cL_texts 27 = .ok (.ldc2_w 133, 3) := by decide +kernel
theorem dL_texts_30 : decode cL_texts 30 = .ok (.iconst 1, 1) := by decide +kernel
theorem dL_texts_31 : decode cL_texts 31 = .ok (.invokestatic 129, 3) := by decide +kernel
theorem dL_texts_34 : decode cL_texts 34 = .ok (.ifCond .eq 126, 3) := by decide +kernel
theorem dL_texts_37 : decode cL_texts 37 = .ok (.aload_n 0, 1) := by decide +kernel
theorem dL_texts_38 : decode cL_texts 38 = .ok (.ldc2_w 135, 3) := by decide +kernel
theorem dL_texts_41 : decode cL_texts 41 = .ok (.iconst 2, 1) := by decide +kernel
theorem dL_texts_42 : decode cL_texts 42 = .ok (.invokestatic 129, 3) := by decide +kernel
theorem dL_texts_45 : decode cL_texts 45 = .ok (.ifCond .eq 115, 3) := by decide +kernel
theorem dL_texts_48 : decode cL_texts 48 = .ok (.aload_n 0, 1) := by decide +kernel
theorem dL_texts_49 : decode cL_texts 49 = .ok (.ldc2_w 137, 3) := by decide +kernel
theorem dL_texts_52 : decode cL_texts 52 = .ok (.iconst 2, 1) := by decide +kernel
theorem dL_texts_53 : decode cL_texts 53 = .ok (.invokestatic 129, 3) := by decide +kernel
theorem dL_texts_56 : decode cL_texts 56 = .ok (.ifCond .eq 104, 3) := by decide +kernel
theorem dL_texts_59 : decode cL_texts 59 = .ok (.aload_n 0, 1) := by decide +kernel
theorem dL_texts_60 : decode cL_texts 60 = .ok (.ldc2_w 139, 3) := by decide +kernel
theorem dL_texts_63 : decode cL_texts 63 = .ok (.iconst 4, 1) := by decide +kernel
theorem dL_texts_64 : decode cL_texts 64 = .ok (.invokestatic 129, 3) := by decide +kernel
theorem dL_texts_67 : decode cL_texts 67 = .ok (.ifCond .eq 93, 3) := by decide +kernel
theorem dL_texts_70 : decode cL_texts 70 = .ok (.aload_n 0, 1) := by decide +kernel
theorem dL_texts_71 : decode cL_texts 71 = .ok (.ldc2_w 141, 3) := by decide +kernel
theorem dL_texts_74 : decode cL_texts 74 = .ok (.iconst 1, 1) := by decide +kernel
theorem dL_texts_75 : decode cL_texts 75 = .ok (.invokestatic 129, 3) := by decide +kernel
theorem dL_texts_78 : decode cL_texts 78 = .ok (.ifCond .eq 82, 3) := by decide +kernel
theorem dL_texts_81 : decode cL_texts 81 = .ok (.aload_n 0, 1) := by decide +kernel
theorem dL_texts_82 : decode cL_texts 82 = .ok (.ldc2_w 143, 3) := by decide +kernel
theorem dL_texts_85 : decode cL_texts 85 = .ok (.iconst 4, 1) := by decide +kernel
theorem dL_texts_86 : decode cL_texts 86 = .ok (.invokestatic 129, 3) := by decide +kernel
theorem dL_texts_89 : decode cL_texts 89 = .ok (.ifCond .eq 71, 3) := by decide +kernel
theorem dL_texts_92 : decode cL_texts 92 = .ok (.aload_n 0, 1) := by decide +kernel
theorem dL_texts_93 : decode cL_texts 93 = .ok (.ldc2_w 145, 3) := by decide +kernel
theorem dL_texts_96 : decode cL_texts 96 = .ok (.bipush 6, 2) := by decide +kernel
theorem dL_texts_98 : decode cL_texts 98 = .ok (.invokestatic 129, 3) := by decide +kernel
theorem dL_texts_101 : decode cL_texts 101 = .ok (.ifCond .eq 59, 3) := by decide +kernel
theorem dL_texts_104 : decode cL_texts 104 = .ok (.aload_n 0, 1) := by decide +kernel
theorem dL_texts_105 : decode cL_texts 105 = .ok (.ldc2_w 147, 3) := by decide +kernel
theorem dL_texts_108 : decode cL_texts 108 = .ok (.iconst 2, 1) := by decide +kernel
theorem dL_texts_109 : decode cL_texts 109 = .ok (.invokestatic 129, 3) := by decide +kernel
theorem dL_texts_112 : decode cL_texts 112 = .ok (.ifCond .eq 48, 3) := by decide +kernel
theorem dL_texts_115 : decode cL_texts 115 = .ok (.aload_n 0, 1) := by decide +kernel
theorem dL_texts_116 : decode cL_texts 116 = .ok (.ldc2_w 149, 3) := by decide +kernel
theorem dL_texts_119 : decode cL_texts 119 = .ok (.iconst 4, 1) := by decide +kernel
theorem dL_texts_120 : decode cL_texts 120 = .ok (.invokestatic 129, 3) := by decide +kernel
theorem dL_texts_123 : decode cL_texts 123 = .ok (.ifCond .eq 37, 3) := by decide +kernel
theorem dL_texts_126 : decode cL_texts 126 = .ok (.aload_n 0, 1) := by decide +kernel
theorem dL_texts_127 : decode cL_texts 127 = .ok (.ldc2_w 151, 3) := by decide +kernel
theorem dL_texts_130 : decode cL_texts 130 = .ok (.bipush 8, 2) := by decide +kernel
theorem dL_texts_132 : decode cL_texts 132 = .ok (.invokestatic 129, 3) := by decide +kernel
theorem dL_texts_135 : decode cL_texts 135 = .ok (.ifCond .eq 25, 3) := by decide +kernel
theorem dL_texts_138 : decode cL_texts 138 = .ok (.aload_n 0, 1) := by decide +kernel
theorem dL_texts_139 : decode cL_texts 139 = .ok (.ldc2_w 153, 3) := by decide +kernel
theorem dL_texts_142 : decode cL_texts 142 = .ok (.iconst 0, 1) := by decide +kernel
theorem dL_texts_143 : decode cL_texts 143 = .ok (.invokestatic 129, 3) := by decide +kernel
theorem dL_texts_146 : decode cL_texts 146 = .ok (.ifCond .eq 14, 3) := by decide +kernel
theorem dL_texts_149 : decode cL_texts 149 = .ok (.aload_n 0, 1) := by decide +kernel
theorem dL_texts_150 : decode cL_texts 150 = .ok (.ldc2_w 155, 3) := by decide +kernel
theorem dL_texts_153 : decode cL_texts 153 = .ok (.iconst 3, 1) := by decide +kernel
theorem dL_texts_154 : decode cL_texts 154 = .ok (.invokestatic 129, 3) := by decide +kernel
theorem dL_texts_157 : decode cL_texts 157 = .ok (.ifCond .ne 5, 3) := by decide +kernel
theorem dL_texts_160 : decode cL_texts 160 = .ok (.iconst 0, 1) := by decide +kernel
theorem dL_texts_161 : decode cL_texts 161 = .ok (.ireturn, 1) := by decide +kernel
theorem dL_texts_162 : decode cL_texts 162 = .ok (.aload_n 0, 1) := by decide +kernel
theorem dL_texts_163 : decode cL_texts 163 = .ok (.ldc2_w 147, 3) := by decide +kernel
theorem dL_texts_166 : decode cL_texts 166 = .ok (.iconst 2, 1) := by decide +kernel
theorem dL_texts_167 : decode cL_texts 167 = .ok (.invokestatic 129, 3) := by decide +kernel
theorem dL_texts_170 : decode cL_texts 170 = .ok (.ifCond .eq 114, 3) := by decide +kernel
theorem dL_texts_173 : decode cL_texts 173 = .ok (.aload_n 0, 1) := by decide +kernel
theorem dL_texts_174 : decode cL_texts 174 = .ok (.bipush 8, 2) := by decide +kernel
theorem dL_texts_176 : decode cL_texts 176 = .ok (.iconst 0, 1) := by decide +kernel
theorem dL_texts_177 : decode cL_texts 177 = .ok (.iconst 0, 1) := by decide +kernel
theorem dL_texts_178 : decode cL_texts 178 = .ok (.iconst 0, 1) := by decide +kernel
theorem dL_texts_179 : decode cL_texts 179 = .ok (.invokestatic 80, 3) := by decide +kernel
theorem dL_texts_182 : decode cL_texts 182 = .ok (.bipush (-12), 2) := by decide +kernel
theorem dL_texts_184 : decode cL_texts 184 = .ok (.if_icmp .ne 100, 3) := by decide +kernel
theorem dL_texts_187 : decode cL_texts 187 = .ok (.aload_n 0, 1) := by decide +kernel
theorem dL_texts_188 : decode cL_texts 188 = .ok (.bipush 9, 2) := by decide +kernel
theorem dL_texts_190 : decode cL_texts 190 = .ok (.invokevirtual 58, 3) := by decide +kernel
theorem dL_texts_193 : decode cL_texts 193 = .ok (.ifCond .ne 91, 3) := by decide +kernel
theorem dL_texts_196 : decode cL_texts 196 = .ok (.aload_n 0, 1) := by decide +kernel
theorem dL_texts_197 : decode cL_texts 197 = .ok (.ldc2_w 149, 3) := by decide +kernel
theorem dL_texts_200 : decode cL_texts 200 = .ok (.iconst 4, 1) := by decide +kernel
theorem dL_texts_201 : decode cL_texts 201 = .ok (.invokestatic 129, 3) := by decide +kernel
theorem dL_texts_204 : decode cL_texts 204 = .ok (.ifCond .eq 80, 3) := by decide +kernel
theorem dL_texts_207 : decode cL_texts 207 = .ok (.aload_n 0, 1) := by decide +kernel
theorem dL_texts_208 : decode cL_texts 208 = .ok (.bipush 8, 2) := by decide +kernel
theorem dL_texts_210 : decode cL_texts 210 = .ok (.iconst 0, 1) := by decide +kernel
theorem dL_texts_211 : decode cL_texts 211 = .ok (.iconst 0, 1) := by decide +kernel
theorem dL_texts_212 : decode cL_texts 212 = .ok (.iconst 0, 1) := by decide +kernel
theorem dL_texts_213 : decode cL_texts 213 = .ok (.invokestatic 80, 3) := by decide +kernel
theorem dL_texts_216 : decode cL_texts 216 = .ok (.bipush (-12), 2) := by decide +kernel
theorem dL_texts_218 : decode cL_texts 218 = .ok (.if_icmp .ne 66, 3) := by decide +kernel
theorem dL_texts_221 : decode cL_texts 221 = .ok (.aload_n 0, 1) := by decide +kernel
theorem dL_texts_222 : decode cL_texts 222 = .ok (.ldc2_w 157, 3) := by decide +kernel
theorem dL_texts_225 : decode cL_texts 225 = .ok (.bipush 8, 2) := by decide +kernel
theorem dL_texts_227 : decode cL_texts 227 = .ok (.invokestatic 129, 3) := by decide +kernel
theorem dL_texts_230 : decode cL_texts 230 = .ok (.ifCond .eq 54, 3) := by decide +kernel
theorem dL_texts_233 : decode cL_texts 233 = .ok (.aload_n 0, 1) := by decide +kernel
theorem dL_texts_234 : decode cL_texts 234 = .ok (.invokevirtual 39, 3) := by decide +kernel
theorem dL_texts_237 : decode cL_texts 237 = .ok (.iconst 2, 1) := by decide +kernel
theorem dL_texts_238 : decode cL_texts 238 = .ok (.if_icmp .ne 46, 3) := by decide +kernel
theorem dL_texts_241 : decode cL_texts 241 = .ok (.aload_n 0, 1) := by decide +kernel
theorem dL_texts_242 : decode cL_texts 242 = .ok (.iconst 1, 1) := by decide +kernel
theorem dL_texts_243 : decode cL_texts 243 = .ok (.invokevirtual 49, 3) := by decide +kernel
theorem dL_texts_246 : decode cL_texts 246 = .ok (.sipush 4000, 3) := by decide +kernel
theorem dL_texts_249 : decode cL_texts 249 = .ok (.if_icmp .ne 35, 3) := by decide +kernel
theorem dL_texts_252 : decode cL_texts 252 = .ok (.aload_n 0, 1) := by decide +kernel
theorem dL_texts_253 : decode cL_texts 253 = .ok (.iconst 0, 1) := by decide +kernel
theorem dL_texts_254 : decode cL_texts 254 = .ok (.iconst 2, 1) := by decide +kernel
theorem dL_texts_255 : decode cL_texts 255 = .ok (.invokevirtual 46, 3) := by decide +kernel
theorem dL_texts_258 : decode cL_texts 258 = .ok (.iconst 1, 1) := by decide +kernel
theorem dL_texts_259 : decode cL_texts 259 = .ok (.if_icmp .ne 25, 3) := by decide +kernel
theorem dL_texts_262 : decode cL_texts 262 = .ok (.aload_n 0, 1) := by decide +kernel
theorem dL_texts_263 : decode cL_texts 263 = .ok (.invokevirtual 119, 3) := by decide +kernel
theorem dL_texts_266 : decode cL_texts 266 = .ok (.ifCond .ne 18, 3) := by decide +kernel
theorem dL_texts_269 : decode cL_texts 269 = .ok (.aload_n 0, 1) := by decide +kernel
theorem dL_texts_270 : decode cL_texts 270 = .ok (.invokevirtual 43, 3) := by decide +kernel
theorem dL_texts_273 : decode cL_texts 273 = .ok (.ifCond .ne 11, 3) := by decide +kernel
theorem dL_texts_276 : decode cL_texts 276 = .ok (.aload_n 0, 1) := by decide +kernel
theorem dL_texts_277 : decode cL_texts 277 = .ok (.iconst 0, 1) := by decide +kernel
theorem dL_texts_278 : decode cL_texts 278 = .ok (.invokevirtual 58, 3) := by decide +kernel
theorem dL_texts_281 : decode cL_texts 281 = .ok (.ifCond .eq 5, 3) := by decide +kernel
theorem dL_texts_284 : decode cL_texts 284 = .ok (.iconst 0, 1) := by decide +kernel
theorem dL_texts_285 : decode cL_texts 285 = .ok (.ireturn, 1) := by decide +kernel
theorem dL_texts_286 : decode cL_texts 286 = .ok (.iconst 0, 1) := by decide +kernel
theorem dL_texts_287 : decode cL_texts 287 = .ok (.istore_n 1, 1) := by decide +kernel
theorem dL_texts_288 : decode cL_texts 288 = .ok (.iload_n 1, 1) := by decide +kernel
theorem dL_texts_289 : decode cL_texts 289 = .ok (.bipush 60, 2) := by decide +kernel
theorem dL_texts_291 : decode cL_texts 291 = .ok (.if_icmp .ge 58, 3) := by decide +kernel
theorem dL_texts_294 : decode cL_texts 294 = .ok (.aload_n 0, 1) := by decide +kernel
theorem dL_texts_295 : decode cL_texts 295 = .ok (.iload_n 1, 1) := by decide +kernel
theorem dL_texts_296 : decode cL_texts 296 = .ok (.iconst 4, 1) := by decide +kernel
theorem dL_texts_297 : decode cL_texts 297 = .ok (.irem, 1) := by decide +kernel
theorem dL_texts_298 : decode cL_texts 298 = .ok (.ifCond .ne 8, 3) := by decide +kernel
theorem dL_texts_301 : decode cL_texts 301 = .ok (.bipush 51, 2) := by decide +kernel
theorem dL_texts_303 : decode cL_texts 303 = .ok (.goto 29, 3) := by decide +kernel
theorem dL_texts_306 : decode cL_texts 306 = .ok (.iload_n 1, 1) := by decide +kernel
theorem dL_texts_307 : decode cL_texts 307 = .ok (.iconst 4, 1) := by decide +kernel
theorem dL_texts_308 : decode cL_texts 308 = .ok (.irem, 1) := by decide +kernel
theorem dL_texts_309 : decode cL_texts 309 = .ok (.iconst 1, 1) := by decide +kernel
theorem dL_texts_310 : decode cL_texts 310 = .ok (.if_icmp .ne 8, 3) := by decide +kernel
theorem dL_texts_313 : decode cL_texts 313 = .ok (.bipush 42, 2) := by decide +kernel
theorem dL_texts_315 : decode cL_texts 315 = .ok (.goto 17, 3) := by decide +kernel
theorem dL_texts_318 : decode cL_texts 318 = .ok (.iload_n 1, 1) := by decide +kernel
theorem dL_texts_319 : decode cL_texts 319 = .ok (.iconst 4, 1) := by decide +kernel
theorem dL_texts_320 : decode cL_texts 320 = .ok (.irem, 1) := by decide +kernel
theorem dL_texts_321 : decode cL_texts 321 = .ok (.iconst 2, 1) := by decide +kernel
theorem dL_texts_322 : decode cL_texts 322 = .ok (.if_icmp .ne 8, 3) := by decide +kernel
theorem dL_texts_325 : decode cL_texts 325 = .ok (.bipush 52, 2) := by decide +kernel
theorem dL_texts_327 : decode cL_texts 327 = .ok (.goto 5, 3) := by decide +kernel
theorem dL_texts_330 : decode cL_texts 330 = .ok (.bipush 44, 2) := by decide +kernel
theorem dL_texts_332 : decode cL_texts 332 = .ok (.invokevirtual 36, 3) := by decide +kernel
theorem dL_texts_335 : decode cL_texts 335 = .ok (.iload_n 1, 1) := by decide +kernel
theorem dL_texts_336 : decode cL_texts 336 = .ok (.iconst 1, 1) := by decide +kernel
theorem dL_texts_337 : decode cL_texts 337 = .ok (.iadd, 1) := by decide +kernel
theorem dL_texts_338 : decode cL_texts 338 = .ok (.if_icmp .eq 5, 3) := by decide +kernel
theorem dL_texts_341 : decode cL_texts 341 = .ok (.iconst 0, 1) := by decide +kernel
theorem dL_texts_342 : decode cL_texts 342 = .ok (.ireturn, 1) := by decide +kernel
theorem dL_texts_343 : decode cL_texts 343 = .ok (.iinc 1 1, 3) := by decide +kernel
theorem dL_texts_346 : decode cL_texts 346 = .ok (.goto (-58), 3) := by decide +kernel
theorem dL_texts_349 : decode cL_texts 349 = .ok (.aload_n 0, 1) := by decide +kernel
theorem dL_texts_350 : decode cL_texts 350 = .ok (.bipush 7, 2) := by decide +kernel
theorem dL_texts_352 : decode cL_texts 352 = .ok (.bipush 53, 2) := by decide +kernel
theorem dL_texts_354 : decode cL_texts 354 = .ok (.iconst 0, 1) := by decide +kernel
theorem dL_texts_355 : decode cL_texts 355 = .ok (.iconst 0, 1) := by decide +kernel
theorem dL_texts_356 : decode cL_texts 356 = .ok (.invokestatic 80, 3) := by decide +kernel
theorem dL_texts_359 : decode cL_texts 359 = .ok (.bipush (-13), 2) := by decide +kernel
theorem dL_texts_361 : decode cL_texts 361 = .ok (.if_icmp .ne 54, 3) := by decide +kernel
theorem dL_texts_364 : decode cL_texts 364 = .ok (.aload_n 0, 1) := by decide +kernel
theorem dL_texts_365 : decode cL_texts 365 = .ok (.bipush 7, 2) := by decide +kernel
theorem dL_texts_367 : decode cL_texts 367 = .ok (.bipush 32, 2) := by decide +kernel
theorem dL_texts_369 : decode cL_texts 369 = .ok (.iconst 0, 1) := by decide +kernel
theorem dL_texts_370 : decode cL_texts 370 = .ok (.iconst 0, 1) := by decide +kernel
theorem dL_texts_371 : decode cL_texts 371 = .ok (.invokestatic 80, 3) := by decide +kernel
theorem dL_texts_374 : decode cL_texts 374 = .ok (.bipush (-12), 2) := by decide +kernel
theorem dL_texts_376 : decode cL_texts 376 = .ok (.if_icmp .ne 39, 3) := by decide +kernel
theorem dL_texts_379 : decode cL_texts 379 = .ok (.aload_n 0, 1) := by decide +kernel
theorem dL_texts_380 : decode cL_texts 380 = .ok (.invokevirtual 124, 3) := by decide +kernel
theorem dL_texts_383 : decode cL_texts 383 = .ok (.bipush 60, 2) := by decide +kernel
theorem dL_texts_385 : decode cL_texts 385 = .ok (.if_icmp .ne 30, 3) := by decide +kernel
theorem dL_texts_388 : decode cL_texts 388 = .ok (.aload_n 0, 1) := by decide +kernel
theorem dL_texts_389 : decode cL_texts 389 = .ok (.bipush 8, 2) := by decide +kernel
theorem dL_texts_391 : decode cL_texts 391 = .ok (.iconst 0, 1) := by decide +kernel
theorem dL_texts_392 : decode cL_texts 392 = .ok (.iconst 0, 1) := by decide +kernel
theorem dL_texts_393 : decode cL_texts 393 = .ok (.iconst 0, 1) := by decide +kernel
theorem dL_texts_394 : decode cL_texts 394 = .ok (.invokestatic 80, 3) := by decide +kernel
theorem dL_texts_397 : decode cL_texts 397 = .ok (.bipush (-12), 2) := by decide +kernel
theorem dL_texts_399 : decode cL_texts 399 = .ok (.if_icmp .ne 16, 3) := by decide +kernel
theorem dL_texts_402 : decode cL_texts 402 = .ok (.aload_n 0, 1) := by decide +kernel
theorem dL_texts_403 : decode cL_texts 403 = .ok (.invokevirtual 119, 3) := by decide +kernel
theorem dL_texts_406 : decode cL_texts 406 = .ok (.bipush 60, 2) := by decide +kernel
theorem dL_texts_408 : decode cL_texts 408 = .ok (.if_icmp .ne 7, 3) := by decide +kernel
theorem dL_texts_411 : decode cL_texts 411 = .ok (.iconst 1, 1) := by decide +kernel
theorem dL_texts_412 : decode cL_texts 412 = .ok (.goto 4, 3) := by decide +kernel
theorem dL_texts_415 : decode cL_texts 415 = .ok (.iconst 0, 1) := by decide +kernel
theorem dL_texts_416 : decode cL_texts 416 = .ok (.ireturn, 1) := by decide +kernel
theorem dL_law_0 : decode cL_law 0 = .ok (.invokestatic 159, 3) := by decide +kernel
theorem dL_law_3 : decode cL_law 3 = .ok (.ifCond .eq 15, 3) := by decide +kernel
theorem dL_law_6 : decode cL_law 6 = .ok (.invokestatic 163, 3) := by decide +kernel
theorem dL_law_9 : decode cL_law 9 = .ok (.ifCond .eq 9, 3) := by decide +kernel
theorem dL_law_12 : decode cL_law 12 = .ok (.invokestatic 166, 3) := by decide +kernel
theorem dL_law_15 : decode cL_law 15 = .ok (.ifCond .ne 5, 3) := by decide +kernel
theorem dL_law_18 : decode cL_law 18 = .ok (.iconst 0, 1) := by decide +kernel
theorem dL_law_19 : decode cL_law 19 = .ok (.ireturn, 1) := by decide +kernel
theorem dL_law_20 : decode cL_law 20 = .ok (.new 10, 3) := by decide +kernel
theorem dL_law_23 : decode cL_law 23 = .ok (.dup, 1) := by decide +kernel
theorem dL_law_24 : decode cL_law 24 = .ok (.invokespecial 97, 3) := by decide +kernel
theorem dL_law_27 : decode cL_law 27 = .ok (.astore_n 1, 1) := by decide +kernel
theorem dL_law_28 : decode cL_law 28 = .ok (.bipush 64, 2) := by decide +kernel
theorem dL_law_30 : decode cL_law 30 = .ok (.newarray .long, 2) := by decide +kernel
theorem dL_law_32 : decode cL_law 32 = .ok (.astore_n 2, 1) := by decide +kernel
theorem dL_law_33 : decode cL_law 33 = .ok (.iconst 0, 1) := by decide +kernel
theorem dL_law_34 : decode cL_law 34 = .ok (.istore_n 3, 1) := by decide +kernel
theorem dL_law_35 : decode cL_law 35 = .ok (.iconst 0, 1) := by decide +kernel
theorem dL_law_36 : decode cL_law 36 = .ok (.istore 4, 2) := by decide +kernel
theorem dL_law_38 : decode cL_law 38 = .ok (.iload 4, 2) := by decide +kernel
theorem dL_law_40 : decode cL_law 40 = .ok (.bipush 24, 2) := by decide +kernel
theorem dL_law_42 : decode cL_law 42 = .ok (.if_icmp .ge 364, 3) := by decide +kernel
theorem dL_law_45 : decode cL_law 45 = .ok (.aload_n 0, 1) := by decide +kernel
theorem dL_law_46 : decode cL_law 46 = .ok (.iload 4, 2) := by decide +kernel
theorem dL_law_48 : decode cL_law 48 = .ok (.invokestatic 169, 3) := by decide +kernel
theorem dL_law_51 : decode cL_law 51 = .ok (.istore 5, 2) := by decide +kernel
theorem dL_law_53 : decode cL_law 53 = .ok (.iload 4, 2) := by decide +kernel
theorem dL_law_55 : decode cL_law 55 = .ok (.iconst 3, 1) := by decide +kernel
theorem dL_law_56 : decode cL_law 56 = .ok (.if_icmp .ge 7, 3) := by decide +kernel
theorem dL_law_59 : decode cL_law 59 = .ok (.iconst 0, 1) := by decide +kernel
theorem dL_law_60 : decode cL_law 60 = .ok (.goto 10, 3) := by decide +kernel
theorem dL_law_63 : decode cL_law 63 = .ok (.iload 5, 2) := by decide +kernel
theorem dL_law_65 : decode cL_law 65 = .ok (.bipush 11, 2) := by decide +kernel
theorem dL_law_67 : decode cL_law 67 = .ok (.invokestatic 173, 3) := by decide +kernel
theorem dL_law_70 : decode cL_law 70 = .ok (.istore 6, 2) := by decide +kernel
theorem dL_law_72 : decode cL_law 72 = .ok (.aload_n 2, 1) := by decide +kernel
theorem dL_law_73 : decode cL_law 73 = .ok (.iload_n 3, 1) := by decide +kernel
theorem dL_law_74 : decode cL_law 74 = .ok (.aload_n 1, 1) := by decide +kernel
theorem dL_law_75 : decode cL_law 75 = .ok (.invokestatic 176, 3) := by decide +kernel
theorem dL_law_78 : decode cL_law 78 = .ok (.lastore, 1) := by decide +kernel
theorem dL_law_79 : decode cL_law 79 = .ok (.aload_n 1, 1) := by decide +kernel
theorem dL_law_80 : decode cL_law 80 = .ok (.bipush 9, 2) := by decide +kernel
theorem dL_law_82 : decode cL_law 82 = .ok (.invokevirtual 58, 3) := by decide +kernel
theorem dL_law_85 : decode cL_law 85 = .ok (.istore 7, 2) := by decide +kernel
theorem dL_law_87 : decode cL_law 87 = .ok (.aload_n 1, 1) := by decide +kernel
theorem dL_law_88 : decode cL_law 88 = .ok (.iconst 0, 1) := by decide +kernel
theorem dL_law_89 : decode cL_law 89 = .ok (.invokevirtual 58, 3) := by decide +kernel
theorem dL_law_92 : decode cL_law 92 = .ok (.istore 8, 2) := by decide +kernel
theorem dL_law_94 : decode cL_law 94 = .ok (.iload 8, 2) := by decide +kernel
theorem dL_law_96 : decode cL_law 96 = .ok (.ifCond .ne 7, 3) := by decide +kernel
theorem dL_law_99 : decode cL_law 99 = .ok (.iconst 0, 1) := by decide +kernel
theorem dL_law_100 : decode cL_law 100 = .ok (.goto 34, 3) := by decide +kernel
theorem dL_law_103 : decode cL_law 103 = .ok (.aload_n 1, 1) := by decide +kernel
theorem dL_law_104 : decode cL_law 104 = .ok (.iload 5, 2) := by decide +kernel
theorem dL_law_106 : decode cL_law 106 = .ok (.iconst 4, 1) := by decide +kernel
theorem dL_law_107 : decode cL_law 107 = .ok (.ishr, 1) := by decide +kernel
theorem dL_law_108 : decode cL_law 108 = .ok (.iload 8, 2) := by decide +kernel
theorem dL_law_110 : decode cL_law 110 = .ok (.invokestatic 173, 3) := by decide +kernel
theorem dL_law_113 : decode cL_law 113 = .ok (.invokevirtual 49, 3) := by decide +kernel
theorem dL_law_116 : decode cL_law 116 = .ok (.iload 5, 2) := by decide +kernel
theorem dL_law_118 : decode cL_law 118 = .ok (.bipush 18, 2) := by decide +kernel
theorem dL_law_120 : decode cL_law 120 = .ok (.ishr, 1) := by decide +kernel
theorem dL_law_121 : decode cL_law 121 = .ok (.iconst 5, 1) := by decide +kernel
theorem dL_law_122 : decode cL_law 122 = .ok (.invokestatic 173, 3) := by decide +kernel
theorem dL_law_125 : decode cL_law 125 = .ok (.ifCond .ne 7, 3) := by decide +kernel
theorem dL_law_128 : decode cL_law 128 = .ok (.iconst 1, 1) := by decide +kernel
theorem dL_law_129 : decode cL_law 129 = .ok (.goto 4, 3) := by decide +kernel
theorem dL_law_132 : decode cL_law 132 = .ok (.iconst 0, 1) := by decide +kernel
theorem dL_law_133 : decode cL_law 133 = .ok (.iadd, 1) := by decide +kernel
theorem dL_law_134 : decode cL_law 134 = .ok (.istore 9, 2) := by decide +kernel
theorem dL_law_136 : decode cL_law 136 = .ok (.iload 6, 2) := by decide +kernel
theorem dL_law_138 : decode cL_law 138 = .ok (.iconst 3, 1) := by decide +kernel
theorem dL_law_139 : decode cL_law 139 = .ok (.if_icmp .ge 40, 3) := by decide +kernel
theorem dL_law_142 : decode cL_law 142 = .ok (.aload_n 1, 1) := by decide +kernel
theorem dL_law_143 : decode cL_law 143 = .ok (.iconst 0, 1) := by decide +kernel
theorem dL_law_144 : decode cL_law 144 = .ok (.iload 5, 2) := by decide +kernel
theorem dL_law_146 : decode cL_law 146 = .ok (.iconst 4, 1) := by decide +kernel
theorem dL_law_147 : decode cL_law 147 = .ok (.ishr, 1) := by decide +kernel
theorem dL_law_148 : decode cL_law 148 = .ok (.sipush 1010, 3) := by decide +kernel
theorem dL_law_151 : decode cL_law 151 = .ok (.invokestatic 173, 3) := by decide +kernel
theorem dL_law_154 : decode cL_law 154 = .ok (.iload 5, 2) := by decide +kernel
theorem dL_law_156 : decode cL_law 156 = .ok (.bipush 14, 2) := by decide +kernel
theorem dL_law_158 : decode cL_law 158 = .ok (.ishr, 1) := by decide +kernel
theorem dL_law_159 : decode cL_law 159 = .ok (.bipush 6, 2) := by decide +kernel
theorem dL_law_161 : decode cL_law 161 = .ok (.invokestatic 173, 3) := by decide +kernel
theorem dL_law_164 : decode cL_law 164 = .ok (.iload 5, 2) := by decide +kernel
theorem dL_law_166 : decode cL_law 166 = .ok (.bipush 17, 2) := by decide +kernel
theorem dL_law_168 : decode cL_law 168 = .ok (.ishr, 1) := by decide +kernel
theorem dL_law_169 : decode cL_law 169 = .ok (.iconst 4, 1) := by decide +kernel
theorem dL_law_170 : decode cL_law 170 = .ok (.invokestatic 173, 3) := by decide +kernel
theorem dL_law_173 : decode cL_law 173 = .ok (.invokestatic 80, 3) := by decide +kernel
theorem dL_law_176 : decode cL_law 176 = .ok (.goto 167, 3) := by decide +kernel
theorem dL_law_179 : decode cL_law 179 = .ok (.iload 6, 2) := by decide +kernel
theorem dL_law_181 : decode cL_law 181 = .ok (.iconst 3, 1) := by decide +kernel
theorem dL_law_182 : decode cL_law 182 = .ok (.if_icmp .ne 31, 3) := by decide +kernel
theorem dL_law_185 : decode cL_law 185 = .ok (.aload_n 1, 1) := by decide +kernel
theorem dL_law_186 : decode cL_law 186 = .ok (.iconst 1, 1) := by decide +kernel
theorem dL_law_187 : decode cL_law 187 = .ok (.iload 9, 2) := by decide +kernel
theorem dL_law_189 : decode cL_law 189 = .ok (.iload 5, 2) := by decide +kernel
theorem dL_law_191 : decode cL_law 191 = .ok (.bipush 10, 2) := by decide +kernel
theorem dL_law_193 : decode cL_law 193 = .ok (.ishr, 1) := by decide +kernel
theorem dL_law_194 : decode cL_law 194 = .ok (.iconst 5, 1) := by decide +kernel
theorem dL_law_195 : decode cL_law 195 = .ok (.invokestatic 173, 3) := by decide +kernel
theorem dL_law_198 : decode cL_law 198 = .ok (.iload 5, 2) := by decide +kernel
theorem dL_law_200 : decode cL_law 200 = .ok (.bipush 13, 2) := by decide +kernel
theorem dL_law_202 : decode cL_law 202 = .ok (.ishr, 1) := by decide +kernel
theorem dL_law_203 : decode cL_law 203 = .ok (.iconst 3, 1) := by decide +kernel
theorem dL_law_204 : decode cL_law 204 = .ok (.invokestatic 173, 3) := by decide +kernel
theorem dL_law_207 : decode cL_law 207 = .ok (.invokestatic 80, 3) := by decide +kernel
theorem dL_law_210 : decode cL_law 210 = .ok (.goto 133, 3) := by decide +kernel
theorem dL_law_213 : decode cL_law 213 = .ok (.iload 6, 2) := by decide +kernel
theorem dL_law_215 : decode cL_law 215 = .ok (.iconst 4, 1) := by decide +kernel
theorem dL_law_216 : decode cL_law 216 = .ok (.if_icmp .ne 15, 3) := by decide +kernel
theorem dL_law_219 : decode cL_law 219 = .ok (.aload_n 1, 1) := by decide +kernel
theorem dL_law_220 : decode cL_law 220 = .ok (.iconst 2, 1) := by decide +kernel
theorem dL_law_221 : decode cL_law 221 = .ok (.iload 9, 2) := by decide +kernel
theorem dL_law_223 : decode cL_law 223 = .ok (.iconst 0, 1) := by decide +kernel
theorem dL_law_224 : decode cL_law 224 = .ok (.iconst 0, 1) := by decide +kernel
theorem dL_law_225 : decode cL_law 225 = .ok (.invokestatic 80, 3) := by decide +kernel
theorem dL_law_228 : decode cL_law 228 = .ok (.goto 115, 3) := by decide +kernel
theorem dL_law_231 : decode cL_law 231 = .ok (.iload 6, 2) := by decide +kernel
theorem dL_law_233 : decode cL_law 233 = .ok (.iconst 5, 1) := by decide +kernel
theorem dL_law_234 : decode cL_law 234 = .ok (.if_icmp .ne 25, 3) := by decide +kernel
theorem dL_law_237 : decode cL_law 237 = .ok (.aload_n 1, 1) := by decide +kernel
theorem dL_law_238 : decode cL_law 238 = .ok (.iconst 3, 1) := by decide +kernel
theorem dL_law_239 : decode cL_law 239 = .ok (.iload 9, 2) := by decide +kernel
theorem dL_law_241 : decode cL_law 241 = .ok (.iload 5, 2) := by decide +kernel
theorem dL_law_243 : decode cL_law 243 = .ok (.bipush 10, 2) := by decide +kernel
theorem dL_law_245 : decode cL_law 245 = .ok (.ishr, 1) := by decide +kernel
theorem dL_law_246 : decode cL_law 246 = .ok (.sipush 1010, 3) := by decide +kernel
theorem dL_law_249 : decode cL_law 249 = .ok (.invokestatic 173, 3) := by decide +kernel
theorem dL_law_252 : decode cL_law 252 = .ok (.iconst 0, 1) := by decide +kernel
theorem dL_law_253 : decode cL_law 253 = .ok (.invokestatic 80, 3) := by decide +kernel
theorem dL_law_256 : decode cL_law 256 = .ok (.goto 87, 3) := by decide +kernel
theorem dL_law_259 : decode cL_law 259 = .ok (.iload 6, 2) := by decide +kernel
theorem dL_law_261 : decode cL_law 261 = .ok (.bipush 8, 2) := by decide +kernel
theorem dL_law_263 : decode cL_law 263 = .ok (.if_icmp .ge 21, 3) := by decide +kernel
theorem dL_law_266 : decode cL_law 266 = .ok (.aload_n 1, 1) := by decide +kernel
theorem dL_law_267 : decode cL_law 267 = .ok (.iconst 5, 1) := by decide +kernel
theorem dL_law_268 : decode cL_law 268 = .ok (.iload 5, 2) := by decide +kernel
theorem dL_law_270 : decode cL_law 270 = .ok (.iconst 4, 1) := by decide +kernel
theorem dL_law_271 : decode cL_law 271 = .ok (.ishr, 1) := by decide +kernel
theorem dL_law_272 : decode cL_law 272 = .ok (.iconst 5, 1) := by decide +kernel
theorem dL_law_273 : decode cL_law 273 = .ok (.invokestatic 173, 3) := by decide +kernel
theorem dL_law_276 : decode cL_law 276 = .ok (.iconst 0, 1) := by decide +kernel
theorem dL_law_277 : decode cL_law 277 = .ok (.iconst 0, 1) := by decide +kernel
theorem dL_law_278 : decode cL_law 278 = .ok (.invokestatic 80, 3) := by decide +kernel
theorem dL_law_281 : decode cL_law 281 = .ok (.goto 62, 3) := by decide +kernel
theorem dL_law_284 : decode cL_law 284 = .ok (.iload 6, 2) := by decide +kernel
theorem dL_law_286 : decode cL_law 286 = .ok (.bipush 8, 2) := by decide +kernel
theorem dL_law_288 : decode cL_law 288 = .ok (.if_icmp .ne 37, 3) := by decide +kernel
theorem dL_law_291 : decode cL_law 291 = .ok (.aload_n 1, 1) := by decide +kernel
theorem dL_law_292 : decode cL_law 292 = .ok (.iload 5, 2) := by decide +kernel
theorem dL_law_294 : decode cL_law 294 = .ok (.iconst 4, 1) := by decide +kernel
theorem dL_law_295 : decode cL_law 295 = .ok (.ishr, 1) := by decide +kernel
theorem dL_law_296 : decode cL_law 296 = .ok (.iconst 2, 1) := by decide +kernel
theorem dL_law_297 : decode cL_law 297 = .ok (.invokestatic 173, 3) := by decide +kernel
theorem dL_law_300 : decode cL_law 300 = .ok (.ifCond .ne 7, 3) := by decide +kernel
theorem dL_law_303 : decode cL_law 303 = .ok (.iconst 4, 1) := by decide +kernel
theorem dL_law_304 : decode cL_law 304 = .ok (.goto 5, 3) := by decide +kernel
theorem dL_law_307 : decode cL_law 307 = .ok (.bipush 6, 2) := by decide +kernel
theorem dL_law_309 : decode cL_law 309 = .ok (.iload 5, 2) := by decide +kernel
theorem dL_law_311 : decode cL_law 311 = .ok (.iconst 5, 1) := by decide +kernel
theorem dL_law_312 : decode cL_law 312 = .ok (.ishr, 1) := by decide +kernel
theorem dL_law_313 : decode cL_law 313 = .ok (.iconst 5, 1) := by decide +kernel
theorem dL_law_314 : decode cL_law 314 = .ok (.invokestatic 173, 3) := by decide +kernel
theorem dL_law_317 : decode cL_law 317 = .ok (.iconst 0, 1) := by decide +kernel
theorem dL_law_318 : decode cL_law 318 = .ok (.iconst 0, 1) := by decide +kernel
theorem dL_law_319 : decode cL_law 319 = .ok (.invokestatic 80, 3) := by decide +kernel
theorem dL_law_322 : decode cL_law 322 = .ok (.goto 21, 3) := by decide +kernel
theorem dL_law_325 : decode cL_law 325 = .ok (.iload 6, 2) := by decide +kernel
theorem dL_law_327 : decode cL_law 327 = .ok (.bipush 9, 2) := by decide +kernel
theorem dL_law_329 : decode cL_law 329 = .ok (.if_icmp .ne 10, 3) := by decide +kernel
theorem dL_law_332 : decode cL_law 332 = .ok (.aload_n 1, 1) := by decide +kernel
theorem dL_law_333 : decode cL_law 333 = .ok (.invokevirtual 111, 3) := by decide +kernel
theorem dL_law_336 : decode cL_law 336 = .ok (.goto 7, 3) := by decide +kernel
theorem dL_law_339 : decode cL_law 339 = .ok (.aload_n 1, 1) := by decide +kernel
theorem dL_law_340 : decode cL_law 340 = .ok (.invokevirtual 114, 3) := by decide +kernel
theorem dL_law_343 : decode cL_law 343 = .ok (.istore 10, 2) := by decide +kernel
theorem dL_law_345 : decode cL_law 345 = .ok (.iload 10, 2) := by decide +kernel
theorem dL_law_347 : decode cL_law 347 = .ok (.iconst (-1), 1) := by decide +kernel
theorem dL_law_348 : decode cL_law 348 = .ok (.if_icmp .ge 7, 3) := by decide +kernel
theorem dL_law_351 : decode cL_law 351 = .ok (.iconst 1, 1) := by decide +kernel
theorem dL_law_352 : decode cL_law 352 = .ok (.goto 4, 3) := by decide +kernel
theorem dL_law_355 : decode cL_law 355 = .ok (.iconst 0, 1) := by decide +kernel
theorem dL_law_356 : decode cL_law 356 = .ok (.istore 11, 2) := by decide +kernel
theorem dL_law_358 : decode cL_law 358 = .ok (.iload 11, 2) := by decide +kernel
theorem dL_law_360 : decode cL_law 360 = .ok (.ifCond .eq 27, 3) := by decide +kernel
theorem dL_law_363 : decode cL_law 363 = .ok (.aload_n 1, 1) := by decide +kernel
theorem dL_law_364 : decode cL_law 364 = .ok (.bipush 9, 2) := by decide +kernel
theorem dL_law_366 : decode cL_law 366 = .ok (.invokevirtual 58, 3) := by decide +kernel
theorem dL_law_369 : decode cL_law 369 = .ok (.iload 7, 2) := by decide +kernel
theorem dL_law_371 : decode cL_law 371 = .ok (.if_icmp .ne 14, 3) := by decide +kernel
theorem dL_law_374 : decode cL_law 374 = .ok (.aload_n 1, 1) := by decide +kernel
theorem dL_law_375 : decode cL_law 375 = .ok (.invokestatic 176, 3) := by decide +kernel
theorem dL_law_378 : decode cL_law 378 = .ok (.aload_n 2, 1) := by decide +kernel
theorem dL_law_379 : decode cL_law 379 = .ok (.iload_n 3, 1) := by decide +kernel
theorem dL_law_380 : decode cL_law 380 = .ok (.laload, 1) := by decide +kernel
theorem dL_law_381 : decode cL_law 381 = .ok (.lcmp, 1) := by decide +kernel
theorem dL_law_382 : decode cL_law 382 = .ok (.ifCond .eq 5, 3) := by decide +kernel
theorem dL_law_385 : decode cL_law 385 = .ok (.iconst 0, 1) := by decide +kernel
theorem dL_law_386 : decode cL_law 386 = .ok (.ireturn, 1) := by decide +kernel
theorem dL_law_387 : decode cL_law 387 = .ok (.iload_n 3, 1) := by decide +kernel
theorem dL_law_388 : decode cL_law 388 = .ok (.iload 11, 2) := by decide +kernel
theorem dL_law_390 : decode cL_law 390 = .ok (.ifCond .eq 7, 3) := by decide +kernel
theorem dL_law_393 : decode cL_law 393 = .ok (.iconst 0, 1) := by decide +kernel
theorem dL_law_394 : decode cL_law 394 = .ok (.goto 4, 3) := by decide +kernel
theorem dL_law_397 : decode cL_law 397 = .ok (.iconst 1, 1) := by decide +kernel
theorem dL_law_398 : decode cL_law 398 = .ok (.iadd, 1) := by decide +kernel
theorem dL_law_399 : decode cL_law 399 = .ok (.istore_n 3, 1) := by decide +kernel
theorem dL_law_400 : decode cL_law 400 = .ok (.iinc 4 1, 3) := by decide +kernel
theorem dL_law_403 : decode cL_law 403 = .ok (.goto (-365), 3) := by decide +kernel
theorem dL_law_406 : decode cL_law 406 = .ok (.aload_n 2, 1) := by decide +kernel
theorem dL_law_407 : decode cL_law 407 = .ok (.iload_n 3, 1) := by decide +kernel
theorem dL_law_408 : decode cL_law 408 = .ok (.aload_n 1, 1) := by decide +kernel
theorem dL_law_409 : decode cL_law 409 = .ok (.invokestatic 176, 3) := by decide +kernel
theorem dL_law_412 : decode cL_law 412 = .ok (.lastore, 1) := by decide +kernel
theorem dL_law_413 : decode cL_law 413 = .ok (.aload_n 1, 1) := by decide +kernel
theorem dL_law_414 : decode cL_law 414 = .ok (.invokestatic 104, 3) := by decide +kernel
theorem dL_law_417 : decode cL_law 417 = .ok (.ifCond .ne 5, 3) := by decide +kernel
theorem dL_law_420 : decode cL_law 420 = .ok (.iconst 0, 1) := by decide +kernel
theorem dL_law_421 : decode cL_law 421 = .ok (.ireturn, 1) := by decide +kernel
theorem dL_law_422 : decode cL_law 422 = .ok (.iconst 0, 1) := by decide +kernel
theorem dL_law_423 : decode cL_law 423 = .ok (.istore 4, 2) := by decide +kernel
theorem dL_law_425 : decode cL_law 425 = .ok (.aload_n 1, 1) := by decide +kernel
theorem dL_law_426 : decode cL_law 426 = .ok (.bipush 9, 2) := by decide +kernel
theorem dL_law_428 : decode cL_law 428 = .ok (.invokevirtual 58, 3) := by decide +kernel
theorem dL_law_431 : decode cL_law 431 = .ok (.ifCond .le 56, 3) := by decide +kernel
theorem dL_law_434 : decode cL_law 434 = .ok (.iload 4, 2) := by decide +kernel
theorem dL_law_436 : decode cL_law 436 = .ok (.iload_n 3, 1) := by decide +kernel
theorem dL_law_437 : decode cL_law 437 = .ok (.if_icmp .ge 50, 3) := by decide +kernel
theorem dL_law_440 : decode cL_law 440 = .ok (.aload_n 1, 1) := by decide +kernel
theorem dL_law_441 : decode cL_law 441 = .ok (.bipush 9, 2) := by decide +kernel
theorem dL_law_443 : decode cL_law 443 = .ok (.invokevirtual 58, 3) := by decide +kernel
theorem dL_law_446 : decode cL_law 446 = .ok (.istore 5, 2) := by decide +kernel
theorem dL_law_448 : decode cL_law 448 = .ok (.iload 4, 2) := by decide +kernel
theorem dL_law_450 : decode cL_law 450 = .ok (.iconst 5, 1) := by decide +kernel
theorem dL_law_451 : decode cL_law 451 = .ok (.if_icmp .gt 28, 3) := by decide +kernel
theorem dL_law_454 : decode cL_law 454 = .ok (.aload_n 1, 1) := by decide +kernel
theorem dL_law_455 : decode cL_law 455 = .ok (.invokestatic 176, 3) := by decide +kernel
theorem dL_law_458 : decode cL_law 458 = .ok (.aload_n 2, 1) := by decide +kernel
theorem dL_law_459 : decode cL_law 459 = .ok (.iload_n 3, 1) := by decide +kernel
theorem dL_law_460 : decode cL_law 460 = .ok (.iload 4, 2) := by decide +kernel
theorem dL_law_462 : decode cL_law 462 = .ok (.isub, 1) := by decide +kernel
theorem dL_law_463 : decode cL_law 463 = .ok (.laload, 1) := by decide +kernel
theorem dL_law_464 : decode cL_law 464 = .ok (.lcmp, 1) := by decide +kernel
theorem dL_law_465 : decode cL_law 465 = .ok (.ifCond .ne 14, 3) := by decide +kernel
theorem dL_law_468 : decode cL_law 468 = .ok (.aload_n 1, 1) := by decide +kernel
theorem dL_law_469 : decode cL_law 469 = .ok (.invokevirtual 43, 3) := by decide +kernel
theorem dL_law_472 : decode cL_law 472 = .ok (.iload 5, 2) := by decide +kernel
theorem dL_law_474 : decode cL_law 474 = .ok (.iconst 1, 1) := by decide +kernel
theorem dL_law_475 : decode cL_law 475 = .ok (.isub, 1) := by decide +kernel
theorem dL_law_476 : decode cL_law 476 = .ok (.if_icmp .eq 5, 3) := by decide +kernel
theorem dL_law_479 : decode cL_law 479 = .ok (.iconst 0, 1) := by decide +kernel
theorem dL_law_480 : decode cL_law 480 = .ok (.ireturn, 1) := by decide +kernel
theorem dL_law_481 : decode cL_law 481 = .ok (.iinc 4 1, 3) := by decide +kernel
theorem dL_law_484 : decode cL_law 484 = .ok (.goto (-59), 3) := by decide +kernel
theorem dL_law_487 : decode cL_law 487 = .ok (.aload_n 1, 1) := by decide +kernel
theorem dL_law_488 : decode cL_law 488 = .ok (.bipush 9, 2) := by decide +kernel
theorem dL_law_490 : decode cL_law 490 = .ok (.invokevirtual 58, 3) := by decide +kernel
theorem dL_law_493 : decode cL_law 493 = .ok (.ifCond .ne 21, 3) := by decide +kernel
theorem dL_law_496 : decode cL_law 496 = .ok (.aload_n 1, 1) := by decide +kernel
theorem dL_law_497 : decode cL_law 497 = .ok (.bipush 9, 2) := by decide +kernel
theorem dL_law_499 : decode cL_law 499 = .ok (.iconst 0, 1) := by decide +kernel
theorem dL_law_500 : decode cL_law 500 = .ok (.iconst 0, 1) := by decide +kernel
theorem dL_law_501 : decode cL_law 501 = .ok (.iconst 0, 1) := by decide +kernel
theorem dL_law_502 : decode cL_law 502 = .ok (.invokestatic 80, 3) := by decide +kernel
theorem dL_law_505 : decode cL_law 505 = .ok (.bipush (-13), 2) := by decide +kernel
theorem dL_law_507 : decode cL_law 507 = .ok (.if_icmp .ne 7, 3) := by decide +kernel
theorem dL_law_510 : decode cL_law 510 = .ok (.iconst 1, 1) := by decide +kernel
theorem dL_law_511 : decode cL_law 511 = .ok (.goto 4, 3) := by decide +kernel
theorem dL_law_514 : decode cL_law 514 = .ok (.iconst 0, 1) := by decide +kernel
theorem dL_law_515 : decode cL_law 515 = .ok (.ireturn, 1) := by decide +kernel
theorem dL_seen_0 : decode cL_seen 0 = .ok (.ldc2_w 180, 3) := by decide +kernel
theorem dL_seen_3 : decode cL_seen 3 = .ok (.lstore_n 1, 1) := by decide +kernel
theorem dL_seen_4 : decode cL_seen 4 = .ok (.iconst 0, 1) := by decide +kernel
theorem dL_seen_5 : decode cL_seen 5 = .ok (.istore_n 3, 1) := by decide +kernel
theorem dL_seen_6 : decode cL_seen 6 = .ok (.iload_n 3, 1) := by decide +kernel
theorem dL_seen_7 : decode cL_seen 7 = .ok (.bipush 9, 2) := by decide +kernel
theorem dL_seen_9 : decode cL_seen 9 = .ok (.if_icmp .ge 22, 3) := by decide +kernel
theorem dL_seen_12 : decode cL_seen 12 = .ok (.ldc2_w 182, 3) := by decide +kernel
theorem dL_seen_15 : decode cL_seen 15 = .ok (.lload_n 1, 1) := by decide +kernel
theorem dL_seen_16 : decode cL_seen 16 = .ok (.lmul, 1) := by decide +kernel
theorem dL_seen_17 : decode cL_seen 17 = .ok (.aload_n 0, 1) := by decide +kernel
theorem dL_seen_18 : decode cL_seen 18 = .ok (.iload_n 3, 1) := by decide +kernel
theorem dL_seen_19 : decode cL_seen 19 = .ok (.invokevirtual 58, 3) := by decide +kernel
theorem dL_seen_22 : decode cL_seen 22 = .ok (.i2l, 1) := by decide +kernel
theorem dL_seen_23 : decode cL_seen 23 = .ok (.ladd, 1) := by decide +kernel
theorem dL_seen_24 : decode cL_seen 24 = .ok (.lstore_n 1, 1) := by decide +kernel
theorem dL_seen_25 : decode cL_seen 25 = .ok (.iinc 3 1, 3) := by decide +kernel
theorem dL_seen_28 : decode cL_seen 28 = .ok (.goto (-22), 3) := by decide +kernel
theorem dL_seen_31 : decode cL_seen 31 = .ok (.iconst 0, 1) := by decide +kernel
theorem dL_seen_32 : decode cL_seen 32 = .ok (.istore_n 3, 1) := by decide +kernel
theorem dL_seen_33 : decode cL_seen 33 = .ok (.iload_n 3, 1) := by decide +kernel
theorem dL_seen_34 : decode cL_seen 34 = .ok (.bipush 6, 2) := by decide +kernel
theorem dL_seen_36 : decode cL_seen 36 = .ok (.aload_n 0, 1) := by decide +kernel
theorem dL_seen_37 : decode cL_seen 37 = .ok (.iconst 0, 1) := by decide +kernel
theorem dL_seen_38 : decode cL_seen 38 = .ok (.invokevirtual 58, 3) := by decide +kernel
theorem dL_seen_41 : decode cL_seen 41 = .ok (.imul, 1) := by decide +kernel
theorem dL_seen_42 : decode cL_seen 42 = .ok (.if_icmp .ge 47, 3) := by decide +kernel
theorem dL_seen_45 : decode cL_seen 45 = .ok (.ldc2_w 182, 3) := by decide +kernel
theorem dL_seen_48 : decode cL_seen 48 = .ok (.ldc2_w 182, 3) := by decide +kernel
theorem dL_seen_51 : decode cL_seen 51 = .ok (.lload_n 1, 1) := by decide +kernel
theorem dL_seen_52 : decode cL_seen 52 = .ok (.lmul, 1) := by decide +kernel
theorem dL_seen_53 : decode cL_seen 53 = .ok (.aload_n 0, 1) := by decide +kernel
theorem dL_seen_54 : decode cL_seen 54 = .ok (.iload_n 3, 1) := by decide +kernel
theorem dL_seen_55 : decode cL_seen 55 = .ok (.bipush 6, 2) := by decide +kernel
theorem dL_seen_57 : decode cL_seen 57 = .ok (.idiv, 1) := by decide +kernel
theorem dL_seen_58 : decode cL_seen 58 = .ok (.invokevirtual 49, 3) := by decide +kernel
theorem dL_seen_61 : decode cL_seen 61 = .ok (.i2l, 1) := by decide +kernel
theorem dL_seen_62 : decode cL_seen 62 = .ok (.ladd, 1) := by decide +kernel
theorem dL_seen_63 : decode cL_seen 63 = .ok (.lmul, 1) := by decide +kernel
theorem dL_seen_64 : decode cL_seen 64 = .ok (.aload_n 0, 1) := by decide +kernel
theorem dL_seen_65 : decode cL_seen 65 = .ok (.aload_n 0, 1) := by decide +kernel
theorem dL_seen_66 : decode cL_seen 66 = .ok (.iload_n 3, 1) := by decide +kernel
theorem dL_seen_67 : decode cL_seen 67 = .ok (.bipush 6, 2) := by decide +kernel
theorem dL_seen_69 : decode cL_seen 69 = .ok (.idiv, 1) := by decide +kernel
theorem dL_seen_70 : decode cL_seen 70 = .ok (.invokevirtual 49, 3) := by decide +kernel
theorem dL_seen_73 : decode cL_seen 73 = .ok (.iload_n 3, 1) := by decide +kernel
theorem dL_seen_74 : decode cL_seen 74 = .ok (.bipush 6, 2) := by decide +kernel
theorem dL_seen_76 : decode cL_seen 76 = .ok (.irem, 1) := by decide +kernel
theorem dL_seen_77 : decode cL_seen 77 = .ok (.invokevirtual 46, 3) := by decide +kernel
theorem dL_seen_80 : decode cL_seen 80 = .ok (.i2l, 1) := by decide +kernel
theorem dL_seen_81 : decode cL_seen 81 = .ok (.ladd, 1) := by decide +kernel
theorem dL_seen_82 : decode cL_seen 82 = .ok (.lstore_n 1, 1) := by decide +kernel
theorem dL_seen_83 : decode cL_seen 83 = .ok (.iinc 3 1, 3) := by decide +kernel
theorem dL_seen_86 : decode cL_seen 86 = .ok (.goto (-53), 3) := by decide +kernel
theorem dL_seen_89 : decode cL_seen 89 = .ok (.iconst 0, 1) := by decide +kernel
theorem dL_seen_90 : decode cL_seen 90 = .ok (.istore_n 3, 1) := by decide +kernel
theorem dL_seen_91 : decode cL_seen 91 = .ok (.iload_n 3, 1) := by decide +kernel
theorem dL_seen_92 : decode cL_seen 92 = .ok (.aload_n 0, 1) := by decide +kernel
theorem dL_seen_93 : decode cL_seen 93 = .ok (.iconst 2, 1) := by decide +kernel
theorem dL_seen_94 : decode cL_seen 94 = .ok (.invokevirtual 58, 3) := by decide +kernel
theorem dL_seen_97 : decode cL_seen 97 = .ok (.if_icmp .ge 35, 3) := by decide +kernel
theorem dL_seen_100 : decode cL_seen 100 = .ok (.ldc2_w 182, 3) := by decide +kernel
theorem dL_seen_103 : decode cL_seen 103 = .ok (.ldc2_w 182, 3) := by decide +kernel
theorem dL_seen_106 : decode cL_seen 106 = .ok (.lload_n 1, 1) := by decide +kernel
theorem dL_seen_107 : decode cL_seen 107 = .ok (.lmul, 1) := by decide +kernel
theorem dL_seen_108 : decode cL_seen 108 = .ok (.aload_n 0, 1) := by decide +kernel
theorem dL_seen_109 : decode cL_seen 109 = .ok (.iload_n 3, 1) := by decide +kernel
theorem dL_seen_110 : decode cL_seen 110 = .ok (.iconst 0, 1) := by decide +kernel
theorem dL_seen_111 : decode cL_seen 111 = .ok (.invokevirtual 52, 3) := by decide +kernel
theorem dL_seen_114 : decode cL_seen 114 = .ok (.i2l, 1) := by decide +kernel
theorem dL_seen_115 : decode cL_seen 115 = .ok (.ladd, 1) := by decide +kernel
theorem dL_seen_116 : decode cL_seen 116 = .ok (.lmul, 1) := by decide +kernel
theorem dL_seen_117 : decode cL_seen 117 = .ok (.aload_n 0, 1) := by decide +kernel
theorem dL_seen_118 : decode cL_seen 118 = .ok (.iload_n 3, 1) := by decide +kernel
theorem dL_seen_119 : decode cL_seen 119 = .ok (.iconst 1, 1) := by decide +kernel
theorem dL_seen_120 : decode cL_seen 120 = .ok (.invokevirtual 52, 3) := by decide +kernel
theorem dL_seen_123 : decode cL_seen 123 = .ok (.i2l, 1) := by decide +kernel
theorem dL_seen_124 : decode cL_seen 124 = .ok (.ladd, 1) := by decide +kernel
theorem dL_seen_125 : decode cL_seen 125 = .ok (.lstore_n 1, 1) := by decide +kernel
theorem dL_seen_126 : decode cL_seen 126 = .ok (.iinc 3 1, 3) := by decide +kernel
theorem dL_seen_129 : decode cL_seen 129 = .ok (.goto (-38), 3) := by decide +kernel
theorem dL_seen_132 : decode cL_seen 132 = .ok (.iconst 0, 1) := by decide +kernel
theorem dL_seen_133 : decode cL_seen 133 = .ok (.istore_n 3, 1) := by decide +kernel
theorem dL_seen_134 : decode cL_seen 134 = .ok (.iload_n 3, 1) := by decide +kernel
theorem dL_seen_135 : decode cL_seen 135 = .ok (.bipush 12, 2) := by decide +kernel
theorem dL_seen_137 : decode cL_seen 137 = .ok (.if_icmp .ge 27, 3) := by decide +kernel
theorem dL_seen_140 : decode cL_seen 140 = .ok (.ldc2_w 182, 3) := by decide +kernel
theorem dL_seen_143 : decode cL_seen 143 = .ok (.lload_n 1, 1) := by decide +kernel
theorem dL_seen_144 : decode cL_seen 144 = .ok (.lmul, 1) := by decide +kernel
theorem dL_seen_145 : decode cL_seen 145 = .ok (.aload_n 0, 1) := by decide +kernel
theorem dL_seen_146 : decode cL_seen 146 = .ok (.iload_n 3, 1) := by decide +kernel
theorem dL_seen_147 : decode cL_seen 147 = .ok (.iconst 3, 1) := by decide +kernel
theorem dL_seen_148 : decode cL_seen 148 = .ok (.idiv, 1) := by decide +kernel
theorem dL_seen_149 : decode cL_seen 149 = .ok (.iload_n 3, 1) := by decide +kernel
theorem dL_seen_150 : decode cL_seen 150 = .ok (.iconst 3, 1) := by decide +kernel
theorem dL_seen_151 : decode cL_seen 151 = .ok (.irem, 1) := by decide +kernel
theorem dL_seen_152 : decode cL_seen 152 = .ok (.invokevirtual 55, 3) := by decide +kernel
theorem dL_seen_155 : decode cL_seen 155 = .ok (.i2l, 1) := by decide +kernel
theorem dL_seen_156 : decode cL_seen 156 = .ok (.ladd, 1) := by decide +kernel
theorem dL_seen_157 : decode cL_seen 157 = .ok (.lstore_n 1, 1) := by decide +kernel
theorem dL_seen_158 : decode cL_seen 158 = .ok (.iinc 3 1, 3) := by decide +kernel
theorem dL_seen_161 : decode cL_seen 161 = .ok (.goto (-27), 3) := by decide +kernel
theorem dL_seen_164 : decode cL_seen 164 = .ok (.lload_n 1, 1) := by decide +kernel
theorem dL_seen_165 : decode cL_seen 165 = .ok (.lreturn, 1) := by decide +kernel
abbrev vwCl : List vw_C := [(RX0, TX0, 2), (RX1, TX1, 3), (RX2, TX2, 7), (RX3, TX3, 7), (RX4, TX4, 2), (RX5, TX5, 4)]
