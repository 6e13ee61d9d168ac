/-! My own words over the kit's rows: what holds all through a method, worlds, and the calls. -/
abbrev TYS (I J O : ClassId) : List (ClassId × FieldType) := [(I, .int), (J, .long), (O, .object RX3)]
/-- what the tables say of classes and arrays: it holds in every state of the run -/
def XK (D : va_G) (I J O : ClassId) (U : State) : Prop := va_K D vwCl (TYS I J O) U ∧ va_AO RX3 U ∧ va_Nw (.fieldLinkNest RX5 44 RX3 "slots" "LStampedSlots$Slots;" RX5) U ∧ va_Nw (.fieldLinkNest RX5 63 RX3 "row" "LStampedSlots$Row;" RX5) U ∧ va_Nw (.fieldLinkNest RX5 220 RX3 "events" "I" RX5) U ∧ va_Nw (.fieldLinkNest RX5 224 RX3 "thingsPut" "I" RX5) U ∧ va_Nw (.fieldLinkNest RX5 227 RX3 "thingsRemoved" "I" RX5) U ∧ va_Nw (.fieldLinkNest RX5 230 RX3 "thingsMoved" "I" RX5) U ∧ va_Nw (.methodLinkNest RX1 69 yX5_isWalker RX5) U
theorem XK.warm {D : va_G} {I J O : ClassId} {s U : State} (hW : s.WarmedH U.vm) (h : XK D I J O s) : XK D I J O U := by
  obtain ⟨hK, hA, h0, h1, h2, h3, h4, h5, h6⟩ := h
  exact ⟨va_K.moved hW.alike hK, va_AO.moved hW.alike hA, va_Nw.warmF hW h0, va_Nw.warmF hW h1, va_Nw.warmF hW h2, va_Nw.warmF hW h3, va_Nw.warmF hW h4, va_Nw.warmF hW h5, va_Nw.warmM hW h6⟩
theorem XK.calling {D : va_G} {I J O : ClassId} {U : State} {g : JFrame} {mk : MethodId} {a : Array Value} (h : XK D I J O U) : XK D I J O (U.calling g mk a) := by
  obtain ⟨hK, hA, h0, h1, h2, h3, h4, h5, h6⟩ := h
  exact ⟨va_K.moved (u := U) (U := U.calling g mk a) (Vm.Alike.refl U.vm) hK, va_AO.moved (u := U) (U := U.calling g mk a) (Vm.Alike.refl U.vm) hA, va_Nw.same rfl rfl h0, va_Nw.same rfl rfl h1, va_Nw.same rfl rfl h2, va_Nw.same rfl rfl h3, va_Nw.same rfl rfl h4, va_Nw.same rfl rfl h5, va_Nw.same rfl rfl h6⟩
/-- what holds all through a method's body -/
def fx (p : Program) (s : State) (m : MethodId) (args : Array Value) (meth : Method) (c : Code) (cc : ByteArray) (own : String) (nL : Nat) (rt : Option FieldType) (D : va_G) (I J O : ClassId) : Prop :=
  p.tables.exec = Jvm.exec ∧ c.code = cc ∧ c.maxLocals = nL ∧ s.vm.findClass own = some m.cls ∧ (∀ w ∈ B0, w.before args s = true) ∧ XK D I J O s ∧ meth.sig.returnType = rt ∧ meth.locks = false
/-- the heap holds the world ws, apart from all else; what was written since H0 lies in A -/
def fy (D : va_G) (A : Nat → Prop) (H0 H : Heap) (locs : List Loc) (ws : va_W) : Prop := va_P D vwCl ws H ∧ va_D A ws ∧ va_S A H0 H locs ∧ ∀ q, H0.size ≤ q → A q
theorem fy.sub {D : va_G} {A : Nat → Prop} {H0 H : Heap} {locs : List Loc} {ws ws' : va_W} (h : fy D A H0 H locs ws) (is : List Nat) (hn : va_nd is = true) (hs : is.map (fun i => ws[i]?) = ws'.map some) : fy D A H0 H locs ws' := by
  refine ⟨fun k q hq => ?_, h.2.1.sub is hn hs, h.2.2.1, h.2.2.2⟩
  have h1 : (is.map (fun i => ws[i]?))[k]? = some (some q) := by rw [hs, List.getElem?_map, hq]; rfl
  rw [List.getElem?_map] at h1
  cases hi : is[k]? with
  | none => rw [hi] at h1; cases h1
  | some i => rw [hi] at h1; exact h.1 i q (Option.some.inj h1)
theorem fy.part {D : va_G} {A : Nat → Prop} {H0 H : Heap} {locs : List Loc} {X X' pl : va_W} (h : fy D A H0 H locs (X ++ pl)) (is : List Nat) (hn : va_nd is = true) (hs : is.map (fun i => X[i]?) = X'.map some) : fy D A H0 H locs (X' ++ pl) :=
  ⟨h.1.part is hs, h.2.1.part is hn hs, h.2.2.1, h.2.2.2⟩
theorem x_pick {D : va_G} {X wc pl : va_W} {H : Heap} (h : va_P D vwCl (X ++ pl) H) (is : List Nat) (hs : is.map (fun i => X[i]?) = wc.map some) : va_P D vwCl wc H := by
  intro k q hq
  have h1 : (is.map (fun i => X[i]?))[k]? = some (some q) := by rw [hs, List.getElem?_map, hq]; rfl
  rw [List.getElem?_map] at h1
  cases hi : is[k]? with
  | none => rw [hi] at h1; cases h1
  | some i =>
    rw [hi] at h1
    have h2 : X[i]? = some q := Option.some.inj h1
    exact h i q (by rw [List.getElem?_append_left (List.getElem?_eq_some_iff.mp h2).1]; exact h2)
theorem x_none {D : va_G} {H : Heap} : va_P D vwCl [] H := fun k q h => nomatch h
theorem x_pick0 {D : va_G} {X wc : va_W} {H : Heap} (h : va_P D vwCl X H) (is : List Nat) (hs : is.map (fun i => X[i]?) = wc.map some) : va_P D vwCl wc H :=
  x_pick (pl := []) (by rw [List.append_nil]; exact h) is hs
/-- a list, at the places is the cells w -/
def x_upd : va_W → List Nat → va_W → va_W
  | X, i :: is, e :: w => x_upd (X.set i e) is w
  | X, _, _ => X
theorem x_upd_len : ∀ (is : List Nat) (w X : va_W), (x_upd X is w).length = X.length
  | [], [], _ => rfl
  | [], _ :: _, _ => rfl
  | _ :: _, [], _ => rfl
  | i :: is, e :: w, X => by
    show (x_upd (X.set i e) is w).length = X.length
    rw [x_upd_len is w, List.length_set]
theorem x_nd_cons {i : Nat} {is : List Nat} (h : va_nd (i :: is) = true) : i ∉ is ∧ va_nd is = true := by
  simp only [va_nd, Bool.and_eq_true, decide_eq_true_eq] at h
  exact h
/-- where a cell of it comes from -/
theorem x_upd_get : ∀ (is : List Nat) (w X : va_W) (k : Nat) (q : Nat × va_E), va_nd is = true → w.length = is.length → (x_upd X is w)[k]? = some q → (∃ j : Nat, is[j]? = some k ∧ w[j]? = some q) ∨ (k ∉ is ∧ X[k]? = some q)
  | [], w, X, k, q, _, hl, h => by
    cases w with
    | nil => exact Or.inr ⟨List.not_mem_nil, h⟩
    | cons e w => cases hl
  | i :: is, [], X, k, q, _, hl, h => by cases hl
  | i :: is, e :: w, X, k, q, hn, hl, h => by
    obtain ⟨hi, hn2⟩ := x_nd_cons hn
    have h9 : (x_upd (X.set i e) is w)[k]? = some q := h
    rcases x_upd_get is w (X.set i e) k q hn2 (by simpa using hl) h9 with ⟨j, h1, h2⟩ | ⟨h1, h2⟩
    · exact Or.inl ⟨j + 1, h1, h2⟩
    · by_cases hk : k = i
      · subst hk
        have hlt : k < X.length := by
          have h3 := (List.getElem?_eq_some_iff.mp h2).1
          rwa [List.length_set] at h3
        rw [List.getElem?_set_self hlt] at h2
        exact Or.inl ⟨0, rfl, h2⟩
      · rw [List.getElem?_set_ne (fun h => hk h.symm)] at h2
        exact Or.inr ⟨fun hm => (List.mem_cons.mp hm).elim hk h1, h2⟩
theorem x_nd_inj : ∀ (is : List Nat) (i j k : Nat), va_nd is = true → is[i]? = some k → is[j]? = some k → i = j
  | [], i, j, k, _, h, _ => by cases h
  | x :: is, i, j, k, hn, h1, h2 => by
    obtain ⟨hx, hn2⟩ := x_nd_cons hn
    match i, j, h1, h2 with
    | 0, 0, _, _ => rfl
    | 0, j + 1, h1, h2 =>
      cases h1
      have h3 : is[j]? = some x := h2
      exact absurd (List.mem_of_getElem? h3) hx
    | i + 1, 0, h1, h2 =>
      cases h2
      have h3 : is[i]? = some x := h1
      exact absurd (List.mem_of_getElem? h3) hx
    | i + 1, j + 1, h1, h2 => rw [x_nd_inj is i j k hn2 h1 h2]
/-- what a callee leaves at its places, the rest as it was -/
theorem x_updJ {A0 : Nat → Prop} {D : va_G} {X cx rx pl pl1 : va_W} {H H1 : Heap} (hP : va_P D vwCl (X ++ pl) H) (hD : va_D A0 (X ++ pl)) (is : List Nat) (hC : is.map (fun i => X[i]?) = cx.map some) (hnd : va_nd is = true) (hlen : rx.length = cx.length)
    (hk : ∀ q : Nat, q < H.size → ¬ va_A (cx ++ pl) H.size q → H1[q]? = H[q]?) (hF : ∀ q, va_A (cx ++ pl) H.size q → A0 q) (hP1 : va_P D vwCl (rx ++ pl1) H1) (hD1 : va_D (va_A (cx ++ pl) H.size) (rx ++ pl1)) : va_P D vwCl (x_upd X is rx ++ pl1) H1 ∧ va_D A0 (x_upd X is rx ++ pl1) := by
  have hil : is.length = cx.length := by have h := congrArg List.length hC; simpa using h
  have apart : ∀ (k : Nat) (q : Nat × va_E), k ∉ is → X[k]? = some q → q.1 < H.size ∧ ¬ va_A (cx ++ pl) H.size q.1 := by
    intro k q hkn hq
    have hkl := (List.getElem?_eq_some_iff.mp hq).1
    have h2 : (X ++ pl)[k]? = some q := by rw [List.getElem?_append_left hkl]; exact hq
    have hl := (hP k q h2).lt
    refine ⟨hl, fun h => ?_⟩
    rcases h with ⟨k2, e, h⟩ | h
    · have h3 := va_part is hC k2 (q.1, e) h
      have h4 := hD.1 k _ q (q.1, e) h2 h3 rfl
      by_cases hlt : k2 < cx.length
      · rw [if_pos hlt] at h4
        have h5 : is[k2]? = some k := by
          rw [List.getElem?_eq_getElem (by omega)] at h4 ⊢
          exact congrArg some h4.symm
        exact hkn (List.mem_of_getElem? h5)
      · rw [if_neg hlt] at h4
        omega
    · omega
  have org : ∀ (k : Nat) (q : Nat × va_E), (x_upd X is rx ++ pl1)[k]? = some q → (∃ i, (rx ++ pl1)[i]? = some q ∧ (i < rx.length → is[i]? = some k) ∧ (rx.length ≤ i → k = X.length + (i - rx.length))) ∨ (k ∉ is ∧ X[k]? = some q) := by
    intro k q hq
    by_cases hkl : k < X.length
    · rw [List.getElem?_append_left (by rw [x_upd_len]; exact hkl)] at hq
      rcases x_upd_get is rx X k q hnd (by omega) hq with ⟨j, h1, h2⟩ | h
      · have hj := (List.getElem?_eq_some_iff.mp h2).1
        exact Or.inl ⟨j, by rw [List.getElem?_append_left hj]; exact h2, fun _ => h1, fun h => by omega⟩
      · exact Or.inr h
    · rw [List.getElem?_append_right (by rw [x_upd_len]; omega), x_upd_len] at hq
      exact Or.inl ⟨rx.length + (k - X.length), by rw [List.getElem?_append_right (by omega)]; rw [show rx.length + (k - X.length) - rx.length = k - X.length by omega]; exact hq, fun h => by omega, fun _ => by omega⟩
  refine ⟨fun k q hq => ?_, ⟨fun i j p q hp hq hpq => ?_, fun k q hq => ?_⟩⟩
  · rcases org k q hq with ⟨i, h1, -, -⟩ | ⟨h1, h2⟩
    · exact hP1 i q h1
    · obtain ⟨g1, g2⟩ := apart k q h1 h2
      have h3 : (X ++ pl)[k]? = some q := by rw [List.getElem?_append_left (List.getElem?_eq_some_iff.mp h2).1]; exact h2
      exact (hP k q h3).kept (hk q.1 g1 g2)
  · rcases org i p hp with ⟨i1, a1, a2, a3⟩ | ⟨a1, a2⟩ <;> rcases org j q hq with ⟨j1, b1, b2, b3⟩ | ⟨b1, b2⟩
    · have he := hD1.1 i1 j1 p q a1 b1 hpq
      subst he
      by_cases hi : i1 < rx.length
      · exact Option.some.inj ((a2 hi).symm.trans (b2 hi))
      · rw [a3 (by omega), b3 (by omega)]
    · exact absurd (by rw [← hpq]; exact hD1.2 i1 p a1) (apart j q b1 b2).2
    · exact absurd (by rw [hpq]; exact hD1.2 j1 q b1) (apart i p a1 a2).2
    · exact hD.1 i j p q (by rw [List.getElem?_append_left (List.getElem?_eq_some_iff.mp a2).1]; exact a2) (by rw [List.getElem?_append_left (List.getElem?_eq_some_iff.mp b2).1]; exact b2) hpq
  · rcases org k q hq with ⟨i, h1, -, -⟩ | ⟨h1, h2⟩
    · exact hF q.1 (hD1.2 i q h1)
    · exact hD.2 k q (by rw [List.getElem?_append_left (List.getElem?_eq_some_iff.mp h2).1]; exact h2)
theorem x_lastpl {D : va_G} {X pl : va_W} {H : Heap} (h : va_P D vwCl (X ++ pl) H) : va_P D vwCl pl H := by
  intro k q hq
  exact h (X.length + k) q (by rw [List.getElem?_append_right (by omega)]; rw [show X.length + k - X.length = k by omega]; exact hq)
/-- the words of a method that is called -/
def yV (y : MethodName) (cc : ByteArray) (maxL : Nat) (rt : Option FieldType) (n : Nat) : Prop := Cond.code y cc maxL rt ∈ B0 ∧ Cond.initialized y.cls ∈ B0 ∧ Cond.instanceMethod y ∈ B0 ∧ Cond.selects y.cls y y ∈ B0 ∧ y.cls ≠ "java/lang/invoke/MethodHandle" ∧ y.cls ≠ "java/lang/invoke/VarHandle" ∧ (parseMethodDescriptor y.desc).map (fun d => d.parameters.length) = some n
def yS (y : MethodName) (cc : ByteArray) (maxL : Nat) (rt : Option FieldType) (n : Nat) : Prop := Cond.code y cc maxL rt ∈ B0 ∧ Cond.initialized y.cls ∈ B0 ∧ Cond.static y ∈ B0 ∧ y.cls ≠ "java/lang/invoke/MethodHandle" ∧ y.cls ≠ "java/lang/invoke/VarHandle" ∧ (parseMethodDescriptor y.desc).map (fun d => d.parameters.length) = some n
def yI (y : MethodName) (cc : ByteArray) (maxL : Nat) (n : Nat) : Prop := Cond.code y cc maxL none ∈ B0 ∧ Cond.initialized y.cls ∈ B0 ∧ Cond.instanceMethod y ∈ B0 ∧ y.name = "<init>" ∧ y.cls ≠ "java/lang/invoke/MethodHandle" ∧ y.cls ≠ "java/lang/invoke/VarHandle" ∧ (parseMethodDescriptor y.desc).map (fun d => d.parameters.length) = some n
theorem B0_in {w : Cond} (h : w ∈ B0) : GoodIn B0 (w :: B0) := fun v hv => by
  rcases List.mem_cons.mp hv with rfl | hv
  · exact ⟨h, good_of_word (B0_good h)⟩
  · exact ⟨hv, good_of_word (B0_good hv)⟩
theorem B0_V {own C : String} {idx : Nat} {y : MethodName} {w : Cond} (h1 : Cond.methodLink own idx y ∈ B0) (h2 : Cond.instanceMethod y ∈ B0) (h3 : Cond.selects C y y ∈ B0) (h4 : Cond.initialized C ∈ B0) (h : w ∈ B0) : GoodIn B0 (wsV own idx C y (w :: B0)) := fun v hv => by
  simp only [wsV, List.cons_append, List.nil_append, List.mem_cons] at hv
  rcases hv with rfl | rfl | rfl | rfl | rfl | hv
  · exact ⟨h1, good_of_word (B0_good h1)⟩
  · exact ⟨h2, good_of_word (B0_good h2)⟩
  · exact ⟨h3, good_of_word (B0_good h3)⟩
  · exact ⟨h4, good_of_word (B0_good h4)⟩
  · exact ⟨h, good_of_word (B0_good h)⟩
  · exact ⟨hv, good_of_word (B0_good hv)⟩
theorem B0_S {own : String} {idx : Nat} {y : MethodName} {w : Cond} (h1 : Cond.methodLink own idx y ∈ B0) (h2 : Cond.static y ∈ B0) (h4 : Cond.initialized y.cls ∈ B0) (h : w ∈ B0) : GoodIn B0 (va_wsS own idx y (w :: B0)) := fun v hv => by
  simp only [va_wsS, List.cons_append, List.nil_append, List.mem_cons] at hv
  rcases hv with rfl | rfl | rfl | rfl | hv
  · exact ⟨h1, good_of_word (B0_good h1)⟩
  · exact ⟨h2, good_of_word (B0_good h2)⟩
  · exact ⟨h4, good_of_word (B0_good h4)⟩
  · exact ⟨h, good_of_word (B0_good h)⟩
  · exact ⟨hv, good_of_word (B0_good hv)⟩
/-- the words of a method's own list: its code, and B0 -/
abbrev wsB (y : MethodName) (cc : ByteArray) (maxL : Nat) (rt : Option FieldType) : List Cond := Cond.code y cc maxL rt :: B0
abbrev rmB (fr lo mc ms : Nat) : Room := { frames := fr, cells := mc, slots := ms, locals := lo }
/-- a contract of a method that only reads -/
abbrev pcR (D : va_G) (I J O : ClassId) (As : List Value) (ws : va_W) : Array Value → State → Prop := va_Pc As (fun U => va_P D vwCl ws U.heap ∧ XK D I J O U)
abbrev mR (l : Launch) (y : MethodName) (cc : ByteArray) (maxL : Nat) (rt : Option FieldType) (fr lo : Nat) (D : va_G) (I J O : ClassId) (As : List Value) (ws : va_W) (Qc : Array Value → State → Outcome → State → Prop) : Prop :=
  Met l y (wsB y cc maxL rt) (rmB fr lo 0 0) (pcR D I J O As ws) Qc 0 0 (fun _ => False)
/-- a contract of a method that writes into its world ws -/
abbrev pcM (D : va_G) (I J O : ClassId) (sz : Nat) (As : List Value) (ws : va_W) : Array Value → State → Prop := va_Pc As (fun U => U.heap.size = sz ∧ va_P D vwCl ws U.heap ∧ XK D I J O U ∧ va_D (fun _ => True) ws)
abbrev mM (l : Launch) (y : MethodName) (cc : ByteArray) (maxL : Nat) (rt : Option FieldType) (fr lo mc ms : Nat) (D : va_G) (I J O : ClassId) (sz : Nat) (As : List Value) (ws : va_W) (Qc : Array Value → State → Outcome → State → Prop) : Prop :=
  Met l y (wsB y cc maxL rt) (rmB fr lo mc ms) (pcM D I J O sz As ws) Qc mc ms (va_A ws sz)
abbrev bM {S : Type} (D : va_G) (sz : Nat) (ws : va_W) (w1 : S → va_W) : S → State → Prop := fun u t => va_P D vwCl (w1 u) t.heap ∧ va_D (va_A ws sz) (w1 u)
abbrev qMi {S : Type} (D : va_G) (sz : Nat) (ws : va_W) (r : Int32) (w1 : S → va_W) := va_Qi (fun (x : Int32) (_ : S) => x = r) (bM D sz ws w1) (va_A ws sz)
abbrev qMl {S : Type} (D : va_G) (sz : Nat) (ws : va_W) (r : Int64) (w1 : S → va_W) := va_Ql (fun (x : Int64) (_ : S) => x = r) (bM D sz ws w1) (va_A ws sz)
abbrev qMd {S : Type} (D : va_G) (sz : Nat) (ws : va_W) (r : UInt64) (w1 : S → va_W) := va_Qd (fun (x : UInt64) (_ : S) => x = r) (bM D sz ws w1) (va_A ws sz)
abbrev qMv {S : Type} (D : va_G) (sz : Nat) (ws : va_W) (w1 : S → va_W) := va_Qv (fun (_ : S) => True) (bM D sz ws w1) (va_A ws sz)
abbrev qRi (r : Int32) := vp_Si (fun x : Int32 => x = r)
abbrev qRl (r : Int64) := vp_Sl (fun x : Int64 => x = r)
abbrev qRd (r : UInt64) := vp_Sd (fun x : UInt64 => x = r)
theorem blR {D : va_G} {I J O : ClassId} {As : List Value} {ws : va_W} : FrameBlind (pcR D I J O As ws) := fun _ _ _ _ q => ⟨q.1, q.2.1, q.2.2.calling⟩
theorem blM {D : va_G} {I J O : ClassId} {sz : Nat} {As : List Value} {ws : va_W} : FrameBlind (pcM D I J O sz As ws) := fun _ _ _ _ q => ⟨q.1, q.2.1, q.2.2.1, q.2.2.2.1.calling, q.2.2.2.2⟩
theorem mR_open {l : Launch} {y : MethodName} {cc : ByteArray} {maxL : Nat} {rt : Option FieldType} {fr lo : Nat} {D : va_G} {I J O : ClassId} {As : List Value} {ws : va_W} {Qc : Array Value → State → Outcome → State → Prop} {own : String} (ho : y.cls = own) (hy : plainName y.cls = true) (hn : (lg_sl As).length ≤ maxL)
    (body : ∀ (p : Program) (e : Env) (s : State) (m : MethodId) (below : List Frame) (meth : Method) (c : Code) (ls : Array Slot), fx p s m As.toArray meth c cc own maxL rt D I J O → va_P D vwCl ws s.heap → lv_has ls maxL (lv_args 0 As) →
      W p l e (rmB fr lo 0 0) s m As.toArray below meth c s.heap [] 0 0 (MQ below Qc As.toArray s 0 0 (fun _ => False)) (F0 m 0 ls [])) : mR l y cc maxL rt fr lo D I J O As ws Qc := by
  subst ho
  refine Met.ofW (cc := cc) (maxL := maxL) (ret := rt) hy rfl ?_
  intro p e s m args below meth c s₁ B hml hv
  obtain ⟨rfl, hP, hK⟩ := hv
  have hts := atoms_spec (ws := wsB y cc maxL rt) B.pre
  rw [lg_entry_eq]
  exact body p e s m below meth c _ ⟨B.exec, B.bytes, hml, findClass_of_methodNamed B.named, fun w h => hts w (List.mem_cons_of_mem _ h), hK, B.returns, B.notSynchronized⟩ hP (lv_entry As hn)
theorem mM_open {l : Launch} {y : MethodName} {cc : ByteArray} {maxL : Nat} {rt : Option FieldType} {fr lo mc ms : Nat} {D : va_G} {I J O : ClassId} {sz : Nat} {As : List Value} {ws : va_W} {Qc : Array Value → State → Outcome → State → Prop} {own : String} (ho : y.cls = own) (hy : plainName y.cls = true) (hn : (lg_sl As).length ≤ maxL)
    (body : ∀ (p : Program) (e : Env) (s : State) (m : MethodId) (below : List Frame) (meth : Method) (c : Code) (ls : Array Slot), fx p s m As.toArray meth c cc own maxL rt D I J O → meth.name = y.name → s.heap.size = sz → fy D (va_A ws sz) s.heap s.heap [] ws → lv_has ls maxL (lv_args 0 As) →
      W p l e (rmB fr lo mc ms) s m As.toArray below meth c s.heap [] 0 0 (MQ below Qc As.toArray s mc ms (va_A ws sz)) (F0 m 0 ls [])) : mM l y cc maxL rt fr lo mc ms D I J O sz As ws Qc := by
  subst ho
  refine Met.ofW (cc := cc) (maxL := maxL) (ret := rt) hy rfl ?_
  intro p e s m args below meth c s₁ B hml hv
  obtain ⟨rfl, hsz, hP, hK, hD0⟩ := hv
  have hts := atoms_spec (ws := wsB y cc maxL rt) B.pre
  rw [lg_entry_eq]
  exact body p e s m below meth c _ ⟨B.exec, B.bytes, hml, findClass_of_methodNamed B.named, fun w h => hts w (List.mem_cons_of_mem _ h), hK, B.returns, B.notSynchronized⟩ (name_of_methodNamed B.named B.method).1 hsz ⟨hP, hD0.self, va_S.rf, fun q h => Or.inr (by rw [← hsz]; exact h)⟩ (lv_entry As hn)
section
variable {p : Program} {l : Launch} {e : Env} {R : Room} {s : State} {m : MethodId} {args : Array Value} {below : List Frame} {meth : Method} {c : Code} {H H0 : Heap} {locs : List Loc} {cells slots : Nat} {Q : State → Prop} {pc : Nat} {ls : Array Slot} {rest : List Value} {cc : ByteArray} {own : String} {nL : Nat} {rt : Option FieldType} {D : va_G} {I J O : ClassId} {A : Nat → Prop} {a : Nat}
theorem x_get (E : fx p s m args meth c cc own nL rt D I J O) {ws : va_W} (hP : va_P D vwCl ws H) (q0 : Nat) {ci : Nat} {fs : List Value} (he : ws[q0]? = some (a, .inr (ci, fs))) {C : String} {T : u_T} {N : Nat} (hc : vwCl[ci]? = some (C, T, N)) (hin : ∀ w ∈ u_ws C T N, w ∈ B0) {index : Nat} (k : Nat) (hk : k < N) (hlink : Cond.fieldLink own index C (T k).2.1 (T k).2.2.1 ∈ B0) (hsame : (T k).1 = C) {v : Value} (hv : fs[k]? = some v) (hdg : decode cc pc = .ok (.getfield index, 3))
    (kk : W p l e R s m args below meth c H locs cells slots Q (F0 m (pc + 3) ls (v :: rest))) : W p l e R s m args below meth c H locs cells slots Q (F0 m pc ls (.ref a :: rest)) :=
  va_get E.1 E.2.1 E.2.2.2.2.1 hin E.2.2.2.1 E.2.2.2.2.2.1.1 hP q0 he hc k hk (E.2.2.2.2.1 _ hlink) (by rw [hsame]; exact fun _ h => h) hv hdg kk
theorem x_getN (E : fx p s m args meth c cc own nL rt D I J O) {ws : va_W} (hP : va_P D vwCl ws H) (q0 : Nat) {ci : Nat} {fs : List Value} (he : ws[q0]? = some (a, .inr (ci, fs))) {C host : String} {T : u_T} {N : Nat} (hc : vwCl[ci]? = some (C, T, N)) (hin : ∀ w ∈ u_ws C T N, w ∈ B0) {index : Nat} (k : Nat) (hk : k < N) (hlink : va_Nw (.fieldLinkNest own index C (T k).2.1 (T k).2.2.1 host) s) (hsame : (T k).1 = C) {v : Value} (hv : fs[k]? = some v) (hdg : decode cc pc = .ok (.getfield index, 3))
    (kk : W p l e R s m args below meth c H locs cells slots Q (F0 m (pc + 3) ls (v :: rest))) : W p l e R s m args below meth c H locs cells slots Q (F0 m pc ls (.ref a :: rest)) :=
  va_getN E.1 E.2.1 E.2.2.2.2.1 hin E.2.2.2.1 E.2.2.2.2.2.1.1 hP q0 he hc k hk (va_Nw.use rfl hlink) (by rw [hsame]; exact fun _ h => h) hv hdg kk
theorem x_put (E : fx p s m args meth c cc own nL rt D I J O) {ws : va_W} (hw : fy D A H0 H locs ws) (q0 : Nat) {ci : Nat} {fs : List Value} (he : ws[q0]? = some (a, .inr (ci, fs))) {C : String} {T : u_T} {N : Nat} (hc : vwCl[ci]? = some (C, T, N)) (hin : ∀ w ∈ u_ws C T N, w ∈ B0) {ty0 : Nat → FieldType} (hty : ∀ k, k < N → parseFieldDescriptor (T k).2.2.1 = some (ty0 k)) (hnm : ∀ a, a < N → ∀ b, b < N → a ≠ b → (T a).2.1 ≠ (T b).2.1) {index : Nat} (k : Nat) (hk : k < N) (hlink : Cond.fieldLink own index C (T k).2.1 (T k).2.2.1 ∈ B0) (hsame : (T k).1 = C) (hfin : (T k).2.2.2 = false) {v : Value} (hn : narrow (ty0 k) v = v) (hfit : fits (ty0 k) v = true) (hl : k < fs.length) (hdg : decode cc pc = .ok (.putfield index, 3))
    (kk : ∀ (H1 : Heap) (locs1 : List Loc), fy D A H0 H1 locs1 (ws.set q0 (a, .inr (ci, fs.set k v))) → W p l e R s m args below meth c H1 locs1 cells slots Q (F0 m (pc + 3) ls rest)) : W p l e R s m args below meth c H locs cells slots Q (F0 m pc ls (v :: .ref a :: rest)) :=
  va_put E.1 E.2.1 E.2.2.2.2.1 hin ty0 hty hnm E.2.2.2.1 E.2.2.2.2.2.1.1 hw.1 hw.2.1 hw.2.2.1 q0 he hc k hk (E.2.2.2.2.1 _ hlink) (by rw [hsame]; exact fun _ h => h) hfin (hty k hk) hn hfit hl hdg (fun H1 locs1 h1 h2 h3 => kk H1 locs1 ⟨h1, h2, h3, hw.2.2.2⟩)
theorem x_putF (E : fx p s m args meth c cc own nL rt D I J O) {ws : va_W} (hw : fy D A H0 H locs ws) (q0 : Nat) {ci : Nat} {fs : List Value} (he : ws[q0]? = some (a, .inr (ci, fs))) {T : u_T} {N : Nat} (hc : vwCl[ci]? = some (own, T, N)) (hin : ∀ w ∈ u_ws own T N, w ∈ B0) {ty0 : Nat → FieldType} (hty : ∀ k, k < N → parseFieldDescriptor (T k).2.2.1 = some (ty0 k)) (hnm : ∀ a, a < N → ∀ b, b < N → a ≠ b → (T a).2.1 ≠ (T b).2.1) {index : Nat} (k : Nat) (hk : k < N) (hlink : Cond.fieldLink own index own (T k).2.1 (T k).2.2.1 ∈ B0) (hsame : (T k).1 = own) (hfin : (T k).2.2.2 = true) (hin2 : meth.name = "<init>") {v : Value} (hn : narrow (ty0 k) v = v) (hfit : fits (ty0 k) v = true) (hl : k < fs.length) (hdg : decode cc pc = .ok (.putfield index, 3))
    (kk : ∀ (H1 : Heap) (locs1 : List Loc), fy D A H0 H1 locs1 (ws.set q0 (a, .inr (ci, fs.set k v))) → W p l e R s m args below meth c H1 locs1 cells slots Q (F0 m (pc + 3) ls rest)) : W p l e R s m args below meth c H locs cells slots Q (F0 m pc ls (v :: .ref a :: rest)) :=
  va_putF E.1 E.2.1 E.2.2.2.2.1 hin ty0 hty hnm E.2.2.2.1 E.2.2.2.2.2.1.1 hw.1 hw.2.1 hw.2.2.1 q0 he hc k hk (E.2.2.2.2.1 _ hlink) (by rw [hsame]; exact fun _ h => h) hfin hin2 hsame (hty k hk) hn hfit hl hdg (fun H1 locs1 h1 h2 h3 => kk H1 locs1 ⟨h1, h2, h3, hw.2.2.2⟩)
theorem x_ald (E : fx p s m args meth c cc own nL rt D I J O) {ws : va_W} (hP : va_P D vwCl ws H) (q0 : Nat) {n : Nat} {f : Nat → Int32} (ha : ws[q0]? = some (a, .inl (I, n, .inl f))) {i : Int32} (hin : vp_in i n) (hdg : decode cc pc = .ok (.iaload, 1))
    (kk : W p l e R s m args below meth c H locs cells slots Q (F0 m (pc + 1) ls (.int (f i.toNatClampNeg) :: rest))) : W p l e R s m args below meth c H locs cells slots Q (F0 m pc ls (.int i :: .ref a :: rest)) :=
  va_iald E.1 E.2.1 E.2.2.2.2.2.1.1 hP q0 0 ha rfl hin hdg kk
theorem x_ast (E : fx p s m args meth c cc own nL rt D I J O) {ws : va_W} (hw : fy D A H0 H locs ws) (q0 : Nat) {n : Nat} {f : Nat → Int32} (ha : ws[q0]? = some (a, .inl (I, n, .inl f))) {i x : Int32} (hin : vp_in i n) (hdg : decode cc pc = .ok (.iastore, 1))
    (kk : ∀ (H1 : Heap) (locs1 : List Loc), fy D A H0 H1 locs1 (ws.set q0 (a, .inl (I, n, .inl (upd f i.toNatClampNeg x)))) → W p l e R s m args below meth c H1 locs1 cells slots Q (F0 m (pc + 1) ls rest)) : W p l e R s m args below meth c H locs cells slots Q (F0 m pc ls (.int x :: .int i :: .ref a :: rest)) :=
  va_iast E.1 E.2.1 E.2.2.2.2.2.1.1 hw.1 hw.2.1 hw.2.2.1 q0 0 ha rfl hin hdg (fun H1 locs1 h1 h2 h3 => kk H1 locs1 ⟨h1, h2, h3, hw.2.2.2⟩)
theorem x_last (E : fx p s m args meth c cc own nL rt D I J O) {ws : va_W} (hw : fy D A H0 H locs ws) (q0 : Nat) {n : Nat} {f : Nat → Int64} (ha : ws[q0]? = some (a, .inl (J, n, .inr (.inl f)))) {i : Int32} {x : Int64} (hin : vp_in i n) (hdg : decode cc pc = .ok (.lastore, 1))
    (kk : ∀ (H1 : Heap) (locs1 : List Loc), fy D A H0 H1 locs1 (ws.set q0 (a, .inl (J, n, .inr (.inl (vp_updL f i.toNatClampNeg x))))) → W p l e R s m args below meth c H1 locs1 cells slots Q (F0 m (pc + 1) ls rest)) : W p l e R s m args below meth c H locs cells slots Q (F0 m pc ls (.long x :: .int i :: .ref a :: rest)) :=
  va_last E.1 E.2.1 E.2.2.2.2.2.1.1 hw.1 hw.2.1 hw.2.2.1 q0 1 ha rfl hin hdg (fun H1 locs1 h1 h2 h3 => kk H1 locs1 ⟨h1, h2, h3, hw.2.2.2⟩)
theorem x_lald (E : fx p s m args meth c cc own nL rt D I J O) {ws : va_W} (hP : va_P D vwCl ws H) (q0 : Nat) {n : Nat} {f : Nat → Int64} (ha : ws[q0]? = some (a, .inl (J, n, .inr (.inl f)))) {i : Int32} (hin : vp_in i n) (hdg : decode cc pc = .ok (.laload, 1))
    (kk : W p l e R s m args below meth c H locs cells slots Q (F0 m (pc + 1) ls (.long (f i.toNatClampNeg) :: rest))) : W p l e R s m args below meth c H locs cells slots Q (F0 m pc ls (.int i :: .ref a :: rest)) :=
  va_lald E.1 E.2.1 E.2.2.2.2.2.1.1 hP q0 1 ha rfl hin hdg kk
theorem x_alen (E : fx p s m args meth c cc own nL rt D I J O) {ws : va_W} (hP : va_P D vwCl ws H) (q0 : Nat) {x : vp_A} (ha : ws[q0]? = some (a, .inl (I, x))) {v : Int32} (hv : Int32.ofNat x.1 = v) (hdg : decode cc pc = .ok (.arraylength, 1))
    (kk : W p l e R s m args below meth c H locs cells slots Q (F0 m (pc + 1) ls (.int v :: rest))) : W p l e R s m args below meth c H locs cells slots Q (F0 m pc ls (.ref a :: rest)) :=
  va_alen E.1 E.2.1 E.2.2.2.2.2.1.1 hP q0 0 ha rfl hv hdg kk
theorem x_aldq (E : fx p s m args meth c cc own nL rt D I J O) {ws : va_W} (hP : va_P D vwCl ws H) (q0 : Nat) {n : Nat} {f : Nat → Option Nat} (ha : ws[q0]? = some (a, .inl (O, n, .inr (.inr (.inr (.inr f)))))) {i : Int32} (hin : vp_in i n) (hdg : decode cc pc = .ok (.aaload, 1))
    (kk : W p l e R s m args below meth c H locs cells slots Q (F0 m (pc + 1) ls (va_rf (f i.toNatClampNeg) :: rest))) : W p l e R s m args below meth c H locs cells slots Q (F0 m pc ls (.int i :: .ref a :: rest)) :=
  va_aldq E.1 E.2.1 E.2.2.2.2.2.1.1 hP q0 2 ha rfl hin hdg kk
theorem x_astq (E : fx p s m args meth c cc own nL rt D I J O) {ws : va_W} (hw : fy D A H0 H locs ws) (q0 qk : Nat) {n v : Nat} {vs : List Value} {f : Nat → Option Nat} (ha : ws[q0]? = some (a, .inl (O, n, .inr (.inr (.inr (.inr f)))))) (hv : ws[qk]? = some (v, .inr (3, vs))) {i : Int32} (hin : vp_in i n) (hdg : decode cc pc = .ok (.aastore, 1))
    (kk : ∀ (H1 : Heap) (locs1 : List Loc), fy D A H0 H1 locs1 (ws.set q0 (a, .inl (O, n, .inr (.inr (.inr (.inr (va_up f i.toNatClampNeg (some v)))))))) → W p l e R s m args below meth c H1 locs1 cells slots Q (F0 m (pc + 1) ls rest)) : W p l e R s m args below meth c H locs cells slots Q (F0 m pc ls (.ref v :: .int i :: .ref a :: rest)) :=
  va_astq E.1 E.2.1 E.2.2.2.2.2.1.1 hw.1 hw.2.1 hw.2.2.1 q0 2 qk 3 (r := (RX3, TX3, 7)) ha rfl hv rfl hin hdg (fun H1 locs1 h1 h2 h3 => kk H1 locs1 ⟨h1, h2, h3, hw.2.2.2⟩)
theorem x_copy (E : fx p s m args meth c cc own nL rt D I J O) (hsz : ls.size = nL) {index : Nat} (hlink : Cond.methodLink own index arraycopyName ∈ B0) (hnat : Cond.native arraycopyName ∈ B0) (hstat : Cond.static arraycopyName ∈ B0) (hini : Cond.initialized "java/lang/System" ∈ B0) {ws : va_W} (hw : fy D A H0 H locs ws) (q0 q1 : Nat) {a0 : Nat} {n0 n1 : Nat} {f g : Nat → Int32} (ha0 : ws[q0]? = some (a0, .inl (I, n0, .inl f))) (ha1 : ws[q1]? = some (a, .inl (I, n1, .inl g)))
    {sp dp n : Int32} (hin : ¬ sp < 0 ∧ ¬ dp < 0 ∧ ¬ n < 0 ∧ sp.toNatClampNeg + n.toNatClampNeg ≤ n0 ∧ dp.toNatClampNeg + n.toNatClampNeg ≤ n1) (hframes : 1 ≤ R.frames) (hlocals : (rest.map fun v => v.category).sum + (nativeFrameWords "java/lang/System" "arraycopy" 5 + 11) ≤ R.locals) (hdg : decode cc pc = .ok (.invokestatic index, 3))
    (kk : ∀ (H1 : Heap) (locs1 : List Loc), fy D A H0 H1 locs1 (ws.set q1 (a, .inl (I, n1, .inl (va_cpy f g sp.toNatClampNeg dp.toNatClampNeg n.toNatClampNeg)))) → W p l e R s m args below meth c H1 locs1 cells slots Q (F0 m (pc + 3) ls rest)) : W p l e R s m args below meth c H locs cells slots Q (F0 m pc ls (.int n :: .int dp :: .ref a :: .int sp :: .ref a0 :: rest)) :=
  va_copyi E.1 E.2.1 (E.2.2.1.trans hsz.symm) E.2.2.2.1 (E.2.2.2.2.1 _ hlink) (E.2.2.2.2.1 _ hnat) (E.2.2.2.2.1 _ hstat) (E.2.2.2.2.1 _ hini) E.2.2.2.2.2.1.1 hw.1 hw.2.1 hw.2.2.1 q0 q1 0 0 (ty := .int) ha0 ha1 rfl rfl rfl hin.1 hin.2.1 hin.2.2.1 hin.2.2.2.1 hin.2.2.2.2 (fun _ _ => rfl) hframes hlocals hdg (fun H1 locs1 h1 h2 h3 => kk H1 locs1 ⟨h1, h2, h3, hw.2.2.2⟩)
theorem x_max (E : fx p s m args meth c cc own nL rt D I J O) (hsz : ls.size = nL) {index : Nat} (hlink : Cond.methodLink own index Lib.Math.max.name ∈ B0) (hstat : Cond.static Lib.Math.max.name ∈ B0) (hini : Cond.initialized "java/lang/Math" ∈ B0) (hcode : Cond.code Lib.Math.max.name Lib.Math.max.code 2 (some .int) ∈ B0) (hframes : 1 ≤ R.frames) (hlocals : (rest.map fun v => v.category).sum + 13 ≤ R.locals) (hc : cells ≤ R.cells) (hs : slots ≤ R.slots) {x y : Int32} (hdg : decode cc pc = .ok (.invokestatic index, 3))
    (kk : W p l e R s m args below meth c H locs cells slots Q (F0 m (pc + 3) ls (.int (if x < y then y else x) :: rest))) : W p l e R s m args below meth c H locs cells slots Q (F0 m pc ls (.int y :: .int x :: rest)) :=
  va_mmax E.1 E.2.1 (E.2.2.1.trans hsz.symm) E.2.2.2.1 (E.2.2.2.2.1 _ hlink) (E.2.2.2.2.1 _ hstat) (E.2.2.2.2.1 _ hini) (E.2.2.2.2.1 _ hcode) hframes hlocals hc hs hdg kk
-- runs of a call
variable {y : MethodName} {yc : ByteArray} {yL n : Nat} {yt : Option FieldType} {fr lo mc ms : Nat} {Pc : Array Value → State → Prop} {Qc : Array Value → State → Outcome → State → Prop} {free : Addr → Prop} {b : Addr} {As : List Value} {st0 : List Value} {index : Nat}
theorem x_rV (E : fx p s m args meth c cc own nL rt D I J O) (hM : Met l y (wsB y yc yL yt) (rmB fr lo mc ms) Pc Qc mc ms free) (hbl : FrameBlind Pc) (hrc : ∃ cellB : Cell, H[b]? = some cellB ∧ cellB.vm.isStatics = false ∧ s.vm.findClass y.cls = some cellB.cls) (hPc : ∀ U : State, U.heap = H → s.WarmedH U.vm → Pc (Value.ref b :: As).toArray U) (ok : yV y yc yL yt n) (hml : Cond.methodLink own index y ∈ B0)
    (hn : As.length = n) (hsz : ls.size = nL) (hst : st0 = As.reverse ++ .ref b :: rest) (hro : (rest.map fun v => v.category).sum ≤ 8) (hR : fr + 1 ≤ R.frames ∧ 8 + (yL + 11) + lo ≤ R.locals) (hf : cells + mc ≤ R.cells ∧ slots + ms ≤ R.slots) (hdg : decode cc pc = .ok (.invokevirtual index, 3)) :
    va_Run p l e R s m args below meth c H locs cells slots mc ms (F0 m pc ls st0) rest (Qc (Value.ref b :: As).toArray) free :=
  va_runV ⟨E.1, E.2.1, E.2.2.1, E.2.2.2.1, E.2.2.2.2.1⟩ hM (cwV n E.2.2.2.2.1 (B0_V hml ok.2.2.1 ok.2.2.2.1 ok.2.1 ok.1) rfl rfl rfl ⟨rfl, ok.2.2.2.2⟩ hR) ⟨hbl, hrc, hPc⟩ rfl hn hsz hst (lv_room hro) hdg hf
theorem x_rS (E : fx p s m args meth c cc own nL rt D I J O) (hM : Met l y (wsB y yc yL yt) (rmB fr lo mc ms) Pc Qc mc ms free) (hbl : FrameBlind Pc) (hPc : ∀ U : State, U.heap = H → s.WarmedH U.vm → Pc As.toArray U) (ok : yS y yc yL yt n) (hml : Cond.methodLink own index y ∈ B0)
    (hn : As.length = n) (hsz : ls.size = nL) (hst : st0 = As.reverse ++ rest) (hro : (rest.map fun v => v.category).sum ≤ 8) (hR : fr + 1 ≤ R.frames ∧ 8 + (yL + 11) + lo ≤ R.locals) (hf : cells + mc ≤ R.cells ∧ slots + ms ≤ R.slots) (hdg : decode cc pc = .ok (.invokestatic index, 3)) :
    va_Run p l e R s m args below meth c H locs cells slots mc ms (F0 m pc ls st0) rest (Qc As.toArray) free :=
  va_runS ⟨E.1, E.2.1, E.2.2.1, E.2.2.2.1, E.2.2.2.2.1⟩ hM (va_cwS n E.2.2.2.2.1 (B0_S hml ok.2.2.1 ok.2.1 ok.1) rfl rfl rfl ok.2.2.2 hR) ⟨hbl, hPc⟩ rfl hn hsz hst (lv_room hro) hdg hf
theorem x_rSN {host : String} (E : fx p s m args meth c cc own nL rt D I J O) (hM : Met l y (wsB y yc yL yt) (rmB fr lo mc ms) Pc Qc mc ms free) (hbl : FrameBlind Pc) (hPc : ∀ U : State, U.heap = H → s.WarmedH U.vm → Pc As.toArray U) (ok : yS y yc yL yt n) (hml : va_Nw (.methodLinkNest own index y host) s)
    (hn : As.length = n) (hsz : ls.size = nL) (hst : st0 = As.reverse ++ rest) (hro : (rest.map fun v => v.category).sum ≤ 8) (hR : fr + 1 ≤ R.frames ∧ 8 + (yL + 11) + lo ≤ R.locals) (hf : cells + mc ≤ R.cells ∧ slots + ms ≤ R.slots) (hdg : decode cc pc = .ok (.invokestatic index, 3)) :
    va_Run p l e R s m args below meth c H locs cells slots mc ms (F0 m pc ls st0) rest (Qc As.toArray) free :=
  va_runSN ⟨E.1, E.2.1, E.2.2.1, E.2.2.2.1, E.2.2.2.2.1⟩ hM ⟨va_cnB n E.2.2.2.2.1 (B0_in ok.1) rfl rfl rfl hml (E.2.2.2.2.1 _ ok.2.1) ok.2.2.2 hR, E.2.2.2.2.1 _ ok.2.2.1, trivial⟩ ⟨hbl, hPc⟩ rfl hn hsz hst (lv_room hro) hdg hf
theorem x_rI (E : fx p s m args meth c cc own nL rt D I J O) (hM : Met l y (wsB y yc yL none) (rmB fr lo mc ms) Pc Qc mc ms free) (hbl : FrameBlind Pc) (hPc : ∀ U : State, U.heap = H → s.WarmedH U.vm → Pc (Value.ref b :: As).toArray U) (ok : yI y yc yL n) (hml : Cond.methodLink own index y ∈ B0)
    (hn : As.length = n) (hsz : ls.size = nL) (hst : st0 = As.reverse ++ .ref b :: rest) (hro : (rest.map fun v => v.category).sum ≤ 8) (hR : fr + 1 ≤ R.frames ∧ 8 + (yL + 11) + lo ≤ R.locals) (hf : cells + mc ≤ R.cells ∧ slots + ms ≤ R.slots) (hdg : decode cc pc = .ok (.invokespecial index, 3)) :
    va_Run p l e R s m args below meth c H locs cells slots mc ms (F0 m pc ls st0) rest (Qc (Value.ref b :: As).toArray) free :=
  va_runI ⟨E.1, E.2.1, E.2.2.1, E.2.2.2.1, E.2.2.2.2.1⟩ hM (cwI n E.2.2.2.2.1 (B0_in ok.1) rfl rfl rfl (E.2.2.2.2.1 _ ok.2.1) (E.2.2.2.2.1 _ hml) (E.2.2.2.2.1 _ ok.2.2.1) ok.2.2.2.1 ok.2.2.2.2 hR) ⟨hbl, hPc⟩ rfl hn hsz hst (lv_room hro) hdg hf
theorem x_recv (E : fx p s m args meth c cc own nL rt D I J O) {ws : va_W} (hP : va_P D vwCl ws H) (q0 ci : Nat) {q : vw_C} {fs : List Value} {C : String} (hc : vwCl[ci]? = some q) (he : ws[q0]? = some (b, .inr (ci, fs))) (hC : q.1 = C) : ∃ cellB : Cell, H[b]? = some cellB ∧ cellB.vm.isStatics = false ∧ s.vm.findClass C = some cellB.cls := by
  subst hC
  exact va_recv E.2.2.2.2.2.1.1 hP hc he
theorem x_pcR (E : fx p s m args meth c cc own nL rt D I J O) {wc : va_W} (hP : va_P D vwCl wc H) {Bs : List Value} : ∀ U : State, U.heap = H → s.WarmedH U.vm → pcR D I J O Bs wc Bs.toArray U := fun U hU hW => ⟨rfl, by rw [hU]; exact hP, E.2.2.2.2.2.1.warm hW⟩
theorem x_pcM (E : fx p s m args meth c cc own nL rt D I J O) {wc : va_W} (hP : va_P D vwCl wc H) (hD : va_D A wc) {Bs : List Value} : ∀ U : State, U.heap = H → s.WarmedH U.vm → pcM D I J O H.size Bs wc Bs.toArray U := fun U hU hW => ⟨rfl, by rw [hU], by rw [hU]; exact hP, E.2.2.2.2.2.1.warm hW, hD.weaken (fun _ _ _ _ => trivial)⟩
-- what a reader answers
theorem x_ci {r : Int32} {av : Array Value} (hr : va_Run p l e R s m args below meth c H locs cells slots 0 0 (F0 m pc ls st0) rest (qRi r av) (fun _ => False))
    (kk : W p l e R s m args below meth c H locs cells slots Q (F0 m (pc + 3) ls (.int r :: rest))) : W p l e R s m args below meth c H locs cells slots Q (F0 m pc ls st0) := by
  refine vp_callSi (post := fun x => x = r) (a := av) (fun T hT X => ?_) (fun x hx => by rw [hx]; exact kk)
  obtain ⟨v, st₀, t, T', L, h0, X', hL, e1, -, hq, st⟩ := hr T hT X
  exact ⟨v, st₀, t, T', L, h0, X', hL, e1, hq, st⟩
theorem x_cl {r : Int64} {av : Array Value} (hr : va_Run p l e R s m args below meth c H locs cells slots 0 0 (F0 m pc ls st0) rest (qRl r av) (fun _ => False))
    (kk : W p l e R s m args below meth c H locs cells slots Q (F0 m (pc + 3) ls (.long r :: rest))) : W p l e R s m args below meth c H locs cells slots Q (F0 m pc ls st0) := by
  refine vp_callSl (post := fun x => x = r) (a := av) (fun T hT X => ?_) (fun x hx => by rw [hx]; exact kk)
  obtain ⟨v, st₀, t, T', L, h0, X', hL, e1, -, hq, st⟩ := hr T hT X
  exact ⟨v, st₀, t, T', L, h0, X', hL, e1, hq, st⟩
theorem x_cd {r : UInt64} {av : Array Value} (hr : va_Run p l e R s m args below meth c H locs cells slots 0 0 (F0 m pc ls st0) rest (qRd r av) (fun _ => False))
    (kk : W p l e R s m args below meth c H locs cells slots Q (F0 m (pc + 3) ls (.double r :: rest))) : W p l e R s m args below meth c H locs cells slots Q (F0 m pc ls st0) := by
  refine vp_callSd (post := fun x => x = r) (a := av) (fun T hT X => ?_) (fun x hx => by rw [hx]; exact kk)
  obtain ⟨v, st₀, t, T', L, h0, X', hL, e1, -, hq, st⟩ := hr T hT X
  exact ⟨v, st₀, t, T', L, h0, X', hL, e1, hq, st⟩
-- what a writer leaves: its world anew, the rest as it was
theorem x_free {X pl wc pc9 : va_W} (hw : fy D A H0 H locs (X ++ pl)) (is : List Nat) (hC : is.map (fun i => X[i]?) = wc.map some) (hp : pc9 = [] ∨ pc9 = pl) : ∀ q, va_A (wc ++ pc9) H.size q → A q := by
  intro q h
  rcases h with ⟨k, e, h⟩ | h
  · rcases hp with rfl | rfl
    · have h1 : (wc ++ pl)[k]? = some (q, e) := by
        rw [List.append_nil] at h
        rw [List.getElem?_append_left (List.getElem?_eq_some_iff.mp h).1]
        exact h
      exact hw.2.1.2 _ (q, e) (va_part is hC k (q, e) h1)
    · exact hw.2.1.2 _ (q, e) (va_part is hC k (q, e) h)
  · exact hw.2.2.2 q (Nat.le_trans hw.2.2.1.1 h)
theorem x_freeQ {X pl wc : va_W} (hw : fy D A H0 H locs (X ++ pl)) (is : List Nat) (hC : is.map (fun i => X[i]?) = wc.map some) : ∀ q, va_A wc H.size q → A q := by
  have h := x_free hw is hC (Or.inl rfl)
  rw [List.append_nil] at h
  exact h
theorem x_pcMQ (E : fx p s m args meth c cc own nL rt D I J O) {X pl wc : va_W} (hw : fy D A H0 H locs (X ++ pl)) (is : List Nat) (hn : va_nd is = true) (hC : is.map (fun i => X[i]?) = wc.map some) {Bs : List Value} : ∀ U : State, U.heap = H → s.WarmedH U.vm → pcM D I J O H.size Bs wc Bs.toArray U :=
  x_pcM E (x_pick hw.1 is hC) (by have h := hw.2.1.part is hn hC; exact ⟨fun i j x y hx hy => h.1 i j x y (by rw [List.getElem?_append_left (List.getElem?_eq_some_iff.mp hx).1]; exact hx) (by rw [List.getElem?_append_left (List.getElem?_eq_some_iff.mp hy).1]; exact hy), fun k q hk => h.2 k q (by rw [List.getElem?_append_left (List.getElem?_eq_some_iff.mp hk).1]; exact hk)⟩ : va_D A wc)
theorem x_pcMQ0 (E : fx p s m args meth c cc own nL rt D I J O) {X wc : va_W} (hw : fy D A H0 H locs X) (is : List Nat) (hn : va_nd is = true) (hC : is.map (fun i => X[i]?) = wc.map some) {Bs : List Value} : ∀ U : State, U.heap = H → s.WarmedH U.vm → pcM D I J O H.size Bs wc Bs.toArray U :=
  x_pcMQ (pl := []) E (by rw [List.append_nil]; exact hw) is hn hC
theorem x_pcMP (E : fx p s m args meth c cc own nL rt D I J O) {X pl wc : va_W} (hw : fy D A H0 H locs (X ++ pl)) (is : List Nat) (hn : va_nd is = true) (hC : is.map (fun i => X[i]?) = wc.map some) {Bs : List Value} : ∀ U : State, U.heap = H → s.WarmedH U.vm → pcM D I J O H.size Bs (wc ++ pl) Bs.toArray U :=
  x_pcM E (hw.1.part is hC) (hw.2.1.part is hn hC)
theorem x_updQ {X cx rx pl : va_W} {H1 : Heap} (hP : va_P D vwCl (X ++ pl) H) (hD : va_D A (X ++ pl)) (is : List Nat) (hC : is.map (fun i => X[i]?) = cx.map some) (hnd : va_nd is = true) (hlen : rx.length = cx.length)
    (hk : ∀ q : Nat, q < H.size → ¬ va_A cx H.size q → H1[q]? = H[q]?) (hF : ∀ q, va_A cx H.size q → A q) (hP1 : va_P D vwCl rx H1) (hD1 : va_D (va_A cx H.size) rx) : va_P D vwCl (x_upd X is rx ++ pl) H1 ∧ va_D A (x_upd X is rx ++ pl) := by
  have far : ∀ (k : Nat) (q : Nat × va_E), pl[k]? = some q → q.1 < H.size ∧ ¬ va_A cx H.size q.1 := by
    intro k q hq
    have h2 : (X ++ pl)[X.length + k]? = some q := by rw [List.getElem?_append_right (by omega), show X.length + k - X.length = k by omega]; exact hq
    have hl := (hP _ q h2).lt
    refine ⟨hl, fun h => ?_⟩
    rcases h with ⟨k2, e, h⟩ | h
    · have hk2 := (List.getElem?_eq_some_iff.mp h).1
      have h3 := va_part (pl := pl) is hC k2 (q.1, e) (by rw [List.getElem?_append_left hk2]; exact h)
      have h4 := hD.1 _ _ q (q.1, e) h2 h3 rfl
      rw [if_pos hk2] at h4
      have hil : is.length = cx.length := by have h := congrArg List.length hC; simpa using h
      have h5 : (is.map (fun i => X[i]?))[k2]? = some (some (q.1, e)) := by rw [hC, List.getElem?_map, h]; rfl
      rw [List.getElem?_map, List.getElem?_eq_getElem (by omega)] at h5
      rw [List.getElem?_eq_getElem (by omega)] at h4
      have h6 : X[is[k2]]? = some (q.1, e) := Option.some.inj h5
      have h7 := (List.getElem?_eq_some_iff.mp h6).1
      have h8 : X.length + k = is[k2] := h4
      omega
    · omega
  have hx := x_updJ (pl := []) (pl1 := []) (cx := cx) (rx := rx) (H1 := H1) (X := X) (A0 := A) (D := D) (H := H) (fun k q h => hP k q (by rw [List.append_nil] at h; rw [List.getElem?_append_left (List.getElem?_eq_some_iff.mp h).1]; exact h))
    ⟨fun i j p q hp hq h => hD.1 i j p q (by rw [List.append_nil] at hp; rw [List.getElem?_append_left (List.getElem?_eq_some_iff.mp hp).1]; exact hp) (by rw [List.append_nil] at hq; rw [List.getElem?_append_left (List.getElem?_eq_some_iff.mp hq).1]; exact hq) h, fun k q h => hD.2 k q (by rw [List.append_nil] at h; rw [List.getElem?_append_left (List.getElem?_eq_some_iff.mp h).1]; exact h)⟩
    is hC hnd hlen (by rw [List.append_nil]; exact hk) (by rw [List.append_nil]; exact hF) (by rw [List.append_nil]; exact hP1) (by rw [List.append_nil, List.append_nil]; exact hD1)
  rw [List.append_nil] at hx
  obtain ⟨hPx, hDx⟩ := hx
  have hPl : va_P D vwCl pl H1 := fun k q hq => by
    obtain ⟨g1, g2⟩ := far k q hq
    exact (hP (X.length + k) q (by rw [List.getElem?_append_right (by omega), show X.length + k - X.length = k by omega]; exact hq)).kept (hk q.1 g1 g2)
  refine ⟨hPx.app hPl, va_D.app hDx ⟨fun i j p q hp hq h => ?_, fun k q h => ?_⟩ (fun i j p q hp hq hpq => ?_)⟩
  · have h1 := hD.1 (X.length + i) (X.length + j) p q (by rw [List.getElem?_append_right (by omega), show X.length + i - X.length = i by omega]; exact hp) (by rw [List.getElem?_append_right (by omega), show X.length + j - X.length = j by omega]; exact hq) h
    omega
  · exact hD.2 (X.length + k) q (by rw [List.getElem?_append_right (by omega), show X.length + k - X.length = k by omega]; exact h)
  · rcases x_upd_get is rx X i p hnd (by have h := congrArg List.length hC; simp at h; omega) hp with ⟨j1, h1, h2⟩ | ⟨h1, h2⟩
    · exact (far j q hq).2 (by rw [← hpq]; exact hD1.2 j1 p h2)
    · have h3 := hD.1 i (X.length + j) p q (by rw [List.getElem?_append_left (List.getElem?_eq_some_iff.mp h2).1]; exact h2) (by rw [List.getElem?_append_right (by omega), show X.length + j - X.length = j by omega]; exact hq) hpq
      have h4 := (List.getElem?_eq_some_iff.mp h2).1
      omega
theorem x_miP {S : Type} {rx pl1 : S → va_W} {X pl wc : va_W} {r : Int32} {av : Array Value} (hw : fy D A H0 H locs (X ++ pl)) (is : List Nat) (hC : is.map (fun i => X[i]?) = wc.map some) (hnd : va_nd is = true)
    (hr : va_Run p l e R s m args below meth c H locs cells slots mc ms (F0 m pc ls st0) rest (qMi D H.size (wc ++ pl) r (fun u => rx u ++ pl1 u) av) (va_A (wc ++ pl) H.size)) (hlen : ∀ u, (rx u).length = wc.length)
    (kk : ∀ (u : S) (H1 : Heap) (locs1 : List Loc), fy D A H0 H1 locs1 (x_upd X is (rx u) ++ pl1 u) → W p l e R s m args below meth c H1 locs1 (cells + mc) (slots + ms) Q (F0 m (pc + 3) ls (.int r :: rest))) : W p l e R s m args below meth c H locs cells slots Q (F0 m pc ls st0) := by
  have hF := x_free hw is hC (Or.inr rfl)
  refine va_calli hr hw.2.2.1 (fun q _ h => hF q h) hF (fun x u t H1 locs1 ht hvm hx hB hz hk hS => ?_)
  obtain ⟨hP1, hD1⟩ := hB
  rw [ht] at hP1
  obtain ⟨hP, hD⟩ := x_updJ hw.1 hw.2.1 is hC hnd (hlen u) hk hF hP1 hD1
  rw [hx]
  exact kk u H1 locs1 ⟨hP, hD, hS, hw.2.2.2⟩
theorem x_mi {S : Type} {w1 : S → va_W} {X pl wc : va_W} {r : Int32} {av : Array Value} (hw : fy D A H0 H locs (X ++ pl)) (is : List Nat) (hC : is.map (fun i => X[i]?) = wc.map some) (hnd : va_nd is = true)
    (hr : va_Run p l e R s m args below meth c H locs cells slots mc ms (F0 m pc ls st0) rest (qMi D H.size wc r w1 av) (va_A wc H.size)) (hlen : ∀ u, (w1 u).length = wc.length)
    (kk : ∀ (u : S) (H1 : Heap) (locs1 : List Loc), fy D A H0 H1 locs1 (x_upd X is (w1 u) ++ pl) → W p l e R s m args below meth c H1 locs1 (cells + mc) (slots + ms) Q (F0 m (pc + 3) ls (.int r :: rest))) : W p l e R s m args below meth c H locs cells slots Q (F0 m pc ls st0) := by
  have hF := x_freeQ hw is hC
  refine va_calli hr hw.2.2.1 (fun q _ h => hF q h) hF (fun x u t H1 locs1 ht hvm hx hB hz hk hS => ?_)
  obtain ⟨hP1, hD1⟩ := hB
  rw [ht] at hP1
  obtain ⟨hP, hD⟩ := x_updQ hw.1 hw.2.1 is hC hnd (hlen u) hk hF hP1 hD1
  rw [hx]
  exact kk u H1 locs1 ⟨hP, hD, hS, hw.2.2.2⟩
theorem x_mi0 {S : Type} {w1 : S → va_W} {X wc : va_W} {r : Int32} {av : Array Value} (hw : fy D A H0 H locs X) (is : List Nat) (hC : is.map (fun i => X[i]?) = wc.map some) (hnd : va_nd is = true)
    (hr : va_Run p l e R s m args below meth c H locs cells slots mc ms (F0 m pc ls st0) rest (qMi D H.size wc r w1 av) (va_A wc H.size)) (hlen : ∀ u, (w1 u).length = wc.length)
    (kk : ∀ (u : S) (H1 : Heap) (locs1 : List Loc), fy D A H0 H1 locs1 (x_upd X is (w1 u)) → W p l e R s m args below meth c H1 locs1 (cells + mc) (slots + ms) Q (F0 m (pc + 3) ls (.int r :: rest))) : W p l e R s m args below meth c H locs cells slots Q (F0 m pc ls st0) :=
  x_mi (pl := []) (by rw [List.append_nil]; exact hw) is hC hnd hr hlen (fun u H1 locs1 h => kk u H1 locs1 (by rw [List.append_nil] at h; exact h))
theorem x_mlP {S : Type} {rx pl1 : S → va_W} {X pl wc : va_W} {r : Int64} {av : Array Value} (hw : fy D A H0 H locs (X ++ pl)) (is : List Nat) (hC : is.map (fun i => X[i]?) = wc.map some) (hnd : va_nd is = true)
    (hr : va_Run p l e R s m args below meth c H locs cells slots mc ms (F0 m pc ls st0) rest (qMl D H.size (wc ++ pl) r (fun u => rx u ++ pl1 u) av) (va_A (wc ++ pl) H.size)) (hlen : ∀ u, (rx u).length = wc.length)
    (kk : ∀ (u : S) (H1 : Heap) (locs1 : List Loc), fy D A H0 H1 locs1 (x_upd X is (rx u) ++ pl1 u) → W p l e R s m args below meth c H1 locs1 (cells + mc) (slots + ms) Q (F0 m (pc + 3) ls (.long r :: rest))) : W p l e R s m args below meth c H locs cells slots Q (F0 m pc ls st0) := by
  have hF := x_free hw is hC (Or.inr rfl)
  refine va_calll hr hw.2.2.1 (fun q _ h => hF q h) hF (fun x u t H1 locs1 ht hvm hx hB hz hk hS => ?_)
  obtain ⟨hP1, hD1⟩ := hB
  rw [ht] at hP1
  obtain ⟨hP, hD⟩ := x_updJ hw.1 hw.2.1 is hC hnd (hlen u) hk hF hP1 hD1
  rw [hx]
  exact kk u H1 locs1 ⟨hP, hD, hS, hw.2.2.2⟩
theorem x_ml {S : Type} {w1 : S → va_W} {X pl wc : va_W} {r : Int64} {av : Array Value} (hw : fy D A H0 H locs (X ++ pl)) (is : List Nat) (hC : is.map (fun i => X[i]?) = wc.map some) (hnd : va_nd is = true)
    (hr : va_Run p l e R s m args below meth c H locs cells slots mc ms (F0 m pc ls st0) rest (qMl D H.size wc r w1 av) (va_A wc H.size)) (hlen : ∀ u, (w1 u).length = wc.length)
    (kk : ∀ (u : S) (H1 : Heap) (locs1 : List Loc), fy D A H0 H1 locs1 (x_upd X is (w1 u) ++ pl) → W p l e R s m args below meth c H1 locs1 (cells + mc) (slots + ms) Q (F0 m (pc + 3) ls (.long r :: rest))) : W p l e R s m args below meth c H locs cells slots Q (F0 m pc ls st0) := by
  have hF := x_freeQ hw is hC
  refine va_calll hr hw.2.2.1 (fun q _ h => hF q h) hF (fun x u t H1 locs1 ht hvm hx hB hz hk hS => ?_)
  obtain ⟨hP1, hD1⟩ := hB
  rw [ht] at hP1
  obtain ⟨hP, hD⟩ := x_updQ hw.1 hw.2.1 is hC hnd (hlen u) hk hF hP1 hD1
  rw [hx]
  exact kk u H1 locs1 ⟨hP, hD, hS, hw.2.2.2⟩
theorem x_ml0 {S : Type} {w1 : S → va_W} {X wc : va_W} {r : Int64} {av : Array Value} (hw : fy D A H0 H locs X) (is : List Nat) (hC : is.map (fun i => X[i]?) = wc.map some) (hnd : va_nd is = true)
    (hr : va_Run p l e R s m args below meth c H locs cells slots mc ms (F0 m pc ls st0) rest (qMl D H.size wc r w1 av) (va_A wc H.size)) (hlen : ∀ u, (w1 u).length = wc.length)
    (kk : ∀ (u : S) (H1 : Heap) (locs1 : List Loc), fy D A H0 H1 locs1 (x_upd X is (w1 u)) → W p l e R s m args below meth c H1 locs1 (cells + mc) (slots + ms) Q (F0 m (pc + 3) ls (.long r :: rest))) : W p l e R s m args below meth c H locs cells slots Q (F0 m pc ls st0) :=
  x_ml (pl := []) (by rw [List.append_nil]; exact hw) is hC hnd hr hlen (fun u H1 locs1 h => kk u H1 locs1 (by rw [List.append_nil] at h; exact h))
theorem x_mdP {S : Type} {rx pl1 : S → va_W} {X pl wc : va_W} {r : UInt64} {av : Array Value} (hw : fy D A H0 H locs (X ++ pl)) (is : List Nat) (hC : is.map (fun i => X[i]?) = wc.map some) (hnd : va_nd is = true)
    (hr : va_Run p l e R s m args below meth c H locs cells slots mc ms (F0 m pc ls st0) rest (qMd D H.size (wc ++ pl) r (fun u => rx u ++ pl1 u) av) (va_A (wc ++ pl) H.size)) (hlen : ∀ u, (rx u).length = wc.length)
    (kk : ∀ (u : S) (H1 : Heap) (locs1 : List Loc), fy D A H0 H1 locs1 (x_upd X is (rx u) ++ pl1 u) → W p l e R s m args below meth c H1 locs1 (cells + mc) (slots + ms) Q (F0 m (pc + 3) ls (.double r :: rest))) : W p l e R s m args below meth c H locs cells slots Q (F0 m pc ls st0) := by
  have hF := x_free hw is hC (Or.inr rfl)
  refine va_calld hr hw.2.2.1 (fun q _ h => hF q h) hF (fun x u t H1 locs1 ht hvm hx hB hz hk hS => ?_)
  obtain ⟨hP1, hD1⟩ := hB
  rw [ht] at hP1
  obtain ⟨hP, hD⟩ := x_updJ hw.1 hw.2.1 is hC hnd (hlen u) hk hF hP1 hD1
  rw [hx]
  exact kk u H1 locs1 ⟨hP, hD, hS, hw.2.2.2⟩
theorem x_md {S : Type} {w1 : S → va_W} {X pl wc : va_W} {r : UInt64} {av : Array Value} (hw : fy D A H0 H locs (X ++ pl)) (is : List Nat) (hC : is.map (fun i => X[i]?) = wc.map some) (hnd : va_nd is = true)
    (hr : va_Run p l e R s m args below meth c H locs cells slots mc ms (F0 m pc ls st0) rest (qMd D H.size wc r w1 av) (va_A wc H.size)) (hlen : ∀ u, (w1 u).length = wc.length)
    (kk : ∀ (u : S) (H1 : Heap) (locs1 : List Loc), fy D A H0 H1 locs1 (x_upd X is (w1 u) ++ pl) → W p l e R s m args below meth c H1 locs1 (cells + mc) (slots + ms) Q (F0 m (pc + 3) ls (.double r :: rest))) : W p l e R s m args below meth c H locs cells slots Q (F0 m pc ls st0) := by
  have hF := x_freeQ hw is hC
  refine va_calld hr hw.2.2.1 (fun q _ h => hF q h) hF (fun x u t H1 locs1 ht hvm hx hB hz hk hS => ?_)
  obtain ⟨hP1, hD1⟩ := hB
  rw [ht] at hP1
  obtain ⟨hP, hD⟩ := x_updQ hw.1 hw.2.1 is hC hnd (hlen u) hk hF hP1 hD1
  rw [hx]
  exact kk u H1 locs1 ⟨hP, hD, hS, hw.2.2.2⟩
theorem x_md0 {S : Type} {w1 : S → va_W} {X wc : va_W} {r : UInt64} {av : Array Value} (hw : fy D A H0 H locs X) (is : List Nat) (hC : is.map (fun i => X[i]?) = wc.map some) (hnd : va_nd is = true)
    (hr : va_Run p l e R s m args below meth c H locs cells slots mc ms (F0 m pc ls st0) rest (qMd D H.size wc r w1 av) (va_A wc H.size)) (hlen : ∀ u, (w1 u).length = wc.length)
    (kk : ∀ (u : S) (H1 : Heap) (locs1 : List Loc), fy D A H0 H1 locs1 (x_upd X is (w1 u)) → W p l e R s m args below meth c H1 locs1 (cells + mc) (slots + ms) Q (F0 m (pc + 3) ls (.double r :: rest))) : W p l e R s m args below meth c H locs cells slots Q (F0 m pc ls st0) :=
  x_md (pl := []) (by rw [List.append_nil]; exact hw) is hC hnd hr hlen (fun u H1 locs1 h => kk u H1 locs1 (by rw [List.append_nil] at h; exact h))
theorem x_mvP {S : Type} {rx pl1 : S → va_W} {X pl wc : va_W} {av : Array Value} (hw : fy D A H0 H locs (X ++ pl)) (is : List Nat) (hC : is.map (fun i => X[i]?) = wc.map some) (hnd : va_nd is = true)
    (hr : va_Run p l e R s m args below meth c H locs cells slots mc ms (F0 m pc ls st0) rest (qMv D H.size (wc ++ pl) (fun u => rx u ++ pl1 u) av) (va_A (wc ++ pl) H.size)) (hlen : ∀ u, (rx u).length = wc.length)
    (kk : ∀ (u : S) (H1 : Heap) (locs1 : List Loc), fy D A H0 H1 locs1 (x_upd X is (rx u) ++ pl1 u) → W p l e R s m args below meth c H1 locs1 (cells + mc) (slots + ms) Q (F0 m (pc + 3) ls rest)) : W p l e R s m args below meth c H locs cells slots Q (F0 m pc ls st0) := by
  have hF := x_free hw is hC (Or.inr rfl)
  refine va_callv hr hw.2.2.1 (fun q _ h => hF q h) hF (fun u t H1 locs1 ht hvm hx hB hz hk hS => ?_)
  obtain ⟨hP1, hD1⟩ := hB
  rw [ht] at hP1
  obtain ⟨hP, hD⟩ := x_updJ hw.1 hw.2.1 is hC hnd (hlen u) hk hF hP1 hD1
  exact kk u H1 locs1 ⟨hP, hD, hS, hw.2.2.2⟩
theorem x_mv {S : Type} {w1 : S → va_W} {X pl wc : va_W} {av : Array Value} (hw : fy D A H0 H locs (X ++ pl)) (is : List Nat) (hC : is.map (fun i => X[i]?) = wc.map some) (hnd : va_nd is = true)
    (hr : va_Run p l e R s m args below meth c H locs cells slots mc ms (F0 m pc ls st0) rest (qMv D H.size wc w1 av) (va_A wc H.size)) (hlen : ∀ u, (w1 u).length = wc.length)
    (kk : ∀ (u : S) (H1 : Heap) (locs1 : List Loc), fy D A H0 H1 locs1 (x_upd X is (w1 u) ++ pl) → W p l e R s m args below meth c H1 locs1 (cells + mc) (slots + ms) Q (F0 m (pc + 3) ls rest)) : W p l e R s m args below meth c H locs cells slots Q (F0 m pc ls st0) := by
  have hF := x_freeQ hw is hC
  refine va_callv hr hw.2.2.1 (fun q _ h => hF q h) hF (fun u t H1 locs1 ht hvm hx hB hz hk hS => ?_)
  obtain ⟨hP1, hD1⟩ := hB
  rw [ht] at hP1
  obtain ⟨hP, hD⟩ := x_updQ hw.1 hw.2.1 is hC hnd (hlen u) hk hF hP1 hD1
  exact kk u H1 locs1 ⟨hP, hD, hS, hw.2.2.2⟩
theorem x_mv0 {S : Type} {w1 : S → va_W} {X wc : va_W} {av : Array Value} (hw : fy D A H0 H locs X) (is : List Nat) (hC : is.map (fun i => X[i]?) = wc.map some) (hnd : va_nd is = true)
    (hr : va_Run p l e R s m args below meth c H locs cells slots mc ms (F0 m pc ls st0) rest (qMv D H.size wc w1 av) (va_A wc H.size)) (hlen : ∀ u, (w1 u).length = wc.length)
    (kk : ∀ (u : S) (H1 : Heap) (locs1 : List Loc), fy D A H0 H1 locs1 (x_upd X is (w1 u)) → W p l e R s m args below meth c H1 locs1 (cells + mc) (slots + ms) Q (F0 m (pc + 3) ls rest)) : W p l e R s m args below meth c H locs cells slots Q (F0 m pc ls st0) :=
  x_mv (pl := []) (by rw [List.append_nil]; exact hw) is hC hnd hr hlen (fun u H1 locs1 h => kk u H1 locs1 (by rw [List.append_nil] at h; exact h))
-- ends
theorem x_iR (E : fx p s m args meth c cc own nL (some .int) D I J O) {r x : Int32} (hx : x = r) (hdg : decode cc pc = .ok (.ireturn, 1)) : W p l e R s m args below meth c s.heap [] cells slots (MQ below (qRi r) args s cells slots (fun _ => False)) (F0 m pc ls [.int x]) :=
  W.iret E.1 E.2.1 E.2.2.2.2.2.2.1 (fun t ht _ => ⟨x, rfl, hx, ht⟩) (fun q h => nomatch h) hdg E.2.2.2.2.2.2.2
theorem x_zR (E : fx p s m args meth c cc own nL (some .boolean) D I J O) {r x : Int32} (hz : x = 0 ∨ x = 1) (hx : x = r) (hdg : decode cc pc = .ok (.ireturn, 1)) : W p l e R s m args below meth c s.heap [] cells slots (MQ below (qRi r) args s cells slots (fun _ => False)) (F0 m pc ls [.int x]) :=
  W.zret E.1 E.2.1 E.2.2.2.2.2.2.1 (by rcases hz with rfl | rfl <;> rfl) (fun t ht _ => ⟨x, rfl, hx, ht⟩) (fun q h => nomatch h) hdg E.2.2.2.2.2.2.2
theorem x_lR (E : fx p s m args meth c cc own nL (some .long) D I J O) {r x : Int64} (hx : x = r) (hdg : decode cc pc = .ok (.lreturn, 1)) : W p l e R s m args below meth c s.heap [] cells slots (MQ below (qRl r) args s cells slots (fun _ => False)) (F0 m pc ls [.long x]) :=
  W.lret E.1 E.2.1 E.2.2.2.2.2.2.1 (fun t ht _ => ⟨x, rfl, hx, ht⟩) (fun q h => nomatch h) hdg E.2.2.2.2.2.2.2
theorem x_dR (E : fx p s m args meth c cc own nL (some .double) D I J O) {r x : UInt64} (hx : x = r) (hdg : decode cc pc = .ok (.dreturn, 1)) : W p l e R s m args below meth c s.heap [] cells slots (MQ below (qRd r) args s cells slots (fun _ => False)) (F0 m pc ls [.double x]) :=
  W.dret E.1 E.2.1 E.2.2.2.2.2.2.1 (fun t ht _ => ⟨x, rfl, hx, ht⟩) (fun q h => nomatch h) hdg E.2.2.2.2.2.2.2
theorem x_iM {S : Type} {w1 : S → va_W} {ws : va_W} {sz : Nat} (E : fx p s m args meth c cc own nL (some .int) D I J O) (u : S) (hw : fy D (va_A ws sz) s.heap H locs (w1 u)) {r x : Int32} (hx : x = r) (hdg : decode cc pc = .ok (.ireturn, 1)) : W p l e R s m args below meth c H locs cells slots (MQ below (qMi D sz ws r w1) args s cells slots (va_A ws sz)) (F0 m pc ls [.int x]) :=
  W.iret E.1 E.2.1 E.2.2.2.2.2.2.1 (fun t ht _ => ⟨⟨x, u, rfl, hx, by rw [ht]; exact hw.1, hw.2.1⟩, hw.2.2.1.F ht⟩) hw.2.2.1.2.2 hdg E.2.2.2.2.2.2.2
theorem x_zM {S : Type} {w1 : S → va_W} {ws : va_W} {sz : Nat} (E : fx p s m args meth c cc own nL (some .boolean) D I J O) (u : S) (hw : fy D (va_A ws sz) s.heap H locs (w1 u)) {r x : Int32} (hz : x = 0 ∨ x = 1) (hx : x = r) (hdg : decode cc pc = .ok (.ireturn, 1)) : W p l e R s m args below meth c H locs cells slots (MQ below (qMi D sz ws r w1) args s cells slots (va_A ws sz)) (F0 m pc ls [.int x]) :=
  W.zret E.1 E.2.1 E.2.2.2.2.2.2.1 (by rcases hz with rfl | rfl <;> rfl) (fun t ht _ => ⟨⟨x, u, rfl, hx, by rw [ht]; exact hw.1, hw.2.1⟩, hw.2.2.1.F ht⟩) hw.2.2.1.2.2 hdg E.2.2.2.2.2.2.2
theorem x_lM {S : Type} {w1 : S → va_W} {ws : va_W} {sz : Nat} (E : fx p s m args meth c cc own nL (some .long) D I J O) (u : S) (hw : fy D (va_A ws sz) s.heap H locs (w1 u)) {r x : Int64} (hx : x = r) (hdg : decode cc pc = .ok (.lreturn, 1)) : W p l e R s m args below meth c H locs cells slots (MQ below (qMl D sz ws r w1) args s cells slots (va_A ws sz)) (F0 m pc ls [.long x]) :=
  W.lret E.1 E.2.1 E.2.2.2.2.2.2.1 (fun t ht _ => ⟨⟨x, u, rfl, hx, by rw [ht]; exact hw.1, hw.2.1⟩, hw.2.2.1.F ht⟩) hw.2.2.1.2.2 hdg E.2.2.2.2.2.2.2
theorem x_dM {S : Type} {w1 : S → va_W} {ws : va_W} {sz : Nat} (E : fx p s m args meth c cc own nL (some .double) D I J O) (u : S) (hw : fy D (va_A ws sz) s.heap H locs (w1 u)) {r x : UInt64} (hx : x = r) (hdg : decode cc pc = .ok (.dreturn, 1)) : W p l e R s m args below meth c H locs cells slots (MQ below (qMd D sz ws r w1) args s cells slots (va_A ws sz)) (F0 m pc ls [.double x]) :=
  W.dret E.1 E.2.1 E.2.2.2.2.2.2.1 (fun t ht _ => ⟨⟨x, u, rfl, hx, by rw [ht]; exact hw.1, hw.2.1⟩, hw.2.2.1.F ht⟩) hw.2.2.1.2.2 hdg E.2.2.2.2.2.2.2
theorem x_vM {S : Type} {w1 : S → va_W} {ws : va_W} {sz : Nat} (E : fx p s m args meth c cc own nL none D I J O) (u : S) (hw : fy D (va_A ws sz) s.heap H locs (w1 u)) (hdg : decode cc pc = .ok (.return_, 1)) : W p l e R s m args below meth c H locs cells slots (MQ below (qMv D sz ws w1) args s cells slots (va_A ws sz)) (F0 m pc ls []) :=
  W.vret E.1 E.2.1 E.2.2.2.2.2.2.1 (fun t ht _ => ⟨⟨u, rfl, trivial, by rw [ht]; exact hw.1, hw.2.1⟩, hw.2.2.1.F ht⟩) hw.2.2.1.2.2 hdg E.2.2.2.2.2.2.2
-- what is made
theorem x_newi (E : fx p s m args meth c cc own nL rt D I J O) (hac : Cond.arrayClass .int ∈ B0) {ws : va_W} (hw : fy D A H0 H locs ws) {v : Int32} {N : Nat} (hn : ¬ v < 0) (hN : v.toNatClampNeg = N) (hby : N * componentBytes .int ≤ 536870912) (hc : cells + 1 ≤ R.cells) (hs : slots + N ≤ R.slots) (hdg : decode cc pc = .ok (.newarray .int, 2))
    (kk : ∀ (q : Nat) (H1 : Heap), fy D A H0 H1 locs (ws ++ [(q, .inl (I, N, .inl (fun _ => 0)))]) → W p l e R s m args below meth c H1 locs (cells + 1) (slots + N) Q (F0 m (pc + 2) ls (.ref q :: rest))) : W p l e R s m args below meth c H locs cells slots Q (F0 m pc ls (.int v :: rest)) := by
  refine va_newa (atype := .int) (ty := .int) (a0 := (N, .inl (fun _ => 0))) E.1 E.2.1 (E.2.2.2.2.1 _ hac) rfl E.2.2.2.2.2.1.1 hw.1 hw.2.1 hw.2.2.1 hw.2.2.2 (fun cA => rfl) hn hN hby hc hs hdg (fun q cA H1 hK hP hD hS => ?_)
  have h1 : s.vm.findClass ("[" ++ (FieldType.int).toString) = some cA := (hK.2 3 (cA, .int) rfl).2
  have h2 : s.vm.findClass ("[" ++ (FieldType.int).toString) = some I := (E.2.2.2.2.2.1.1.2 0 (I, .int) rfl).2
  have h3 : cA = I := Option.some.inj (h1.symm.trans h2)
  subst h3
  exact kk q H1 ⟨hP, hD, hS, hw.2.2.2⟩
theorem x_newl (E : fx p s m args meth c cc own nL rt D I J O) (hac : Cond.arrayClass .long ∈ B0) {ws : va_W} (hw : fy D A H0 H locs ws) {v : Int32} {N : Nat} (hn : ¬ v < 0) (hN : v.toNatClampNeg = N) (hby : N * componentBytes .long ≤ 536870912) (hc : cells + 1 ≤ R.cells) (hs : slots + N ≤ R.slots) (hdg : decode cc pc = .ok (.newarray .long, 2))
    (kk : ∀ (q : Nat) (H1 : Heap), fy D A H0 H1 locs (ws ++ [(q, .inl (J, N, .inr (.inl (fun _ => 0))))]) → W p l e R s m args below meth c H1 locs (cells + 1) (slots + N) Q (F0 m (pc + 2) ls (.ref q :: rest))) : W p l e R s m args below meth c H locs cells slots Q (F0 m pc ls (.int v :: rest)) := by
  refine va_newa (atype := .long) (ty := .long) (a0 := (N, .inr (.inl (fun _ => 0)))) E.1 E.2.1 (E.2.2.2.2.1 _ hac) rfl E.2.2.2.2.2.1.1 hw.1 hw.2.1 hw.2.2.1 hw.2.2.2 (fun cA => rfl) hn hN hby hc hs hdg (fun q cA H1 hK hP hD hS => ?_)
  have h1 : s.vm.findClass ("[" ++ (FieldType.long).toString) = some cA := (hK.2 3 (cA, .long) rfl).2
  have h2 : s.vm.findClass ("[" ++ (FieldType.long).toString) = some J := (E.2.2.2.2.2.1.1.2 1 (J, .long) rfl).2
  have h3 : cA = J := Option.some.inj (h1.symm.trans h2)
  subst h3
  exact kk q H1 ⟨hP, hD, hS, hw.2.2.2⟩
theorem x_newo (E : fx p s m args meth c cc own nL rt D I J O) (hcl : Cond.classLink own index RX3 ∈ B0) {ws : va_W} (hw : fy D A H0 H locs ws) {v : Int32} {N : Nat} (hn : ¬ v < 0) (hN : v.toNatClampNeg = N) (hby : N * 4 ≤ 536870912) (hc : cells + 1 ≤ R.cells) (hs : slots + N ≤ R.slots) (hdg : decode cc pc = .ok (.anewarray index, 3))
    (kk : ∀ (q : Nat) (H1 : Heap), fy D A H0 H1 locs (ws ++ [(q, .inl (O, N, .inr (.inr (.inr (.inr (fun _ => none))))))]) → W p l e R s m args below meth c H1 locs (cells + 1) (slots + N) Q (F0 m (pc + 3) ls (.ref q :: rest))) : W p l e R s m args below meth c H locs cells slots Q (F0 m pc ls (.int v :: rest)) := by
  refine va_newq (C := RX3) E.1 E.2.1 E.2.2.2.1 (E.2.2.2.2.1 _ hcl) E.2.2.2.2.2.1.2.1 E.2.2.2.2.2.1.1 hw.1 hw.2.1 hw.2.2.1 hw.2.2.2 hn hN hby hc hs hdg (fun q cA H1 hK hP hD hS => ?_)
  obtain ⟨-, -, -, -, -, h1⟩ := (hK.2 3 (cA, .object RX3) rfl).2
  obtain ⟨-, -, -, -, -, h2⟩ := (E.2.2.2.2.2.1.1.2 2 (O, .object RX3) rfl).2
  have h3 : cA = O := Option.some.inj (h1.symm.trans h2)
  subst h3
  exact kk q H1 ⟨hP, hD, hS, hw.2.2.2⟩
theorem x_new (E : fx p s m args meth c cc own nL rt D I J O) {ws : va_W} (hw : fy D A H0 H locs ws) {C : String} {T : u_T} {N ci : Nat} (hc0 : vwCl[ci]? = some (C, T, N)) (hin : ∀ w ∈ u_ws C T N, w ∈ B0) {ty : Nat → FieldType} (hty : ∀ k, k < N → parseFieldDescriptor (T k).2.2.1 = some (ty k)) (hcl : Cond.classLink own index C ∈ B0) (hinst : Cond.instantiable C N ∈ B0) (hini : Cond.initialized C ∈ B0) {fs : List Value} (hfs : ∀ j, j < N → defaultValue (ty j) = vp_V fs j) (hc : cells + 1 ≤ R.cells) (hs : slots + N ≤ R.slots) (hdg : decode cc pc = .ok (.new index, 3))
    (kk : ∀ (q : Nat) (H1 : Heap), fy D A H0 H1 locs (ws ++ [(q, .inr (ci, fs))]) → W p l e R s m args below meth c H1 locs (cells + 1) (slots + N) Q (F0 m (pc + 3) ls (.ref q :: rest))) : W p l e R s m args below meth c H locs cells slots Q (F0 m pc ls rest) :=
  va_new E.1 E.2.1 E.2.2.2.2.1 hin ty hty E.2.2.2.1 (E.2.2.2.2.1 _ hcl) (E.2.2.2.2.1 _ hinst) (E.2.2.2.2.1 _ hini) E.2.2.2.2.2.1.1 hw.1 hw.2.1 hw.2.2.1 hw.2.2.2 hc0 hfs hc hs hdg (fun q H1 hP hD hS => kk q H1 ⟨hP, hD, hS, hw.2.2.2⟩)
theorem x_objI (E : fx p s m args meth c cc own nL rt D I J O) (hsz : ls.size = nL) (hlink : Cond.methodLink own index objectInit ∈ B0) (hinst : Cond.instanceMethod objectInit ∈ B0) (hcode : Cond.code objectInit object_method_1_code 1 none ∈ B0) (hcats : (rest.map fun v => v.category).sum + 12 ≤ R.locals) (hfr : 1 ≤ R.frames) (hdg : decode cc pc = .ok (.invokespecial index, 3))
    (kk : W p l e R s m args below meth c H locs cells slots Q (F0 m (pc + 3) ls rest)) : W p l e R s m args below meth c H locs cells slots Q (F0 m pc ls (.ref a :: rest)) :=
  W.objInit (g := F0 m pc ls (.ref a :: rest)) E.1 E.2.1 E.2.2.2.1 (E.2.2.2.2.1 _ hlink) (E.2.2.2.2.1 _ hinst) (E.2.2.2.2.1 _ hcode) rfl (by rw [E.2.2.1]; exact hsz) rfl hdg hfr (by simpa [JFrame.monitorRoom] using hcats) kk
end
