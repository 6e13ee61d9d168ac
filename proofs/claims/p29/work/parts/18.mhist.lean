theorem x_nd_of : ∀ (l : List Nat), l.Nodup → va_nd l = true
  | [], _ => rfl
  | a :: l, hq => by
    have h1 := List.nodup_cons.mp hq
    simp only [va_nd, Bool.and_eq_true, decide_eq_true_eq]
    exact ⟨h1.1, x_nd_of l h1.2⟩
theorem x_upd_all {X w : va_W} (hq : w.length = X.length) : x_upd X (List.range X.length) w = w := by
  refine List.ext_getElem (by rw [x_upd_len, hq]) (fun k h1 h2 => ?_)
  rcases x_upd_get (List.range X.length) w X k _ (x_nd_of _ List.nodup_range) (by rw [hq, List.length_range]) (List.getElem?_eq_getElem h1) with ⟨j, a, b⟩ | ⟨a, b⟩
  · have hj : j = k := by
      obtain ⟨h3, h4⟩ := List.getElem?_eq_some_iff.mp a
      simpa using h4
    subst hj
    exact (Option.some.inj ((List.getElem?_eq_getElem h2).symm.trans b)).symm
  · exact absurd (List.mem_range.mpr (List.getElem?_eq_some_iff.mp b).1) a
theorem x_upd_front {wc rest9 w : va_W} (hq : w.length = wc.length) : x_upd (wc ++ rest9) (List.range wc.length) w = w ++ rest9 := by
  refine List.ext_getElem (by rw [x_upd_len, List.length_append, List.length_append, hq]) (fun k h1 h2 => ?_)
  rcases x_upd_get (List.range wc.length) w (wc ++ rest9) k _ (x_nd_of _ List.nodup_range) (by rw [hq, List.length_range]) (List.getElem?_eq_getElem h1) with ⟨j, a, b⟩ | ⟨a, b⟩
  · have hj : j = k := by
      obtain ⟨h3, h4⟩ := List.getElem?_eq_some_iff.mp a
      simpa using h4
    subst hj
    have h5 : (w ++ rest9)[j]? = some _ := (List.getElem?_append_left (List.getElem?_eq_some_iff.mp b).1).trans b
    exact (Option.some.inj ((List.getElem?_eq_getElem h2).symm.trans h5)).symm
  · have hk : wc.length ≤ k := Nat.not_lt.mp (fun h6 => a (List.mem_range.mpr h6))
    rw [List.getElem?_append_right hk] at b
    have h6 : k - w.length = k - wc.length := by rw [hq]
    have h7 : (w ++ rest9)[k]? = rest9[k - w.length]? := List.getElem?_append_right (by omega)
    rw [h6] at h7
    have h5 := h7.trans b
    exact (Option.some.inj ((List.getElem?_eq_getElem h2).symm.trans h5)).symm
theorem x_front (wc rest9 : va_W) : (List.range wc.length).map (fun i => (wc ++ rest9)[i]?) = wc.map some :=
  List.ext_getElem (by simp) (fun k h1 h2 => by
    have h3 : k < wc.length := by simpa using h1
    simp [List.getElem?_append_left h3, h3])
theorem x_front0 (wc : va_W) : (List.range wc.length).map (fun i => wc[i]?) = wc.map some :=
  List.ext_getElem (by simp) (fun k h1 h2 => by
    have h3 : k < wc.length := by simpa using h1
    simp [h3])
section
variable {p : Program} {l : Launch} {e : Env} {R : Room} {s : State} {m : MethodId} {args : Array Value} {below : List Frame} {meth : Method} {c : Code} {H H0 : Heap} {locs : List Loc} {cells slots mc ms : Nat} {Q : State → Prop} {pc : Nat} {ls : Array Slot} {rest st0 : List Value} {D : va_G} {A : Nat → Prop}
/-- a call whose world lies ahead of the rest -/
theorem x_mvF {S : Type} {w1 : S → va_W} {pl wc : va_W} {av : Array Value} (hw : fy D A H0 H locs (wc ++ pl))
    (hr : va_Run p l e R s m args below meth c H locs cells slots mc ms (F0 m pc ls st0) rest (qMv D H.size wc w1 av) (va_A wc H.size)) (hlen : ∀ u, (w1 u).length = wc.length)
    (kk : ∀ (u : S) (H1 : Heap) (locs1 : List Loc), fy D A H0 H1 locs1 (w1 u ++ pl) → W p l e R s m args below meth c H1 locs1 (cells + mc) (slots + ms) Q (F0 m (pc + 3) ls rest)) : W p l e R s m args below meth c H locs cells slots Q (F0 m pc ls st0) := by
  refine x_mv hw (List.range wc.length) (List.ext_getElem (by simp) (fun k h1 h2 => by simp at h1; simp [h1])) (x_nd_of _ List.nodup_range) hr hlen (fun u H1 locs1 hq => kk u H1 locs1 ?_)
  rw [x_upd_all (hlen u)] at hq
  exact hq
theorem x_pcMF {meth : Method} {cc : ByteArray} {own : String} {nL : Nat} {rt : Option FieldType} {I J O : ClassId} (E : fx p s m args meth c cc own nL rt D I J O) {pl wc : va_W} (hw : fy D A H0 H locs (wc ++ pl)) {Bs : List Value} : ∀ U : State, U.heap = H → s.WarmedH U.vm → pcM D I J O H.size Bs wc Bs.toArray U :=
  x_pcMQ E hw (List.range wc.length) (x_nd_of _ List.nodup_range) (List.ext_getElem (by simp) (fun k h1 h2 => by simp at h1; simp [h1]))
theorem x_miFP {S : Type} {rx pl1 : S → va_W} {rest9 pl wc : va_W} {r : Int32} {av : Array Value} (hw : fy D A H0 H locs ((wc ++ rest9) ++ pl))
    (hr : va_Run p l e R s m args below meth c H locs cells slots mc ms (F0 m pc ls st0) rest (qMi D H.size (wc ++ pl) r (fun u => rx u ++ pl1 u) av) (va_A (wc ++ pl) H.size)) (hlen : ∀ u, (rx u).length = wc.length)
    (kk : ∀ (u : S) (H1 : Heap) (locs1 : List Loc), fy D A H0 H1 locs1 ((rx u ++ rest9) ++ pl1 u) → W p l e R s m args below meth c H1 locs1 (cells + mc) (slots + ms) Q (F0 m (pc + 3) ls (.int r :: rest))) : W p l e R s m args below meth c H locs cells slots Q (F0 m pc ls st0) :=
  x_miP hw (List.range wc.length) (x_front wc rest9) (x_nd_of _ List.nodup_range) hr hlen (fun u H1 locs1 hq => kk u H1 locs1 (by rw [x_upd_front (hlen u)] at hq; exact hq))
theorem x_miFP0 {S : Type} {rx pl1 : S → va_W} {pl wc : va_W} {r : Int32} {av : Array Value} (hw : fy D A H0 H locs (wc ++ pl))
    (hr : va_Run p l e R s m args below meth c H locs cells slots mc ms (F0 m pc ls st0) rest (qMi D H.size (wc ++ pl) r (fun u => rx u ++ pl1 u) av) (va_A (wc ++ pl) H.size)) (hlen : ∀ u, (rx u).length = wc.length)
    (kk : ∀ (u : S) (H1 : Heap) (locs1 : List Loc), fy D A H0 H1 locs1 (rx u ++ pl1 u) → W p l e R s m args below meth c H1 locs1 (cells + mc) (slots + ms) Q (F0 m (pc + 3) ls (.int r :: rest))) : W p l e R s m args below meth c H locs cells slots Q (F0 m pc ls st0) :=
  x_miP hw (List.range wc.length) (x_front0 wc) (x_nd_of _ List.nodup_range) hr hlen (fun u H1 locs1 hq => kk u H1 locs1 (by rw [x_upd_all (hlen u)] at hq; exact hq))
theorem x_mlFP {S : Type} {rx pl1 : S → va_W} {rest9 pl wc : va_W} {r : Int64} {av : Array Value} (hw : fy D A H0 H locs ((wc ++ rest9) ++ pl))
    (hr : va_Run p l e R s m args below meth c H locs cells slots mc ms (F0 m pc ls st0) rest (qMl D H.size (wc ++ pl) r (fun u => rx u ++ pl1 u) av) (va_A (wc ++ pl) H.size)) (hlen : ∀ u, (rx u).length = wc.length)
    (kk : ∀ (u : S) (H1 : Heap) (locs1 : List Loc), fy D A H0 H1 locs1 ((rx u ++ rest9) ++ pl1 u) → W p l e R s m args below meth c H1 locs1 (cells + mc) (slots + ms) Q (F0 m (pc + 3) ls (.long r :: rest))) : W p l e R s m args below meth c H locs cells slots Q (F0 m pc ls st0) :=
  x_mlP hw (List.range wc.length) (x_front wc rest9) (x_nd_of _ List.nodup_range) hr hlen (fun u H1 locs1 hq => kk u H1 locs1 (by rw [x_upd_front (hlen u)] at hq; exact hq))
theorem x_mlFP0 {S : Type} {rx pl1 : S → va_W} {pl wc : va_W} {r : Int64} {av : Array Value} (hw : fy D A H0 H locs (wc ++ pl))
    (hr : va_Run p l e R s m args below meth c H locs cells slots mc ms (F0 m pc ls st0) rest (qMl D H.size (wc ++ pl) r (fun u => rx u ++ pl1 u) av) (va_A (wc ++ pl) H.size)) (hlen : ∀ u, (rx u).length = wc.length)
    (kk : ∀ (u : S) (H1 : Heap) (locs1 : List Loc), fy D A H0 H1 locs1 (rx u ++ pl1 u) → W p l e R s m args below meth c H1 locs1 (cells + mc) (slots + ms) Q (F0 m (pc + 3) ls (.long r :: rest))) : W p l e R s m args below meth c H locs cells slots Q (F0 m pc ls st0) :=
  x_mlP hw (List.range wc.length) (x_front0 wc) (x_nd_of _ List.nodup_range) hr hlen (fun u H1 locs1 hq => kk u H1 locs1 (by rw [x_upd_all (hlen u)] at hq; exact hq))
theorem x_mdFP {S : Type} {rx pl1 : S → va_W} {rest9 pl wc : va_W} {r : UInt64} {av : Array Value} (hw : fy D A H0 H locs ((wc ++ rest9) ++ pl))
    (hr : va_Run p l e R s m args below meth c H locs cells slots mc ms (F0 m pc ls st0) rest (qMd D H.size (wc ++ pl) r (fun u => rx u ++ pl1 u) av) (va_A (wc ++ pl) H.size)) (hlen : ∀ u, (rx u).length = wc.length)
    (kk : ∀ (u : S) (H1 : Heap) (locs1 : List Loc), fy D A H0 H1 locs1 ((rx u ++ rest9) ++ pl1 u) → W p l e R s m args below meth c H1 locs1 (cells + mc) (slots + ms) Q (F0 m (pc + 3) ls (.double r :: rest))) : W p l e R s m args below meth c H locs cells slots Q (F0 m pc ls st0) :=
  x_mdP hw (List.range wc.length) (x_front wc rest9) (x_nd_of _ List.nodup_range) hr hlen (fun u H1 locs1 hq => kk u H1 locs1 (by rw [x_upd_front (hlen u)] at hq; exact hq))
theorem x_mdFP0 {S : Type} {rx pl1 : S → va_W} {pl wc : va_W} {r : UInt64} {av : Array Value} (hw : fy D A H0 H locs (wc ++ pl))
    (hr : va_Run p l e R s m args below meth c H locs cells slots mc ms (F0 m pc ls st0) rest (qMd D H.size (wc ++ pl) r (fun u => rx u ++ pl1 u) av) (va_A (wc ++ pl) H.size)) (hlen : ∀ u, (rx u).length = wc.length)
    (kk : ∀ (u : S) (H1 : Heap) (locs1 : List Loc), fy D A H0 H1 locs1 (rx u ++ pl1 u) → W p l e R s m args below meth c H1 locs1 (cells + mc) (slots + ms) Q (F0 m (pc + 3) ls (.double r :: rest))) : W p l e R s m args below meth c H locs cells slots Q (F0 m pc ls st0) :=
  x_mdP hw (List.range wc.length) (x_front0 wc) (x_nd_of _ List.nodup_range) hr hlen (fun u H1 locs1 hq => kk u H1 locs1 (by rw [x_upd_all (hlen u)] at hq; exact hq))
theorem x_mvFP {S : Type} {rx pl1 : S → va_W} {rest9 pl wc : va_W} {av : Array Value} (hw : fy D A H0 H locs ((wc ++ rest9) ++ pl))
    (hr : va_Run p l e R s m args below meth c H locs cells slots mc ms (F0 m pc ls st0) rest (qMv D H.size (wc ++ pl) (fun u => rx u ++ pl1 u) av) (va_A (wc ++ pl) H.size)) (hlen : ∀ u, (rx u).length = wc.length)
    (kk : ∀ (u : S) (H1 : Heap) (locs1 : List Loc), fy D A H0 H1 locs1 ((rx u ++ rest9) ++ pl1 u) → W p l e R s m args below meth c H1 locs1 (cells + mc) (slots + ms) Q (F0 m (pc + 3) ls (rest))) : W p l e R s m args below meth c H locs cells slots Q (F0 m pc ls st0) :=
  x_mvP hw (List.range wc.length) (x_front wc rest9) (x_nd_of _ List.nodup_range) hr hlen (fun u H1 locs1 hq => kk u H1 locs1 (by rw [x_upd_front (hlen u)] at hq; exact hq))
theorem x_mvFP0 {S : Type} {rx pl1 : S → va_W} {pl wc : va_W} {av : Array Value} (hw : fy D A H0 H locs (wc ++ pl))
    (hr : va_Run p l e R s m args below meth c H locs cells slots mc ms (F0 m pc ls st0) rest (qMv D H.size (wc ++ pl) (fun u => rx u ++ pl1 u) av) (va_A (wc ++ pl) H.size)) (hlen : ∀ u, (rx u).length = wc.length)
    (kk : ∀ (u : S) (H1 : Heap) (locs1 : List Loc), fy D A H0 H1 locs1 (rx u ++ pl1 u) → W p l e R s m args below meth c H1 locs1 (cells + mc) (slots + ms) Q (F0 m (pc + 3) ls (rest))) : W p l e R s m args below meth c H locs cells slots Q (F0 m pc ls st0) :=
  x_mvP hw (List.range wc.length) (x_front0 wc) (x_nd_of _ List.nodup_range) hr hlen (fun u H1 locs1 hq => kk u H1 locs1 (by rw [x_upd_all (hlen u)] at hq; exact hq))
theorem x_pcMPF {meth : Method} {cc : ByteArray} {own : String} {nL : Nat} {rt : Option FieldType} {I J O : ClassId} (E : fx p s m args meth c cc own nL rt D I J O) {pl rest9 wc : va_W} (hw : fy D A H0 H locs ((wc ++ rest9) ++ pl)) {Bs : List Value} : ∀ U : State, U.heap = H → s.WarmedH U.vm → pcM D I J O H.size Bs (wc ++ pl) Bs.toArray U :=
  x_pcMP E hw (List.range wc.length) (x_nd_of _ List.nodup_range) (x_front wc rest9)
theorem x_pcMPF0 {meth : Method} {cc : ByteArray} {own : String} {nL : Nat} {rt : Option FieldType} {I J O : ClassId} (E : fx p s m args meth c cc own nL rt D I J O) {pl wc : va_W} (hw : fy D A H0 H locs (wc ++ pl)) {Bs : List Value} : ∀ U : State, U.heap = H → s.WarmedH U.vm → pcM D I J O H.size Bs (wc ++ pl) Bs.toArray U :=
  x_pcM E hw.1 hw.2.1
theorem x_mvFF {S : Type} {w1 : S → va_W} {pl rest9 wc : va_W} {av : Array Value} (hw : fy D A H0 H locs ((wc ++ rest9) ++ pl))
    (hr : va_Run p l e R s m args below meth c H locs cells slots mc ms (F0 m pc ls st0) rest (qMv D H.size wc w1 av) (va_A wc H.size)) (hlen : ∀ u, (w1 u).length = wc.length)
    (kk : ∀ (u : S) (H1 : Heap) (locs1 : List Loc), fy D A H0 H1 locs1 ((w1 u ++ rest9) ++ pl) → W p l e R s m args below meth c H1 locs1 (cells + mc) (slots + ms) Q (F0 m (pc + 3) ls rest)) : W p l e R s m args below meth c H locs cells slots Q (F0 m pc ls st0) :=
  x_mv hw (List.range wc.length) (x_front wc rest9) (x_nd_of _ List.nodup_range) hr hlen (fun u H1 locs1 hq => kk u H1 locs1 (by rw [x_upd_front (hlen u)] at hq; exact hq))
theorem x_pcMFF {meth : Method} {cc : ByteArray} {own : String} {nL : Nat} {rt : Option FieldType} {I J O : ClassId} (E : fx p s m args meth c cc own nL rt D I J O) {pl rest9 wc : va_W} (hw : fy D A H0 H locs ((wc ++ rest9) ++ pl)) {Bs : List Value} : ∀ U : State, U.heap = H → s.WarmedH U.vm → pcM D I J O H.size Bs wc Bs.toArray U :=
  x_pcMQ E hw (List.range wc.length) (x_nd_of _ List.nodup_range) (x_front wc rest9)
end
theorem ok_X0_size : yV yX0_size cX0_size 1 (some .int) 0 := ⟨q298, q5, q296, q297, by decide +kernel, by decide +kernel, by decide +kernel⟩
set_option maxRecDepth 100000 in
set_option maxHeartbeats 4000000 in
theorem mt_X0_size (l : Launch) (D : va_G) (I J O : ClassId) (hh ha : Nat) (ad : Nat → Nat → Nat) (x : HiC) (r : Int32) (hf : f_X0_size x = some r) : mR l yX0_size cX0_size 1 (some .int) 0 0 D I J O [.ref hh] (wHi I O hh ha ad x) (qRi r) := by
  refine mR_open (own := RX0) rfl (by decide +kernel) (Nat.le_of_ble_eq_true rfl) (fun p e s m below meth c ls E hP hl => ?_)
  have hx := E.1
  have hb := E.2.1
  have hl : lv_has ls 1 [(0, .ref hh)] := hl
  unfold f_X0_size at hf
  refine lv_aload_n hx hb dX0_size_0 rfl (lv_at hl 0 rfl) ?_
  refine x_get E hP 0 rfl rfl in0 1 (by decide) q112 rfl rfl dX0_size_1 ?_
  exact x_iR E (Option.some.inj hf) dX0_size_4
theorem ok_X0_dropOldest : yV yX0_dropOldest cX0_dropOldest 3 none 0 := ⟨q155, q5, q154, qs0, by decide +kernel, by decide +kernel, by decide +kernel⟩
set_option maxRecDepth 100000 in
set_option maxHeartbeats 4000000 in
theorem mt_X0_dropOldest (l : Launch) (D : va_G) (I J O : ClassId) (hh ha : Nat) (ad : Nat → Nat → Nat) (sz : Nat) (x : HiC) (y0 : HiC) (hf : f_X0_dropOldest x = some y0) : mM l yX0_dropOldest cX0_dropOldest 3 none 0 0 0 0 D I J O sz [.ref hh] (wHi I O hh ha ad x) (qMv D sz (wHi I O hh ha ad x) (fun ad9 : Nat → Nat → Nat => wHi I O hh ha ad9 y0)) := by
  refine mM_open (own := RX0) rfl (by decide +kernel) (Nat.le_of_ble_eq_true rfl) (fun p e s m below meth c ls E hnm hsz hw hl => ?_)
  obtain ⟨ws0, hws⟩ : ∃ ws0 : va_W, ws0 = wHi I O hh ha ad x := ⟨_, rfl⟩
  have hw : fy D (va_A ws0 sz) s.heap s.heap [] (wHi I O hh ha ad x) := by rw [hws]; exact hw
  rw [← hws]
  have hx := E.1
  have hb := E.2.1
  have hl : lv_has ls 3 [(0, .ref hh)] := hl
  unfold f_X0_dropOldest at hf
  have h0 := Option.some.inj hf
  subst h0
  refine lv_aload_n hx hb dX0_dropOldest_0 rfl (lv_at hl 0 rfl) ?_
  refine x_get E hw.1 0 rfl rfl in0 0 (by decide) q111 rfl rfl dX0_dropOldest_1 ?_
  refine lv_iconst (v := 0) hx hb dX0_dropOldest_4 (by decide) ?_
  refine x_aldq E hw.1 1 rfl (show vp_in 0 6 by unfold vp_in; decide) dX0_dropOldest_5 ?_
  refine W.eq (g2 := F0 m 6 ls [.ref (ad 0 0)]) rfl ?_
  refine lv_astore_n (lv' := [(1, .ref (ad 0 0)), (0, .ref hh)]) hx hb dX0_dropOldest_6 rfl hl (by decide) rfl (fun ls hl => ?_)
  refine lv_iconst (v := 1) hx hb dX0_dropOldest_7 (by decide) ?_
  refine lv_istore_n (lv' := [(2, .int 1), (1, .ref (ad 0 0)), (0, .ref hh)]) hx hb dX0_dropOldest_8 rfl hl (by decide) rfl (fun ls hl => ?_)
  refine lv_iload_n hx hb dX0_dropOldest_9 rfl (lv_at hl 0 rfl) ?_
  refine lv_bipush (v := 6) hx hb dX0_dropOldest_10 (by decide) ?_
  refine lv_icmp_ge (tgt := 35) hx hb dX0_dropOldest_12 (by decide) (fun hc => absurd hc (by decide)) (fun _ => ?_)
  refine lv_aload_n hx hb dX0_dropOldest_15 rfl (lv_at hl 2 rfl) ?_
  refine x_get E hw.1 0 rfl rfl in0 0 (by decide) q111 rfl rfl dX0_dropOldest_16 ?_
  refine lv_iload_n hx hb dX0_dropOldest_19 rfl (lv_at hl 0 rfl) ?_
  refine lv_iconst (v := 1) hx hb dX0_dropOldest_20 (by decide) ?_
  refine lv_isub hx hb dX0_dropOldest_21 ?_
  refine lv_aload_n hx hb dX0_dropOldest_22 rfl (lv_at hl 2 rfl) ?_
  refine x_get E hw.1 0 rfl rfl in0 0 (by decide) q111 rfl rfl dX0_dropOldest_23 ?_
  refine lv_iload_n hx hb dX0_dropOldest_26 rfl (lv_at hl 0 rfl) ?_
  refine x_aldq E hw.1 1 rfl (show vp_in 1 6 by unfold vp_in; decide) dX0_dropOldest_27 ?_
  refine W.eq (g2 := F0 m 28 ls [.ref (ad 1 0), .int (1 - 1), .ref ha]) rfl ?_
  refine x_astq E hw 1 14 rfl rfl (show vp_in (1 - 1) 6 by unfold vp_in; decide) dX0_dropOldest_28 (fun H locs hw => ?_)
  have hw : fy D (va_A ws0 sz) s.heap H locs ((hh, .inr (0, [.ref ha, .int x.2])) :: (ha, .inl (O, 6, .inr (.inr (.inr (.inr (va_up (fun i => some (ad i 0)) 0 (some (ad 1 0)))))))) :: (wSt I (ad 0) (x.1 0) ++ (wSt I (ad 1) (x.1 1) ++ (wSt I (ad 2) (x.1 2) ++ (wSt I (ad 3) (x.1 3) ++ (wSt I (ad 4) (x.1 4) ++ wSt I (ad 5) (x.1 5))))))) := hw
  refine lv_iinc (v := 2) (lv' := [(2, .int 2), (1, .ref (ad 0 0)), (0, .ref hh)]) hx hb dX0_dropOldest_29 hl (k := 0) rfl (by decide) (by decide) rfl (fun ls hl => ?_)
  refine lv_goto (tgt := 9) hx hb dX0_dropOldest_32 (by decide) ?_
  refine lv_iload_n hx hb dX0_dropOldest_9 rfl (lv_at hl 0 rfl) ?_
  refine lv_bipush (v := 6) hx hb dX0_dropOldest_10 (by decide) ?_
  refine lv_icmp_ge (tgt := 35) hx hb dX0_dropOldest_12 (by decide) (fun hc => absurd hc (by decide)) (fun _ => ?_)
  refine lv_aload_n hx hb dX0_dropOldest_15 rfl (lv_at hl 2 rfl) ?_
  refine x_get E hw.1 0 rfl rfl in0 0 (by decide) q111 rfl rfl dX0_dropOldest_16 ?_
  refine lv_iload_n hx hb dX0_dropOldest_19 rfl (lv_at hl 0 rfl) ?_
  refine lv_iconst (v := 1) hx hb dX0_dropOldest_20 (by decide) ?_
  refine lv_isub hx hb dX0_dropOldest_21 ?_
  refine lv_aload_n hx hb dX0_dropOldest_22 rfl (lv_at hl 2 rfl) ?_
  refine x_get E hw.1 0 rfl rfl in0 0 (by decide) q111 rfl rfl dX0_dropOldest_23 ?_
  refine lv_iload_n hx hb dX0_dropOldest_26 rfl (lv_at hl 0 rfl) ?_
  refine x_aldq E hw.1 1 rfl (show vp_in 2 6 by unfold vp_in; decide) dX0_dropOldest_27 ?_
  refine W.eq (g2 := F0 m 28 ls [.ref (ad 2 0), .int (2 - 1), .ref ha]) rfl ?_
  refine x_astq E hw 1 26 rfl rfl (show vp_in (2 - 1) 6 by unfold vp_in; decide) dX0_dropOldest_28 (fun H locs hw => ?_)
  have hw : fy D (va_A ws0 sz) s.heap H locs ((hh, .inr (0, [.ref ha, .int x.2])) :: (ha, .inl (O, 6, .inr (.inr (.inr (.inr (va_up (va_up (fun i => some (ad i 0)) 0 (some (ad 1 0))) 1 (some (ad 2 0)))))))) :: (wSt I (ad 0) (x.1 0) ++ (wSt I (ad 1) (x.1 1) ++ (wSt I (ad 2) (x.1 2) ++ (wSt I (ad 3) (x.1 3) ++ (wSt I (ad 4) (x.1 4) ++ wSt I (ad 5) (x.1 5))))))) := hw
  refine lv_iinc (v := 3) (lv' := [(2, .int 3), (1, .ref (ad 0 0)), (0, .ref hh)]) hx hb dX0_dropOldest_29 hl (k := 0) rfl (by decide) (by decide) rfl (fun ls hl => ?_)
  refine lv_goto (tgt := 9) hx hb dX0_dropOldest_32 (by decide) ?_
  refine lv_iload_n hx hb dX0_dropOldest_9 rfl (lv_at hl 0 rfl) ?_
  refine lv_bipush (v := 6) hx hb dX0_dropOldest_10 (by decide) ?_
  refine lv_icmp_ge (tgt := 35) hx hb dX0_dropOldest_12 (by decide) (fun hc => absurd hc (by decide)) (fun _ => ?_)
  refine lv_aload_n hx hb dX0_dropOldest_15 rfl (lv_at hl 2 rfl) ?_
  refine x_get E hw.1 0 rfl rfl in0 0 (by decide) q111 rfl rfl dX0_dropOldest_16 ?_
  refine lv_iload_n hx hb dX0_dropOldest_19 rfl (lv_at hl 0 rfl) ?_
  refine lv_iconst (v := 1) hx hb dX0_dropOldest_20 (by decide) ?_
  refine lv_isub hx hb dX0_dropOldest_21 ?_
  refine lv_aload_n hx hb dX0_dropOldest_22 rfl (lv_at hl 2 rfl) ?_
  refine x_get E hw.1 0 rfl rfl in0 0 (by decide) q111 rfl rfl dX0_dropOldest_23 ?_
  refine lv_iload_n hx hb dX0_dropOldest_26 rfl (lv_at hl 0 rfl) ?_
  refine x_aldq E hw.1 1 rfl (show vp_in 3 6 by unfold vp_in; decide) dX0_dropOldest_27 ?_
  refine W.eq (g2 := F0 m 28 ls [.ref (ad 3 0), .int (3 - 1), .ref ha]) rfl ?_
  refine x_astq E hw 1 38 rfl rfl (show vp_in (3 - 1) 6 by unfold vp_in; decide) dX0_dropOldest_28 (fun H locs hw => ?_)
  have hw : fy D (va_A ws0 sz) s.heap H locs ((hh, .inr (0, [.ref ha, .int x.2])) :: (ha, .inl (O, 6, .inr (.inr (.inr (.inr (va_up (va_up (va_up (fun i => some (ad i 0)) 0 (some (ad 1 0))) 1 (some (ad 2 0))) 2 (some (ad 3 0)))))))) :: (wSt I (ad 0) (x.1 0) ++ (wSt I (ad 1) (x.1 1) ++ (wSt I (ad 2) (x.1 2) ++ (wSt I (ad 3) (x.1 3) ++ (wSt I (ad 4) (x.1 4) ++ wSt I (ad 5) (x.1 5))))))) := hw
  refine lv_iinc (v := 4) (lv' := [(2, .int 4), (1, .ref (ad 0 0)), (0, .ref hh)]) hx hb dX0_dropOldest_29 hl (k := 0) rfl (by decide) (by decide) rfl (fun ls hl => ?_)
  refine lv_goto (tgt := 9) hx hb dX0_dropOldest_32 (by decide) ?_
  refine lv_iload_n hx hb dX0_dropOldest_9 rfl (lv_at hl 0 rfl) ?_
  refine lv_bipush (v := 6) hx hb dX0_dropOldest_10 (by decide) ?_
  refine lv_icmp_ge (tgt := 35) hx hb dX0_dropOldest_12 (by decide) (fun hc => absurd hc (by decide)) (fun _ => ?_)
  refine lv_aload_n hx hb dX0_dropOldest_15 rfl (lv_at hl 2 rfl) ?_
  refine x_get E hw.1 0 rfl rfl in0 0 (by decide) q111 rfl rfl dX0_dropOldest_16 ?_
  refine lv_iload_n hx hb dX0_dropOldest_19 rfl (lv_at hl 0 rfl) ?_
  refine lv_iconst (v := 1) hx hb dX0_dropOldest_20 (by decide) ?_
  refine lv_isub hx hb dX0_dropOldest_21 ?_
  refine lv_aload_n hx hb dX0_dropOldest_22 rfl (lv_at hl 2 rfl) ?_
  refine x_get E hw.1 0 rfl rfl in0 0 (by decide) q111 rfl rfl dX0_dropOldest_23 ?_
  refine lv_iload_n hx hb dX0_dropOldest_26 rfl (lv_at hl 0 rfl) ?_
  refine x_aldq E hw.1 1 rfl (show vp_in 4 6 by unfold vp_in; decide) dX0_dropOldest_27 ?_
  refine W.eq (g2 := F0 m 28 ls [.ref (ad 4 0), .int (4 - 1), .ref ha]) rfl ?_
  refine x_astq E hw 1 50 rfl rfl (show vp_in (4 - 1) 6 by unfold vp_in; decide) dX0_dropOldest_28 (fun H locs hw => ?_)
  have hw : fy D (va_A ws0 sz) s.heap H locs ((hh, .inr (0, [.ref ha, .int x.2])) :: (ha, .inl (O, 6, .inr (.inr (.inr (.inr (va_up (va_up (va_up (va_up (fun i => some (ad i 0)) 0 (some (ad 1 0))) 1 (some (ad 2 0))) 2 (some (ad 3 0))) 3 (some (ad 4 0)))))))) :: (wSt I (ad 0) (x.1 0) ++ (wSt I (ad 1) (x.1 1) ++ (wSt I (ad 2) (x.1 2) ++ (wSt I (ad 3) (x.1 3) ++ (wSt I (ad 4) (x.1 4) ++ wSt I (ad 5) (x.1 5))))))) := hw
  refine lv_iinc (v := 5) (lv' := [(2, .int 5), (1, .ref (ad 0 0)), (0, .ref hh)]) hx hb dX0_dropOldest_29 hl (k := 0) rfl (by decide) (by decide) rfl (fun ls hl => ?_)
  refine lv_goto (tgt := 9) hx hb dX0_dropOldest_32 (by decide) ?_
  refine lv_iload_n hx hb dX0_dropOldest_9 rfl (lv_at hl 0 rfl) ?_
  refine lv_bipush (v := 6) hx hb dX0_dropOldest_10 (by decide) ?_
  refine lv_icmp_ge (tgt := 35) hx hb dX0_dropOldest_12 (by decide) (fun hc => absurd hc (by decide)) (fun _ => ?_)
  refine lv_aload_n hx hb dX0_dropOldest_15 rfl (lv_at hl 2 rfl) ?_
  refine x_get E hw.1 0 rfl rfl in0 0 (by decide) q111 rfl rfl dX0_dropOldest_16 ?_
  refine lv_iload_n hx hb dX0_dropOldest_19 rfl (lv_at hl 0 rfl) ?_
  refine lv_iconst (v := 1) hx hb dX0_dropOldest_20 (by decide) ?_
  refine lv_isub hx hb dX0_dropOldest_21 ?_
  refine lv_aload_n hx hb dX0_dropOldest_22 rfl (lv_at hl 2 rfl) ?_
  refine x_get E hw.1 0 rfl rfl in0 0 (by decide) q111 rfl rfl dX0_dropOldest_23 ?_
  refine lv_iload_n hx hb dX0_dropOldest_26 rfl (lv_at hl 0 rfl) ?_
  refine x_aldq E hw.1 1 rfl (show vp_in 5 6 by unfold vp_in; decide) dX0_dropOldest_27 ?_
  refine W.eq (g2 := F0 m 28 ls [.ref (ad 5 0), .int (5 - 1), .ref ha]) rfl ?_
  refine x_astq E hw 1 62 rfl rfl (show vp_in (5 - 1) 6 by unfold vp_in; decide) dX0_dropOldest_28 (fun H locs hw => ?_)
  have hw : fy D (va_A ws0 sz) s.heap H locs ((hh, .inr (0, [.ref ha, .int x.2])) :: (ha, .inl (O, 6, .inr (.inr (.inr (.inr (va_up (va_up (va_up (va_up (va_up (fun i => some (ad i 0)) 0 (some (ad 1 0))) 1 (some (ad 2 0))) 2 (some (ad 3 0))) 3 (some (ad 4 0))) 4 (some (ad 5 0)))))))) :: (wSt I (ad 0) (x.1 0) ++ (wSt I (ad 1) (x.1 1) ++ (wSt I (ad 2) (x.1 2) ++ (wSt I (ad 3) (x.1 3) ++ (wSt I (ad 4) (x.1 4) ++ wSt I (ad 5) (x.1 5))))))) := hw
  refine lv_iinc (v := 6) (lv' := [(2, .int 6), (1, .ref (ad 0 0)), (0, .ref hh)]) hx hb dX0_dropOldest_29 hl (k := 0) rfl (by decide) (by decide) rfl (fun ls hl => ?_)
  refine lv_goto (tgt := 9) hx hb dX0_dropOldest_32 (by decide) ?_
  refine lv_iload_n hx hb dX0_dropOldest_9 rfl (lv_at hl 0 rfl) ?_
  refine lv_bipush (v := 6) hx hb dX0_dropOldest_10 (by decide) ?_
  refine lv_icmp_ge (tgt := 35) hx hb dX0_dropOldest_12 (by decide) (fun _ => ?_) (fun hc => absurd (by decide) hc)
  refine lv_aload_n hx hb dX0_dropOldest_35 rfl (lv_at hl 2 rfl) ?_
  refine x_get E hw.1 0 rfl rfl in0 0 (by decide) q111 rfl rfl dX0_dropOldest_36 ?_
  refine lv_iconst (v := 5) hx hb dX0_dropOldest_39 (by decide) ?_
  refine lv_aload_n hx hb dX0_dropOldest_40 rfl (lv_at hl 1 rfl) ?_
  refine x_astq E hw 1 2 rfl rfl (show vp_in 5 6 by unfold vp_in; decide) dX0_dropOldest_41 (fun H locs hw => ?_)
  have hw : fy D (va_A ws0 sz) s.heap H locs ((hh, .inr (0, [.ref ha, .int x.2])) :: (ha, .inl (O, 6, .inr (.inr (.inr (.inr (va_up (va_up (va_up (va_up (va_up (va_up (fun i => some (ad i 0)) 0 (some (ad 1 0))) 1 (some (ad 2 0))) 2 (some (ad 3 0))) 3 (some (ad 4 0))) 4 (some (ad 5 0))) 5 (some (ad 0 0)))))))) :: (wSt I (ad 0) (x.1 0) ++ (wSt I (ad 1) (x.1 1) ++ (wSt I (ad 2) (x.1 2) ++ (wSt I (ad 3) (x.1 3) ++ (wSt I (ad 4) (x.1 4) ++ wSt I (ad 5) (x.1 5))))))) := hw
  refine lv_aload_n hx hb dX0_dropOldest_42 rfl (lv_at hl 2 rfl) ?_
  refine lv_iconst (v := 5) hx hb dX0_dropOldest_43 (by decide) ?_
  refine x_put E hw 0 rfl rfl in0 tyX0_ok nmX0 1 (by decide) q112 rfl rfl rfl rfl (Nat.le_of_ble_eq_true rfl) dX0_dropOldest_44 (fun H locs hw => ?_)
  have hw : fy D (va_A ws0 sz) s.heap H locs ((hh, .inr (0, [.ref ha, .int 5])) :: (ha, .inl (O, 6, .inr (.inr (.inr (.inr (va_up (va_up (va_up (va_up (va_up (va_up (fun i => some (ad i 0)) 0 (some (ad 1 0))) 1 (some (ad 2 0))) 2 (some (ad 3 0))) 3 (some (ad 4 0))) 4 (some (ad 5 0))) 5 (some (ad 0 0)))))))) :: (wSt I (ad 0) (x.1 0) ++ (wSt I (ad 1) (x.1 1) ++ (wSt I (ad 2) (x.1 2) ++ (wSt I (ad 3) (x.1 3) ++ (wSt I (ad 4) (x.1 4) ++ wSt I (ad 5) (x.1 5))))))) := hw
  have hfn : (va_up (va_up (va_up (va_up (va_up (va_up (fun i => some (ad i 0)) 0 (some (ad 1 0))) 1 (some (ad 2 0))) 2 (some (ad 3 0))) 3 (some (ad 4 0))) 4 (some (ad 5 0))) 5 (some (ad 0 0))) = (fun i => some (adN ad i 0)) := by
    funext i
    rcases (show i = 0 ∨ i = 1 ∨ i = 2 ∨ i = 3 ∨ i = 4 ∨ i = 5 ∨ 5 < i by omega) with rfl | rfl | rfl | rfl | rfl | rfl | h
    · rfl
    · rfl
    · rfl
    · rfl
    · rfl
    · rfl
    · have h0 : ¬ i = 0 := by omega
      have h1 : ¬ i = 1 := by omega
      have h2 : ¬ i = 2 := by omega
      have h3 : ¬ i = 3 := by omega
      have h4 : ¬ i = 4 := by omega
      have h5 : ¬ i = 5 := by omega
      have h6 : ¬ i < 5 := by omega
      simp only [va_up, adN, h0, h1, h2, h3, h4, h5, h6, if_false]
  rw [hfn] at hw
  have hw : fy D (va_A ws0 sz) s.heap H locs (wHi I O hh ha (adN ad) (fun i => if i < 5 then x.1 (i + 1) else x.1 0, 5)) := hw.sub [0, 1, 14, 15, 16, 17, 18, 19, 20, 21, 22, 23, 24, 25, 26, 27, 28, 29, 30, 31, 32, 33, 34, 35, 36, 37, 38, 39, 40, 41, 42, 43, 44, 45, 46, 47, 48, 49, 50, 51, 52, 53, 54, 55, 56, 57, 58, 59, 60, 61, 62, 63, 64, 65, 66, 67, 68, 69, 70, 71, 72, 73, 2, 3, 4, 5, 6, 7, 8, 9, 10, 11, 12, 13] rfl rfl
  exact x_vM E (adN ad) hw dX0_dropOldest_47
theorem ok_X0_save : yV yX0_save cX0_save 3 none 1 := ⟨q151, q5, q149, q150, by decide +kernel, by decide +kernel, by decide +kernel⟩
set_option maxRecDepth 100000 in
set_option maxHeartbeats 4000000 in
theorem k_X0_save_13 {p : Program} {l : Launch} {e : Env} {s : State} {m : MethodId} {args : Array Value} {below : List Frame} {meth : Method} {c : Code} {D : va_G} {I J O : ClassId} (E : fx p s m args meth c cX0_save RX0 3 none D I J O) (hh ha : Nat) (ad : Nat → Nat → Nat) (n : Nat → Nat) {ws0 : va_W} {sz : Nat} (y0 : HiC) (x : HiC) (o : StC) : f_X0_save_13 x o = some y0 → ∀ (H : Heap) (locs : List Loc), fy D (va_A ws0 sz) s.heap H locs (wSt I n o ++ wHi I O hh ha ad x) → ∀ ls : Array Slot, lv_has ls 3 [(0, .ref hh), (1, .ref (n 0))] → W p l e (rmB 3 60 0 0) s m args below meth c H locs 0 0 (MQ below (qMv D sz ws0 (fun ad9 : Nat → Nat → Nat => wSt I n o ++ wHi I O hh ha ad9 y0)) args s 0 0 (va_A ws0 sz)) (F0 m 13 ls []) := by
  intro hf H locs hw ls hl
  have hx := E.1
  have hb := E.2.1
  unfold f_X0_save_13 at hf
  refine lv_aload_n hx hb dX0_save_13 rfl (lv_at hl 0 rfl) ?_
  refine x_get E hw.1 12 rfl rfl in0 1 (by decide) q112 rfl rfl dX0_save_14 ?_
  refine lv_if_lt (tgt := 29) hx hb dX0_save_17 (by decide) (fun hc => ?_) (fun hc => ?_)
  · rw [if_pos hc] at hf
    have h0 := Option.some.inj hf
    subst h0
    exact x_vM E ad hw dX0_save_29
  rw [if_neg hc] at hf
  refine lv_aload_n hx hb dX0_save_20 rfl (lv_at hl 0 rfl) ?_
  refine x_get E hw.1 12 rfl rfl in0 1 (by decide) q112 rfl rfl dX0_save_21 ?_
  refine lv_bipush (v := 6) hx hb dX0_save_24 (by decide) ?_
  refine lv_icmp_lt (tgt := 30) hx hb dX0_save_26 (by decide) (fun hc => ?_) (fun hc => ?_)
  · rw [if_pos hc] at hf
    obtain ⟨g, hf⟩ := gi_s hf
    obtain ⟨z1, h, hf⟩ := bd_s hf
    have h0 := Option.some.inj hf
    subst h0
    refine lv_aload_n hx hb dX0_save_30 rfl (lv_at hl 0 rfl) ?_
    refine x_get E hw.1 12 rfl rfl in0 0 (by decide) q111 rfl rfl dX0_save_31 ?_
    refine lv_aload_n hx hb dX0_save_34 rfl (lv_at hl 0 rfl) ?_
    refine x_get E hw.1 12 rfl rfl in0 1 (by decide) q112 rfl rfl dX0_save_35 ?_
    refine x_aldq E hw.1 13 rfl g dX0_save_38 ?_
    rcases vp_in6 g with hk | hk | hk | hk | hk | hk
    · have hk2 : x.2.toNatClampNeg = 0 := by rw [hk]; decide
      rw [hk2] at h ⊢
      refine W.eq (g2 := F0 m 39 ls [.ref (ad 0 0)]) rfl ?_
      refine lv_astore_n (lv' := [(2, .ref (ad 0 0)), (0, .ref hh), (1, .ref (n 0))]) hx hb dX0_save_39 rfl hl (by decide) rfl (fun ls hl => ?_)
      refine lv_aload_n hx hb dX0_save_40 rfl (lv_at hl 0 rfl) ?_
      refine lv_ifnull hx hb dX0_save_41 ?_
      refine lv_aload_n hx hb dX0_save_44 rfl (lv_at hl 0 rfl) ?_
      refine lv_aload_n hx hb dX0_save_45 rfl (lv_at hl 2 rfl) ?_
      have hw : fy D (va_A ws0 sz) s.heap H locs ((wSt I (ad 0) (x.1 0) ++ wSt I n o) ++ ((hh, .inr (0, [.ref ha, .int (x.2)])) :: (ha, .inl (O, 6, .inr (.inr (.inr (.inr (fun i => some (ad i 0))))))) :: (wSt I (ad 1) (x.1 1) ++ wSt I (ad 2) (x.1 2) ++ wSt I (ad 3) (x.1 3) ++ wSt I (ad 4) (x.1 4) ++ wSt I (ad 5) (x.1 5)))) := fy.sub hw [14, 15, 16, 17, 18, 19, 20, 21, 22, 23, 24, 25, 0, 1, 2, 3, 4, 5, 6, 7, 8, 9, 10, 11, 12, 13, 26, 27, 28, 29, 30, 31, 32, 33, 34, 35, 36, 37, 38, 39, 40, 41, 42, 43, 44, 45, 46, 47, 48, 49, 50, 51, 52, 53, 54, 55, 56, 57, 58, 59, 60, 61, 62, 63, 64, 65, 66, 67, 68, 69, 70, 71, 72, 73, 74, 75, 76, 77, 78, 79, 80, 81, 82, 83, 84, 85] rfl rfl
      refine x_mvF hw (x_rV E (As := [.ref (n 0)]) (rest := []) (mt_X3_copyFrom l D I J O (ad 0) n H.size (x.1 0) o z1 h) blM (x_recv E hw.1 0 3 rfl rfl rfl) (x_pcMF E hw) ok_X3_copyFrom q156 rfl hl.1 rfl (Nat.le_of_ble_eq_true rfl) ⟨Nat.le_of_ble_eq_true rfl, Nat.le_of_ble_eq_true rfl⟩ ⟨Nat.le_of_ble_eq_true rfl, Nat.le_of_ble_eq_true rfl⟩ dX0_save_46) (fun _ => rfl) (fun _ H locs hw => ?_)
      have hw : fy D (va_A ws0 sz) s.heap H locs ((wSt I (ad 0) z1 ++ wSt I n o) ++ ((hh, .inr (0, [.ref ha, .int (x.2)])) :: (ha, .inl (O, 6, .inr (.inr (.inr (.inr (fun i => some (ad i 0))))))) :: (wSt I (ad 1) (x.1 1) ++ wSt I (ad 2) (x.1 2) ++ wSt I (ad 3) (x.1 3) ++ wSt I (ad 4) (x.1 4) ++ wSt I (ad 5) (x.1 5)))) := hw
      refine lv_aload_n hx hb dX0_save_49 rfl (lv_at hl 1 rfl) ?_
      refine lv_dup hx hb dX0_save_50 rfl ?_
      refine x_get E hw.1 24 rfl rfl in0 1 (by decide) q112 rfl rfl dX0_save_51 ?_
      refine lv_iconst (v := 1) hx hb dX0_save_54 (by decide) ?_
      refine lv_iadd hx hb dX0_save_55 ?_
      refine x_put E hw 24 rfl rfl in0 tyX0_ok nmX0 1 (by decide) q112 rfl rfl rfl rfl (Nat.le_of_ble_eq_true rfl) dX0_save_56 (fun H locs hw => ?_)
      have hw : fy D (va_A ws0 sz) s.heap H locs ((wSt I (ad 0) z1 ++ wSt I n o) ++ ((hh, .inr (0, [.ref ha, .int (x.2 + 1)])) :: (ha, .inl (O, 6, .inr (.inr (.inr (.inr (fun i => some (ad i 0))))))) :: (wSt I (ad 1) (x.1 1) ++ wSt I (ad 2) (x.1 2) ++ wSt I (ad 3) (x.1 3) ++ wSt I (ad 4) (x.1 4) ++ wSt I (ad 5) (x.1 5)))) := hw
      have hw : fy D (va_A ws0 sz) s.heap H locs (wSt I n o ++ wHi I O hh ha ad (fun i => if i = 0 then z1 else x.1 i, x.2 + 1)) := fy.sub hw [12, 13, 14, 15, 16, 17, 18, 19, 20, 21, 22, 23, 24, 25, 0, 1, 2, 3, 4, 5, 6, 7, 8, 9, 10, 11, 26, 27, 28, 29, 30, 31, 32, 33, 34, 35, 36, 37, 38, 39, 40, 41, 42, 43, 44, 45, 46, 47, 48, 49, 50, 51, 52, 53, 54, 55, 56, 57, 58, 59, 60, 61, 62, 63, 64, 65, 66, 67, 68, 69, 70, 71, 72, 73, 74, 75, 76, 77, 78, 79, 80, 81, 82, 83, 84, 85] rfl rfl
      exact x_vM E ad hw dX0_save_59
    · have hk2 : x.2.toNatClampNeg = 1 := by rw [hk]; decide
      rw [hk2] at h ⊢
      refine W.eq (g2 := F0 m 39 ls [.ref (ad 1 0)]) rfl ?_
      refine lv_astore_n (lv' := [(2, .ref (ad 1 0)), (0, .ref hh), (1, .ref (n 0))]) hx hb dX0_save_39 rfl hl (by decide) rfl (fun ls hl => ?_)
      refine lv_aload_n hx hb dX0_save_40 rfl (lv_at hl 0 rfl) ?_
      refine lv_ifnull hx hb dX0_save_41 ?_
      refine lv_aload_n hx hb dX0_save_44 rfl (lv_at hl 0 rfl) ?_
      refine lv_aload_n hx hb dX0_save_45 rfl (lv_at hl 2 rfl) ?_
      have hw : fy D (va_A ws0 sz) s.heap H locs ((wSt I (ad 1) (x.1 1) ++ wSt I n o) ++ ((hh, .inr (0, [.ref ha, .int (x.2)])) :: (ha, .inl (O, 6, .inr (.inr (.inr (.inr (fun i => some (ad i 0))))))) :: (wSt I (ad 0) (x.1 0) ++ wSt I (ad 2) (x.1 2) ++ wSt I (ad 3) (x.1 3) ++ wSt I (ad 4) (x.1 4) ++ wSt I (ad 5) (x.1 5)))) := fy.sub hw [26, 27, 28, 29, 30, 31, 32, 33, 34, 35, 36, 37, 0, 1, 2, 3, 4, 5, 6, 7, 8, 9, 10, 11, 12, 13, 14, 15, 16, 17, 18, 19, 20, 21, 22, 23, 24, 25, 38, 39, 40, 41, 42, 43, 44, 45, 46, 47, 48, 49, 50, 51, 52, 53, 54, 55, 56, 57, 58, 59, 60, 61, 62, 63, 64, 65, 66, 67, 68, 69, 70, 71, 72, 73, 74, 75, 76, 77, 78, 79, 80, 81, 82, 83, 84, 85] rfl rfl
      refine x_mvF hw (x_rV E (As := [.ref (n 0)]) (rest := []) (mt_X3_copyFrom l D I J O (ad 1) n H.size (x.1 1) o z1 h) blM (x_recv E hw.1 0 3 rfl rfl rfl) (x_pcMF E hw) ok_X3_copyFrom q156 rfl hl.1 rfl (Nat.le_of_ble_eq_true rfl) ⟨Nat.le_of_ble_eq_true rfl, Nat.le_of_ble_eq_true rfl⟩ ⟨Nat.le_of_ble_eq_true rfl, Nat.le_of_ble_eq_true rfl⟩ dX0_save_46) (fun _ => rfl) (fun _ H locs hw => ?_)
      have hw : fy D (va_A ws0 sz) s.heap H locs ((wSt I (ad 1) z1 ++ wSt I n o) ++ ((hh, .inr (0, [.ref ha, .int (x.2)])) :: (ha, .inl (O, 6, .inr (.inr (.inr (.inr (fun i => some (ad i 0))))))) :: (wSt I (ad 0) (x.1 0) ++ wSt I (ad 2) (x.1 2) ++ wSt I (ad 3) (x.1 3) ++ wSt I (ad 4) (x.1 4) ++ wSt I (ad 5) (x.1 5)))) := hw
      refine lv_aload_n hx hb dX0_save_49 rfl (lv_at hl 1 rfl) ?_
      refine lv_dup hx hb dX0_save_50 rfl ?_
      refine x_get E hw.1 24 rfl rfl in0 1 (by decide) q112 rfl rfl dX0_save_51 ?_
      refine lv_iconst (v := 1) hx hb dX0_save_54 (by decide) ?_
      refine lv_iadd hx hb dX0_save_55 ?_
      refine x_put E hw 24 rfl rfl in0 tyX0_ok nmX0 1 (by decide) q112 rfl rfl rfl rfl (Nat.le_of_ble_eq_true rfl) dX0_save_56 (fun H locs hw => ?_)
      have hw : fy D (va_A ws0 sz) s.heap H locs ((wSt I (ad 1) z1 ++ wSt I n o) ++ ((hh, .inr (0, [.ref ha, .int (x.2 + 1)])) :: (ha, .inl (O, 6, .inr (.inr (.inr (.inr (fun i => some (ad i 0))))))) :: (wSt I (ad 0) (x.1 0) ++ wSt I (ad 2) (x.1 2) ++ wSt I (ad 3) (x.1 3) ++ wSt I (ad 4) (x.1 4) ++ wSt I (ad 5) (x.1 5)))) := hw
      have hw : fy D (va_A ws0 sz) s.heap H locs (wSt I n o ++ wHi I O hh ha ad (fun i => if i = 1 then z1 else x.1 i, x.2 + 1)) := fy.sub hw [12, 13, 14, 15, 16, 17, 18, 19, 20, 21, 22, 23, 24, 25, 26, 27, 28, 29, 30, 31, 32, 33, 34, 35, 36, 37, 0, 1, 2, 3, 4, 5, 6, 7, 8, 9, 10, 11, 38, 39, 40, 41, 42, 43, 44, 45, 46, 47, 48, 49, 50, 51, 52, 53, 54, 55, 56, 57, 58, 59, 60, 61, 62, 63, 64, 65, 66, 67, 68, 69, 70, 71, 72, 73, 74, 75, 76, 77, 78, 79, 80, 81, 82, 83, 84, 85] rfl rfl
      exact x_vM E ad hw dX0_save_59
    · have hk2 : x.2.toNatClampNeg = 2 := by rw [hk]; decide
      rw [hk2] at h ⊢
      refine W.eq (g2 := F0 m 39 ls [.ref (ad 2 0)]) rfl ?_
      refine lv_astore_n (lv' := [(2, .ref (ad 2 0)), (0, .ref hh), (1, .ref (n 0))]) hx hb dX0_save_39 rfl hl (by decide) rfl (fun ls hl => ?_)
      refine lv_aload_n hx hb dX0_save_40 rfl (lv_at hl 0 rfl) ?_
      refine lv_ifnull hx hb dX0_save_41 ?_
      refine lv_aload_n hx hb dX0_save_44 rfl (lv_at hl 0 rfl) ?_
      refine lv_aload_n hx hb dX0_save_45 rfl (lv_at hl 2 rfl) ?_
      have hw : fy D (va_A ws0 sz) s.heap H locs ((wSt I (ad 2) (x.1 2) ++ wSt I n o) ++ ((hh, .inr (0, [.ref ha, .int (x.2)])) :: (ha, .inl (O, 6, .inr (.inr (.inr (.inr (fun i => some (ad i 0))))))) :: (wSt I (ad 0) (x.1 0) ++ wSt I (ad 1) (x.1 1) ++ wSt I (ad 3) (x.1 3) ++ wSt I (ad 4) (x.1 4) ++ wSt I (ad 5) (x.1 5)))) := fy.sub hw [38, 39, 40, 41, 42, 43, 44, 45, 46, 47, 48, 49, 0, 1, 2, 3, 4, 5, 6, 7, 8, 9, 10, 11, 12, 13, 14, 15, 16, 17, 18, 19, 20, 21, 22, 23, 24, 25, 26, 27, 28, 29, 30, 31, 32, 33, 34, 35, 36, 37, 50, 51, 52, 53, 54, 55, 56, 57, 58, 59, 60, 61, 62, 63, 64, 65, 66, 67, 68, 69, 70, 71, 72, 73, 74, 75, 76, 77, 78, 79, 80, 81, 82, 83, 84, 85] rfl rfl
      refine x_mvF hw (x_rV E (As := [.ref (n 0)]) (rest := []) (mt_X3_copyFrom l D I J O (ad 2) n H.size (x.1 2) o z1 h) blM (x_recv E hw.1 0 3 rfl rfl rfl) (x_pcMF E hw) ok_X3_copyFrom q156 rfl hl.1 rfl (Nat.le_of_ble_eq_true rfl) ⟨Nat.le_of_ble_eq_true rfl, Nat.le_of_ble_eq_true rfl⟩ ⟨Nat.le_of_ble_eq_true rfl, Nat.le_of_ble_eq_true rfl⟩ dX0_save_46) (fun _ => rfl) (fun _ H locs hw => ?_)
      have hw : fy D (va_A ws0 sz) s.heap H locs ((wSt I (ad 2) z1 ++ wSt I n o) ++ ((hh, .inr (0, [.ref ha, .int (x.2)])) :: (ha, .inl (O, 6, .inr (.inr (.inr (.inr (fun i => some (ad i 0))))))) :: (wSt I (ad 0) (x.1 0) ++ wSt I (ad 1) (x.1 1) ++ wSt I (ad 3) (x.1 3) ++ wSt I (ad 4) (x.1 4) ++ wSt I (ad 5) (x.1 5)))) := hw
      refine lv_aload_n hx hb dX0_save_49 rfl (lv_at hl 1 rfl) ?_
      refine lv_dup hx hb dX0_save_50 rfl ?_
      refine x_get E hw.1 24 rfl rfl in0 1 (by decide) q112 rfl rfl dX0_save_51 ?_
      refine lv_iconst (v := 1) hx hb dX0_save_54 (by decide) ?_
      refine lv_iadd hx hb dX0_save_55 ?_
      refine x_put E hw 24 rfl rfl in0 tyX0_ok nmX0 1 (by decide) q112 rfl rfl rfl rfl (Nat.le_of_ble_eq_true rfl) dX0_save_56 (fun H locs hw => ?_)
      have hw : fy D (va_A ws0 sz) s.heap H locs ((wSt I (ad 2) z1 ++ wSt I n o) ++ ((hh, .inr (0, [.ref ha, .int (x.2 + 1)])) :: (ha, .inl (O, 6, .inr (.inr (.inr (.inr (fun i => some (ad i 0))))))) :: (wSt I (ad 0) (x.1 0) ++ wSt I (ad 1) (x.1 1) ++ wSt I (ad 3) (x.1 3) ++ wSt I (ad 4) (x.1 4) ++ wSt I (ad 5) (x.1 5)))) := hw
      have hw : fy D (va_A ws0 sz) s.heap H locs (wSt I n o ++ wHi I O hh ha ad (fun i => if i = 2 then z1 else x.1 i, x.2 + 1)) := fy.sub hw [12, 13, 14, 15, 16, 17, 18, 19, 20, 21, 22, 23, 24, 25, 26, 27, 28, 29, 30, 31, 32, 33, 34, 35, 36, 37, 38, 39, 40, 41, 42, 43, 44, 45, 46, 47, 48, 49, 0, 1, 2, 3, 4, 5, 6, 7, 8, 9, 10, 11, 50, 51, 52, 53, 54, 55, 56, 57, 58, 59, 60, 61, 62, 63, 64, 65, 66, 67, 68, 69, 70, 71, 72, 73, 74, 75, 76, 77, 78, 79, 80, 81, 82, 83, 84, 85] rfl rfl
      exact x_vM E ad hw dX0_save_59
    · have hk2 : x.2.toNatClampNeg = 3 := by rw [hk]; decide
      rw [hk2] at h ⊢
      refine W.eq (g2 := F0 m 39 ls [.ref (ad 3 0)]) rfl ?_
      refine lv_astore_n (lv' := [(2, .ref (ad 3 0)), (0, .ref hh), (1, .ref (n 0))]) hx hb dX0_save_39 rfl hl (by decide) rfl (fun ls hl => ?_)
      refine lv_aload_n hx hb dX0_save_40 rfl (lv_at hl 0 rfl) ?_
      refine lv_ifnull hx hb dX0_save_41 ?_
      refine lv_aload_n hx hb dX0_save_44 rfl (lv_at hl 0 rfl) ?_
      refine lv_aload_n hx hb dX0_save_45 rfl (lv_at hl 2 rfl) ?_
      have hw : fy D (va_A ws0 sz) s.heap H locs ((wSt I (ad 3) (x.1 3) ++ wSt I n o) ++ ((hh, .inr (0, [.ref ha, .int (x.2)])) :: (ha, .inl (O, 6, .inr (.inr (.inr (.inr (fun i => some (ad i 0))))))) :: (wSt I (ad 0) (x.1 0) ++ wSt I (ad 1) (x.1 1) ++ wSt I (ad 2) (x.1 2) ++ wSt I (ad 4) (x.1 4) ++ wSt I (ad 5) (x.1 5)))) := fy.sub hw [50, 51, 52, 53, 54, 55, 56, 57, 58, 59, 60, 61, 0, 1, 2, 3, 4, 5, 6, 7, 8, 9, 10, 11, 12, 13, 14, 15, 16, 17, 18, 19, 20, 21, 22, 23, 24, 25, 26, 27, 28, 29, 30, 31, 32, 33, 34, 35, 36, 37, 38, 39, 40, 41, 42, 43, 44, 45, 46, 47, 48, 49, 62, 63, 64, 65, 66, 67, 68, 69, 70, 71, 72, 73, 74, 75, 76, 77, 78, 79, 80, 81, 82, 83, 84, 85] rfl rfl
      refine x_mvF hw (x_rV E (As := [.ref (n 0)]) (rest := []) (mt_X3_copyFrom l D I J O (ad 3) n H.size (x.1 3) o z1 h) blM (x_recv E hw.1 0 3 rfl rfl rfl) (x_pcMF E hw) ok_X3_copyFrom q156 rfl hl.1 rfl (Nat.le_of_ble_eq_true rfl) ⟨Nat.le_of_ble_eq_true rfl, Nat.le_of_ble_eq_true rfl⟩ ⟨Nat.le_of_ble_eq_true rfl, Nat.le_of_ble_eq_true rfl⟩ dX0_save_46) (fun _ => rfl) (fun _ H locs hw => ?_)
      have hw : fy D (va_A ws0 sz) s.heap H locs ((wSt I (ad 3) z1 ++ wSt I n o) ++ ((hh, .inr (0, [.ref ha, .int (x.2)])) :: (ha, .inl (O, 6, .inr (.inr (.inr (.inr (fun i => some (ad i 0))))))) :: (wSt I (ad 0) (x.1 0) ++ wSt I (ad 1) (x.1 1) ++ wSt I (ad 2) (x.1 2) ++ wSt I (ad 4) (x.1 4) ++ wSt I (ad 5) (x.1 5)))) := hw
      refine lv_aload_n hx hb dX0_save_49 rfl (lv_at hl 1 rfl) ?_
      refine lv_dup hx hb dX0_save_50 rfl ?_
      refine x_get E hw.1 24 rfl rfl in0 1 (by decide) q112 rfl rfl dX0_save_51 ?_
      refine lv_iconst (v := 1) hx hb dX0_save_54 (by decide) ?_
      refine lv_iadd hx hb dX0_save_55 ?_
      refine x_put E hw 24 rfl rfl in0 tyX0_ok nmX0 1 (by decide) q112 rfl rfl rfl rfl (Nat.le_of_ble_eq_true rfl) dX0_save_56 (fun H locs hw => ?_)
      have hw : fy D (va_A ws0 sz) s.heap H locs ((wSt I (ad 3) z1 ++ wSt I n o) ++ ((hh, .inr (0, [.ref ha, .int (x.2 + 1)])) :: (ha, .inl (O, 6, .inr (.inr (.inr (.inr (fun i => some (ad i 0))))))) :: (wSt I (ad 0) (x.1 0) ++ wSt I (ad 1) (x.1 1) ++ wSt I (ad 2) (x.1 2) ++ wSt I (ad 4) (x.1 4) ++ wSt I (ad 5) (x.1 5)))) := hw
      have hw : fy D (va_A ws0 sz) s.heap H locs (wSt I n o ++ wHi I O hh ha ad (fun i => if i = 3 then z1 else x.1 i, x.2 + 1)) := fy.sub hw [12, 13, 14, 15, 16, 17, 18, 19, 20, 21, 22, 23, 24, 25, 26, 27, 28, 29, 30, 31, 32, 33, 34, 35, 36, 37, 38, 39, 40, 41, 42, 43, 44, 45, 46, 47, 48, 49, 50, 51, 52, 53, 54, 55, 56, 57, 58, 59, 60, 61, 0, 1, 2, 3, 4, 5, 6, 7, 8, 9, 10, 11, 62, 63, 64, 65, 66, 67, 68, 69, 70, 71, 72, 73, 74, 75, 76, 77, 78, 79, 80, 81, 82, 83, 84, 85] rfl rfl
      exact x_vM E ad hw dX0_save_59
    · have hk2 : x.2.toNatClampNeg = 4 := by rw [hk]; decide
      rw [hk2] at h ⊢
      refine W.eq (g2 := F0 m 39 ls [.ref (ad 4 0)]) rfl ?_
      refine lv_astore_n (lv' := [(2, .ref (ad 4 0)), (0, .ref hh), (1, .ref (n 0))]) hx hb dX0_save_39 rfl hl (by decide) rfl (fun ls hl => ?_)
      refine lv_aload_n hx hb dX0_save_40 rfl (lv_at hl 0 rfl) ?_
      refine lv_ifnull hx hb dX0_save_41 ?_
      refine lv_aload_n hx hb dX0_save_44 rfl (lv_at hl 0 rfl) ?_
      refine lv_aload_n hx hb dX0_save_45 rfl (lv_at hl 2 rfl) ?_
      have hw : fy D (va_A ws0 sz) s.heap H locs ((wSt I (ad 4) (x.1 4) ++ wSt I n o) ++ ((hh, .inr (0, [.ref ha, .int (x.2)])) :: (ha, .inl (O, 6, .inr (.inr (.inr (.inr (fun i => some (ad i 0))))))) :: (wSt I (ad 0) (x.1 0) ++ wSt I (ad 1) (x.1 1) ++ wSt I (ad 2) (x.1 2) ++ wSt I (ad 3) (x.1 3) ++ wSt I (ad 5) (x.1 5)))) := fy.sub hw [62, 63, 64, 65, 66, 67, 68, 69, 70, 71, 72, 73, 0, 1, 2, 3, 4, 5, 6, 7, 8, 9, 10, 11, 12, 13, 14, 15, 16, 17, 18, 19, 20, 21, 22, 23, 24, 25, 26, 27, 28, 29, 30, 31, 32, 33, 34, 35, 36, 37, 38, 39, 40, 41, 42, 43, 44, 45, 46, 47, 48, 49, 50, 51, 52, 53, 54, 55, 56, 57, 58, 59, 60, 61, 74, 75, 76, 77, 78, 79, 80, 81, 82, 83, 84, 85] rfl rfl
      refine x_mvF hw (x_rV E (As := [.ref (n 0)]) (rest := []) (mt_X3_copyFrom l D I J O (ad 4) n H.size (x.1 4) o z1 h) blM (x_recv E hw.1 0 3 rfl rfl rfl) (x_pcMF E hw) ok_X3_copyFrom q156 rfl hl.1 rfl (Nat.le_of_ble_eq_true rfl) ⟨Nat.le_of_ble_eq_true rfl, Nat.le_of_ble_eq_true rfl⟩ ⟨Nat.le_of_ble_eq_true rfl, Nat.le_of_ble_eq_true rfl⟩ dX0_save_46) (fun _ => rfl) (fun _ H locs hw => ?_)
      have hw : fy D (va_A ws0 sz) s.heap H locs ((wSt I (ad 4) z1 ++ wSt I n o) ++ ((hh, .inr (0, [.ref ha, .int (x.2)])) :: (ha, .inl (O, 6, .inr (.inr (.inr (.inr (fun i => some (ad i 0))))))) :: (wSt I (ad 0) (x.1 0) ++ wSt I (ad 1) (x.1 1) ++ wSt I (ad 2) (x.1 2) ++ wSt I (ad 3) (x.1 3) ++ wSt I (ad 5) (x.1 5)))) := hw
      refine lv_aload_n hx hb dX0_save_49 rfl (lv_at hl 1 rfl) ?_
      refine lv_dup hx hb dX0_save_50 rfl ?_
      refine x_get E hw.1 24 rfl rfl in0 1 (by decide) q112 rfl rfl dX0_save_51 ?_
      refine lv_iconst (v := 1) hx hb dX0_save_54 (by decide) ?_
      refine lv_iadd hx hb dX0_save_55 ?_
      refine x_put E hw 24 rfl rfl in0 tyX0_ok nmX0 1 (by decide) q112 rfl rfl rfl rfl (Nat.le_of_ble_eq_true rfl) dX0_save_56 (fun H locs hw => ?_)
      have hw : fy D (va_A ws0 sz) s.heap H locs ((wSt I (ad 4) z1 ++ wSt I n o) ++ ((hh, .inr (0, [.ref ha, .int (x.2 + 1)])) :: (ha, .inl (O, 6, .inr (.inr (.inr (.inr (fun i => some (ad i 0))))))) :: (wSt I (ad 0) (x.1 0) ++ wSt I (ad 1) (x.1 1) ++ wSt I (ad 2) (x.1 2) ++ wSt I (ad 3) (x.1 3) ++ wSt I (ad 5) (x.1 5)))) := hw
      have hw : fy D (va_A ws0 sz) s.heap H locs (wSt I n o ++ wHi I O hh ha ad (fun i => if i = 4 then z1 else x.1 i, x.2 + 1)) := fy.sub hw [12, 13, 14, 15, 16, 17, 18, 19, 20, 21, 22, 23, 24, 25, 26, 27, 28, 29, 30, 31, 32, 33, 34, 35, 36, 37, 38, 39, 40, 41, 42, 43, 44, 45, 46, 47, 48, 49, 50, 51, 52, 53, 54, 55, 56, 57, 58, 59, 60, 61, 62, 63, 64, 65, 66, 67, 68, 69, 70, 71, 72, 73, 0, 1, 2, 3, 4, 5, 6, 7, 8, 9, 10, 11, 74, 75, 76, 77, 78, 79, 80, 81, 82, 83, 84, 85] rfl rfl
      exact x_vM E ad hw dX0_save_59
    · have hk2 : x.2.toNatClampNeg = 5 := by rw [hk]; decide
      rw [hk2] at h ⊢
      refine W.eq (g2 := F0 m 39 ls [.ref (ad 5 0)]) rfl ?_
      refine lv_astore_n (lv' := [(2, .ref (ad 5 0)), (0, .ref hh), (1, .ref (n 0))]) hx hb dX0_save_39 rfl hl (by decide) rfl (fun ls hl => ?_)
      refine lv_aload_n hx hb dX0_save_40 rfl (lv_at hl 0 rfl) ?_
      refine lv_ifnull hx hb dX0_save_41 ?_
      refine lv_aload_n hx hb dX0_save_44 rfl (lv_at hl 0 rfl) ?_
      refine lv_aload_n hx hb dX0_save_45 rfl (lv_at hl 2 rfl) ?_
      have hw : fy D (va_A ws0 sz) s.heap H locs ((wSt I (ad 5) (x.1 5) ++ wSt I n o) ++ ((hh, .inr (0, [.ref ha, .int (x.2)])) :: (ha, .inl (O, 6, .inr (.inr (.inr (.inr (fun i => some (ad i 0))))))) :: (wSt I (ad 0) (x.1 0) ++ wSt I (ad 1) (x.1 1) ++ wSt I (ad 2) (x.1 2) ++ wSt I (ad 3) (x.1 3) ++ wSt I (ad 4) (x.1 4)))) := fy.sub hw [74, 75, 76, 77, 78, 79, 80, 81, 82, 83, 84, 85, 0, 1, 2, 3, 4, 5, 6, 7, 8, 9, 10, 11, 12, 13, 14, 15, 16, 17, 18, 19, 20, 21, 22, 23, 24, 25, 26, 27, 28, 29, 30, 31, 32, 33, 34, 35, 36, 37, 38, 39, 40, 41, 42, 43, 44, 45, 46, 47, 48, 49, 50, 51, 52, 53, 54, 55, 56, 57, 58, 59, 60, 61, 62, 63, 64, 65, 66, 67, 68, 69, 70, 71, 72, 73] rfl rfl
      refine x_mvF hw (x_rV E (As := [.ref (n 0)]) (rest := []) (mt_X3_copyFrom l D I J O (ad 5) n H.size (x.1 5) o z1 h) blM (x_recv E hw.1 0 3 rfl rfl rfl) (x_pcMF E hw) ok_X3_copyFrom q156 rfl hl.1 rfl (Nat.le_of_ble_eq_true rfl) ⟨Nat.le_of_ble_eq_true rfl, Nat.le_of_ble_eq_true rfl⟩ ⟨Nat.le_of_ble_eq_true rfl, Nat.le_of_ble_eq_true rfl⟩ dX0_save_46) (fun _ => rfl) (fun _ H locs hw => ?_)
      have hw : fy D (va_A ws0 sz) s.heap H locs ((wSt I (ad 5) z1 ++ wSt I n o) ++ ((hh, .inr (0, [.ref ha, .int (x.2)])) :: (ha, .inl (O, 6, .inr (.inr (.inr (.inr (fun i => some (ad i 0))))))) :: (wSt I (ad 0) (x.1 0) ++ wSt I (ad 1) (x.1 1) ++ wSt I (ad 2) (x.1 2) ++ wSt I (ad 3) (x.1 3) ++ wSt I (ad 4) (x.1 4)))) := hw
      refine lv_aload_n hx hb dX0_save_49 rfl (lv_at hl 1 rfl) ?_
      refine lv_dup hx hb dX0_save_50 rfl ?_
      refine x_get E hw.1 24 rfl rfl in0 1 (by decide) q112 rfl rfl dX0_save_51 ?_
      refine lv_iconst (v := 1) hx hb dX0_save_54 (by decide) ?_
      refine lv_iadd hx hb dX0_save_55 ?_
      refine x_put E hw 24 rfl rfl in0 tyX0_ok nmX0 1 (by decide) q112 rfl rfl rfl rfl (Nat.le_of_ble_eq_true rfl) dX0_save_56 (fun H locs hw => ?_)
      have hw : fy D (va_A ws0 sz) s.heap H locs ((wSt I (ad 5) z1 ++ wSt I n o) ++ ((hh, .inr (0, [.ref ha, .int (x.2 + 1)])) :: (ha, .inl (O, 6, .inr (.inr (.inr (.inr (fun i => some (ad i 0))))))) :: (wSt I (ad 0) (x.1 0) ++ wSt I (ad 1) (x.1 1) ++ wSt I (ad 2) (x.1 2) ++ wSt I (ad 3) (x.1 3) ++ wSt I (ad 4) (x.1 4)))) := hw
      have hw : fy D (va_A ws0 sz) s.heap H locs (wSt I n o ++ wHi I O hh ha ad (fun i => if i = 5 then z1 else x.1 i, x.2 + 1)) := fy.sub hw [12, 13, 14, 15, 16, 17, 18, 19, 20, 21, 22, 23, 24, 25, 26, 27, 28, 29, 30, 31, 32, 33, 34, 35, 36, 37, 38, 39, 40, 41, 42, 43, 44, 45, 46, 47, 48, 49, 50, 51, 52, 53, 54, 55, 56, 57, 58, 59, 60, 61, 62, 63, 64, 65, 66, 67, 68, 69, 70, 71, 72, 73, 74, 75, 76, 77, 78, 79, 80, 81, 82, 83, 84, 85, 0, 1, 2, 3, 4, 5, 6, 7, 8, 9, 10, 11] rfl rfl
      exact x_vM E ad hw dX0_save_59
  · rw [if_neg hc] at hf
    have h0 := Option.some.inj hf
    subst h0
    exact x_vM E ad hw dX0_save_29
set_option maxRecDepth 100000 in
set_option maxHeartbeats 4000000 in
theorem mt_X0_save (l : Launch) (D : va_G) (I J O : ClassId) (hh ha : Nat) (ad : Nat → Nat → Nat) (n : Nat → Nat) (sz : Nat) (x : HiC) (o : StC) (y0 : HiC) (hf : f_X0_save x o = some y0) : mM l yX0_save cX0_save 3 none 3 60 0 0 D I J O sz [.ref hh, .ref (n 0)] (wSt I n o ++ wHi I O hh ha ad x) (qMv D sz (wSt I n o ++ wHi I O hh ha ad x) (fun ad9 : Nat → Nat → Nat => wSt I n o ++ wHi I O hh ha ad9 y0)) := by
  refine mM_open (own := RX0) rfl (by decide +kernel) (Nat.le_of_ble_eq_true rfl) (fun p e s m below meth c ls E hnm hsz hw hl => ?_)
  obtain ⟨ws0, hws⟩ : ∃ ws0 : va_W, ws0 = wSt I n o ++ wHi I O hh ha ad x := ⟨_, rfl⟩
  have hw : fy D (va_A ws0 sz) s.heap s.heap [] (wSt I n o ++ wHi I O hh ha ad x) := by rw [hws]; exact hw
  rw [← hws]
  have hx := E.1
  have hb := E.2.1
  have hl : lv_has ls 3 [(0, .ref hh), (1, .ref (n 0))] := hl
  unfold f_X0_save at hf
  refine lv_aload_n hx hb dX0_save_0 rfl (lv_at hl 0 rfl) ?_
  refine x_get E hw.1 12 rfl rfl in0 1 (by decide) q112 rfl rfl dX0_save_1 ?_
  refine lv_bipush (v := 6) hx hb dX0_save_4 (by decide) ?_
  refine lv_icmp_lt (tgt := 13) hx hb dX0_save_6 (by decide) (fun hc => ?_) (fun hc => ?_)
  · rw [if_pos hc] at hf
    exact k_X0_save_13 E hh ha ad n y0 x o hf _ _ hw _ hl
  rw [if_neg hc] at hf
  obtain ⟨z1, h, hf⟩ := bd_s hf
  refine lv_aload_n hx hb dX0_save_9 rfl (lv_at hl 0 rfl) ?_
  have hw : fy D (va_A ws0 sz) s.heap s.heap [] (wHi I O hh ha ad x ++ wSt I n o) := fy.sub hw [12, 13, 14, 15, 16, 17, 18, 19, 20, 21, 22, 23, 24, 25, 26, 27, 28, 29, 30, 31, 32, 33, 34, 35, 36, 37, 38, 39, 40, 41, 42, 43, 44, 45, 46, 47, 48, 49, 50, 51, 52, 53, 54, 55, 56, 57, 58, 59, 60, 61, 62, 63, 64, 65, 66, 67, 68, 69, 70, 71, 72, 73, 74, 75, 76, 77, 78, 79, 80, 81, 82, 83, 84, 85, 0, 1, 2, 3, 4, 5, 6, 7, 8, 9, 10, 11] rfl rfl
  refine x_mvF hw (x_rV E (As := []) (rest := []) (mt_X0_dropOldest l D I J O hh ha ad s.heap.size x z1 h) blM (x_recv E hw.1 0 0 rfl rfl rfl) (x_pcMF E hw) ok_X0_dropOldest q152 rfl hl.1 rfl (Nat.le_of_ble_eq_true rfl) ⟨Nat.le_of_ble_eq_true rfl, Nat.le_of_ble_eq_true rfl⟩ ⟨Nat.le_of_ble_eq_true rfl, Nat.le_of_ble_eq_true rfl⟩ dX0_save_10) (fun _ => rfl) (fun ad2 H locs hw => ?_)
  have hw : fy D (va_A ws0 sz) s.heap H locs (wSt I n o ++ wHi I O hh ha ad2 z1) := fy.sub hw [74, 75, 76, 77, 78, 79, 80, 81, 82, 83, 84, 85, 0, 1, 2, 3, 4, 5, 6, 7, 8, 9, 10, 11, 12, 13, 14, 15, 16, 17, 18, 19, 20, 21, 22, 23, 24, 25, 26, 27, 28, 29, 30, 31, 32, 33, 34, 35, 36, 37, 38, 39, 40, 41, 42, 43, 44, 45, 46, 47, 48, 49, 50, 51, 52, 53, 54, 55, 56, 57, 58, 59, 60, 61, 62, 63, 64, 65, 66, 67, 68, 69, 70, 71, 72, 73] rfl rfl
  exact k_X0_save_13 E hh ha ad2 n y0 z1 o hf _ _ hw _ hl
theorem ok_X0_bringBack : yV yX0_bringBack cX0_bringBack 3 none 1 := ⟨q370, q5, q368, q369, by decide +kernel, by decide +kernel, by decide +kernel⟩
set_option maxRecDepth 100000 in
set_option maxHeartbeats 4000000 in
theorem mt_X0_bringBack (l : Launch) (D : va_G) (I J O : ClassId) (hh ha : Nat) (ad : Nat → Nat → Nat) (n : Nat → Nat) (sz : Nat) (x : HiC) (o : StC) (y0 : HiC) (y1 : StC) (hf : f_X0_bringBack x o = some (y0, y1)) : mM l yX0_bringBack cX0_bringBack 3 none 3 60 0 0 D I J O sz [.ref hh, .ref (n 0)] (wSt I n o ++ wHi I O hh ha ad x) (qMv D sz (wSt I n o ++ wHi I O hh ha ad x) (fun ad9 : Nat → Nat → Nat => wSt I n y1 ++ wHi I O hh ha ad9 y0)) := by
  refine mM_open (own := RX0) rfl (by decide +kernel) (Nat.le_of_ble_eq_true rfl) (fun p e s m below meth c ls E hnm hsz hw hl => ?_)
  obtain ⟨ws0, hws⟩ : ∃ ws0 : va_W, ws0 = wSt I n o ++ wHi I O hh ha ad x := ⟨_, rfl⟩
  have hw : fy D (va_A ws0 sz) s.heap s.heap [] (wSt I n o ++ wHi I O hh ha ad x) := by rw [hws]; exact hw
  rw [← hws]
  have hx := E.1
  have hb := E.2.1
  have hl : lv_has ls 3 [(0, .ref hh), (1, .ref (n 0))] := hl
  unfold f_X0_bringBack at hf
  refine lv_aload_n hx hb dX0_bringBack_0 rfl (lv_at hl 0 rfl) ?_
  refine x_get E hw.1 12 rfl rfl in0 1 (by decide) q112 rfl rfl dX0_bringBack_1 ?_
  refine lv_iconst (v := 1) hx hb dX0_bringBack_4 (by decide) ?_
  refine lv_icmp_lt (tgt := 17) hx hb dX0_bringBack_5 (by decide) (fun hc => ?_) (fun hc => ?_)
  · rw [if_pos hc] at hf
    obtain ⟨h0, h1⟩ := Prod.mk.inj (Option.some.inj hf)
    subst h0
    subst h1
    exact x_vM E ad hw dX0_bringBack_17
  rw [if_neg hc] at hf
  refine lv_aload_n hx hb dX0_bringBack_8 rfl (lv_at hl 0 rfl) ?_
  refine x_get E hw.1 12 rfl rfl in0 1 (by decide) q112 rfl rfl dX0_bringBack_9 ?_
  refine lv_bipush (v := 6) hx hb dX0_bringBack_12 (by decide) ?_
  refine lv_icmp_le (tgt := 18) hx hb dX0_bringBack_14 (by decide) (fun hc => ?_) (fun hc => ?_)
  · rw [if_pos hc] at hf
    obtain ⟨g, hf⟩ := gi_s hf
    obtain ⟨z1, h, hf⟩ := bd_s hf
    obtain ⟨h0, h1⟩ := Prod.mk.inj (Option.some.inj hf)
    subst h0
    subst h1
    refine lv_aload_n hx hb dX0_bringBack_18 rfl (lv_at hl 0 rfl) ?_
    refine lv_dup hx hb dX0_bringBack_19 rfl ?_
    refine x_get E hw.1 12 rfl rfl in0 1 (by decide) q112 rfl rfl dX0_bringBack_20 ?_
    refine lv_iconst (v := 1) hx hb dX0_bringBack_23 (by decide) ?_
    refine lv_isub hx hb dX0_bringBack_24 ?_
    refine x_put E hw 12 rfl rfl in0 tyX0_ok nmX0 1 (by decide) q112 rfl rfl rfl rfl (Nat.le_of_ble_eq_true rfl) dX0_bringBack_25 (fun H locs hw => ?_)
    have hw : fy D (va_A ws0 sz) s.heap H locs (wSt I n o ++ wHi I O hh ha ad (x.1, x.2 - 1)) := hw
    refine lv_aload_n hx hb dX0_bringBack_28 rfl (lv_at hl 0 rfl) ?_
    refine x_get E hw.1 12 rfl rfl in0 0 (by decide) q111 rfl rfl dX0_bringBack_29 ?_
    refine lv_aload_n hx hb dX0_bringBack_32 rfl (lv_at hl 0 rfl) ?_
    refine x_get E hw.1 12 rfl rfl in0 1 (by decide) q112 rfl rfl dX0_bringBack_33 ?_
    refine x_aldq E hw.1 13 rfl g dX0_bringBack_36 ?_
    rcases vp_in6 g with hk | hk | hk | hk | hk | hk
    · have hk2 : (x.2 - 1).toNatClampNeg = 0 := by rw [hk]; decide
      rw [hk2] at h
      refine W.eq (g2 := F0 m 37 ls [.ref (ad 0 0)]) (by show F0 m 37 ls [va_rf (some (ad (x.2 - 1).toNatClampNeg 0))] = _; rw [hk2]; rfl) ?_
      refine lv_astore_n (lv' := [(2, .ref (ad 0 0)), (0, .ref hh), (1, .ref (n 0))]) hx hb dX0_bringBack_37 rfl hl (by decide) rfl (fun ls hl => ?_)
      refine lv_aload_n hx hb dX0_bringBack_38 rfl (lv_at hl 0 rfl) ?_
      refine lv_ifnull hx hb dX0_bringBack_39 ?_
      refine lv_aload_n hx hb dX0_bringBack_42 rfl (lv_at hl 2 rfl) ?_
      refine lv_aload_n hx hb dX0_bringBack_43 rfl (lv_at hl 0 rfl) ?_
      have hw : fy D (va_A ws0 sz) s.heap H locs ((wSt I n o ++ wSt I (ad 0) (x.1 0)) ++ ((hh, .inr (0, [.ref ha, .int (x.2 - 1)])) :: (ha, .inl (O, 6, .inr (.inr (.inr (.inr (fun i => some (ad i 0))))))) :: (wSt I (ad 1) (x.1 1) ++ wSt I (ad 2) (x.1 2) ++ wSt I (ad 3) (x.1 3) ++ wSt I (ad 4) (x.1 4) ++ wSt I (ad 5) (x.1 5)))) := fy.sub hw [0, 1, 2, 3, 4, 5, 6, 7, 8, 9, 10, 11, 14, 15, 16, 17, 18, 19, 20, 21, 22, 23, 24, 25, 12, 13, 26, 27, 28, 29, 30, 31, 32, 33, 34, 35, 36, 37, 38, 39, 40, 41, 42, 43, 44, 45, 46, 47, 48, 49, 50, 51, 52, 53, 54, 55, 56, 57, 58, 59, 60, 61, 62, 63, 64, 65, 66, 67, 68, 69, 70, 71, 72, 73, 74, 75, 76, 77, 78, 79, 80, 81, 82, 83, 84, 85] rfl rfl
      refine x_mvF hw (x_rV E (As := [.ref (ad 0 0)]) (rest := []) (mt_X3_copyFrom l D I J O n (ad 0) H.size o (x.1 0) z1 h) blM (x_recv E hw.1 0 3 rfl rfl rfl) (x_pcMF E hw) ok_X3_copyFrom q156 rfl hl.1 rfl (Nat.le_of_ble_eq_true rfl) ⟨Nat.le_of_ble_eq_true rfl, Nat.le_of_ble_eq_true rfl⟩ ⟨Nat.le_of_ble_eq_true rfl, Nat.le_of_ble_eq_true rfl⟩ dX0_bringBack_44) (fun _ => rfl) (fun _ H locs hw => ?_)
      have hw : fy D (va_A ws0 sz) s.heap H locs ((wSt I n z1 ++ wSt I (ad 0) (x.1 0)) ++ ((hh, .inr (0, [.ref ha, .int (x.2 - 1)])) :: (ha, .inl (O, 6, .inr (.inr (.inr (.inr (fun i => some (ad i 0))))))) :: (wSt I (ad 1) (x.1 1) ++ wSt I (ad 2) (x.1 2) ++ wSt I (ad 3) (x.1 3) ++ wSt I (ad 4) (x.1 4) ++ wSt I (ad 5) (x.1 5)))) := hw
      have hw : fy D (va_A ws0 sz) s.heap H locs (wSt I n z1 ++ wHi I O hh ha ad (x.1, x.2 - 1)) := fy.sub hw [0, 1, 2, 3, 4, 5, 6, 7, 8, 9, 10, 11, 24, 25, 12, 13, 14, 15, 16, 17, 18, 19, 20, 21, 22, 23, 26, 27, 28, 29, 30, 31, 32, 33, 34, 35, 36, 37, 38, 39, 40, 41, 42, 43, 44, 45, 46, 47, 48, 49, 50, 51, 52, 53, 54, 55, 56, 57, 58, 59, 60, 61, 62, 63, 64, 65, 66, 67, 68, 69, 70, 71, 72, 73, 74, 75, 76, 77, 78, 79, 80, 81, 82, 83, 84, 85] rfl rfl
      exact x_vM E ad hw dX0_bringBack_47
    · have hk2 : (x.2 - 1).toNatClampNeg = 1 := by rw [hk]; decide
      rw [hk2] at h
      refine W.eq (g2 := F0 m 37 ls [.ref (ad 1 0)]) (by show F0 m 37 ls [va_rf (some (ad (x.2 - 1).toNatClampNeg 0))] = _; rw [hk2]; rfl) ?_
      refine lv_astore_n (lv' := [(2, .ref (ad 1 0)), (0, .ref hh), (1, .ref (n 0))]) hx hb dX0_bringBack_37 rfl hl (by decide) rfl (fun ls hl => ?_)
      refine lv_aload_n hx hb dX0_bringBack_38 rfl (lv_at hl 0 rfl) ?_
      refine lv_ifnull hx hb dX0_bringBack_39 ?_
      refine lv_aload_n hx hb dX0_bringBack_42 rfl (lv_at hl 2 rfl) ?_
      refine lv_aload_n hx hb dX0_bringBack_43 rfl (lv_at hl 0 rfl) ?_
      have hw : fy D (va_A ws0 sz) s.heap H locs ((wSt I n o ++ wSt I (ad 1) (x.1 1)) ++ ((hh, .inr (0, [.ref ha, .int (x.2 - 1)])) :: (ha, .inl (O, 6, .inr (.inr (.inr (.inr (fun i => some (ad i 0))))))) :: (wSt I (ad 0) (x.1 0) ++ wSt I (ad 2) (x.1 2) ++ wSt I (ad 3) (x.1 3) ++ wSt I (ad 4) (x.1 4) ++ wSt I (ad 5) (x.1 5)))) := fy.sub hw [0, 1, 2, 3, 4, 5, 6, 7, 8, 9, 10, 11, 26, 27, 28, 29, 30, 31, 32, 33, 34, 35, 36, 37, 12, 13, 14, 15, 16, 17, 18, 19, 20, 21, 22, 23, 24, 25, 38, 39, 40, 41, 42, 43, 44, 45, 46, 47, 48, 49, 50, 51, 52, 53, 54, 55, 56, 57, 58, 59, 60, 61, 62, 63, 64, 65, 66, 67, 68, 69, 70, 71, 72, 73, 74, 75, 76, 77, 78, 79, 80, 81, 82, 83, 84, 85] rfl rfl
      refine x_mvF hw (x_rV E (As := [.ref (ad 1 0)]) (rest := []) (mt_X3_copyFrom l D I J O n (ad 1) H.size o (x.1 1) z1 h) blM (x_recv E hw.1 0 3 rfl rfl rfl) (x_pcMF E hw) ok_X3_copyFrom q156 rfl hl.1 rfl (Nat.le_of_ble_eq_true rfl) ⟨Nat.le_of_ble_eq_true rfl, Nat.le_of_ble_eq_true rfl⟩ ⟨Nat.le_of_ble_eq_true rfl, Nat.le_of_ble_eq_true rfl⟩ dX0_bringBack_44) (fun _ => rfl) (fun _ H locs hw => ?_)
      have hw : fy D (va_A ws0 sz) s.heap H locs ((wSt I n z1 ++ wSt I (ad 1) (x.1 1)) ++ ((hh, .inr (0, [.ref ha, .int (x.2 - 1)])) :: (ha, .inl (O, 6, .inr (.inr (.inr (.inr (fun i => some (ad i 0))))))) :: (wSt I (ad 0) (x.1 0) ++ wSt I (ad 2) (x.1 2) ++ wSt I (ad 3) (x.1 3) ++ wSt I (ad 4) (x.1 4) ++ wSt I (ad 5) (x.1 5)))) := hw
      have hw : fy D (va_A ws0 sz) s.heap H locs (wSt I n z1 ++ wHi I O hh ha ad (x.1, x.2 - 1)) := fy.sub hw [0, 1, 2, 3, 4, 5, 6, 7, 8, 9, 10, 11, 24, 25, 26, 27, 28, 29, 30, 31, 32, 33, 34, 35, 36, 37, 12, 13, 14, 15, 16, 17, 18, 19, 20, 21, 22, 23, 38, 39, 40, 41, 42, 43, 44, 45, 46, 47, 48, 49, 50, 51, 52, 53, 54, 55, 56, 57, 58, 59, 60, 61, 62, 63, 64, 65, 66, 67, 68, 69, 70, 71, 72, 73, 74, 75, 76, 77, 78, 79, 80, 81, 82, 83, 84, 85] rfl rfl
      exact x_vM E ad hw dX0_bringBack_47
    · have hk2 : (x.2 - 1).toNatClampNeg = 2 := by rw [hk]; decide
      rw [hk2] at h
      refine W.eq (g2 := F0 m 37 ls [.ref (ad 2 0)]) (by show F0 m 37 ls [va_rf (some (ad (x.2 - 1).toNatClampNeg 0))] = _; rw [hk2]; rfl) ?_
      refine lv_astore_n (lv' := [(2, .ref (ad 2 0)), (0, .ref hh), (1, .ref (n 0))]) hx hb dX0_bringBack_37 rfl hl (by decide) rfl (fun ls hl => ?_)
      refine lv_aload_n hx hb dX0_bringBack_38 rfl (lv_at hl 0 rfl) ?_
      refine lv_ifnull hx hb dX0_bringBack_39 ?_
      refine lv_aload_n hx hb dX0_bringBack_42 rfl (lv_at hl 2 rfl) ?_
      refine lv_aload_n hx hb dX0_bringBack_43 rfl (lv_at hl 0 rfl) ?_
      have hw : fy D (va_A ws0 sz) s.heap H locs ((wSt I n o ++ wSt I (ad 2) (x.1 2)) ++ ((hh, .inr (0, [.ref ha, .int (x.2 - 1)])) :: (ha, .inl (O, 6, .inr (.inr (.inr (.inr (fun i => some (ad i 0))))))) :: (wSt I (ad 0) (x.1 0) ++ wSt I (ad 1) (x.1 1) ++ wSt I (ad 3) (x.1 3) ++ wSt I (ad 4) (x.1 4) ++ wSt I (ad 5) (x.1 5)))) := fy.sub hw [0, 1, 2, 3, 4, 5, 6, 7, 8, 9, 10, 11, 38, 39, 40, 41, 42, 43, 44, 45, 46, 47, 48, 49, 12, 13, 14, 15, 16, 17, 18, 19, 20, 21, 22, 23, 24, 25, 26, 27, 28, 29, 30, 31, 32, 33, 34, 35, 36, 37, 50, 51, 52, 53, 54, 55, 56, 57, 58, 59, 60, 61, 62, 63, 64, 65, 66, 67, 68, 69, 70, 71, 72, 73, 74, 75, 76, 77, 78, 79, 80, 81, 82, 83, 84, 85] rfl rfl
      refine x_mvF hw (x_rV E (As := [.ref (ad 2 0)]) (rest := []) (mt_X3_copyFrom l D I J O n (ad 2) H.size o (x.1 2) z1 h) blM (x_recv E hw.1 0 3 rfl rfl rfl) (x_pcMF E hw) ok_X3_copyFrom q156 rfl hl.1 rfl (Nat.le_of_ble_eq_true rfl) ⟨Nat.le_of_ble_eq_true rfl, Nat.le_of_ble_eq_true rfl⟩ ⟨Nat.le_of_ble_eq_true rfl, Nat.le_of_ble_eq_true rfl⟩ dX0_bringBack_44) (fun _ => rfl) (fun _ H locs hw => ?_)
      have hw : fy D (va_A ws0 sz) s.heap H locs ((wSt I n z1 ++ wSt I (ad 2) (x.1 2)) ++ ((hh, .inr (0, [.ref ha, .int (x.2 - 1)])) :: (ha, .inl (O, 6, .inr (.inr (.inr (.inr (fun i => some (ad i 0))))))) :: (wSt I (ad 0) (x.1 0) ++ wSt I (ad 1) (x.1 1) ++ wSt I (ad 3) (x.1 3) ++ wSt I (ad 4) (x.1 4) ++ wSt I (ad 5) (x.1 5)))) := hw
      have hw : fy D (va_A ws0 sz) s.heap H locs (wSt I n z1 ++ wHi I O hh ha ad (x.1, x.2 - 1)) := fy.sub hw [0, 1, 2, 3, 4, 5, 6, 7, 8, 9, 10, 11, 24, 25, 26, 27, 28, 29, 30, 31, 32, 33, 34, 35, 36, 37, 38, 39, 40, 41, 42, 43, 44, 45, 46, 47, 48, 49, 12, 13, 14, 15, 16, 17, 18, 19, 20, 21, 22, 23, 50, 51, 52, 53, 54, 55, 56, 57, 58, 59, 60, 61, 62, 63, 64, 65, 66, 67, 68, 69, 70, 71, 72, 73, 74, 75, 76, 77, 78, 79, 80, 81, 82, 83, 84, 85] rfl rfl
      exact x_vM E ad hw dX0_bringBack_47
    · have hk2 : (x.2 - 1).toNatClampNeg = 3 := by rw [hk]; decide
      rw [hk2] at h
      refine W.eq (g2 := F0 m 37 ls [.ref (ad 3 0)]) (by show F0 m 37 ls [va_rf (some (ad (x.2 - 1).toNatClampNeg 0))] = _; rw [hk2]; rfl) ?_
      refine lv_astore_n (lv' := [(2, .ref (ad 3 0)), (0, .ref hh), (1, .ref (n 0))]) hx hb dX0_bringBack_37 rfl hl (by decide) rfl (fun ls hl => ?_)
      refine lv_aload_n hx hb dX0_bringBack_38 rfl (lv_at hl 0 rfl) ?_
      refine lv_ifnull hx hb dX0_bringBack_39 ?_
      refine lv_aload_n hx hb dX0_bringBack_42 rfl (lv_at hl 2 rfl) ?_
      refine lv_aload_n hx hb dX0_bringBack_43 rfl (lv_at hl 0 rfl) ?_
      have hw : fy D (va_A ws0 sz) s.heap H locs ((wSt I n o ++ wSt I (ad 3) (x.1 3)) ++ ((hh, .inr (0, [.ref ha, .int (x.2 - 1)])) :: (ha, .inl (O, 6, .inr (.inr (.inr (.inr (fun i => some (ad i 0))))))) :: (wSt I (ad 0) (x.1 0) ++ wSt I (ad 1) (x.1 1) ++ wSt I (ad 2) (x.1 2) ++ wSt I (ad 4) (x.1 4) ++ wSt I (ad 5) (x.1 5)))) := fy.sub hw [0, 1, 2, 3, 4, 5, 6, 7, 8, 9, 10, 11, 50, 51, 52, 53, 54, 55, 56, 57, 58, 59, 60, 61, 12, 13, 14, 15, 16, 17, 18, 19, 20, 21, 22, 23, 24, 25, 26, 27, 28, 29, 30, 31, 32, 33, 34, 35, 36, 37, 38, 39, 40, 41, 42, 43, 44, 45, 46, 47, 48, 49, 62, 63, 64, 65, 66, 67, 68, 69, 70, 71, 72, 73, 74, 75, 76, 77, 78, 79, 80, 81, 82, 83, 84, 85] rfl rfl
      refine x_mvF hw (x_rV E (As := [.ref (ad 3 0)]) (rest := []) (mt_X3_copyFrom l D I J O n (ad 3) H.size o (x.1 3) z1 h) blM (x_recv E hw.1 0 3 rfl rfl rfl) (x_pcMF E hw) ok_X3_copyFrom q156 rfl hl.1 rfl (Nat.le_of_ble_eq_true rfl) ⟨Nat.le_of_ble_eq_true rfl, Nat.le_of_ble_eq_true rfl⟩ ⟨Nat.le_of_ble_eq_true rfl, Nat.le_of_ble_eq_true rfl⟩ dX0_bringBack_44) (fun _ => rfl) (fun _ H locs hw => ?_)
      have hw : fy D (va_A ws0 sz) s.heap H locs ((wSt I n z1 ++ wSt I (ad 3) (x.1 3)) ++ ((hh, .inr (0, [.ref ha, .int (x.2 - 1)])) :: (ha, .inl (O, 6, .inr (.inr (.inr (.inr (fun i => some (ad i 0))))))) :: (wSt I (ad 0) (x.1 0) ++ wSt I (ad 1) (x.1 1) ++ wSt I (ad 2) (x.1 2) ++ wSt I (ad 4) (x.1 4) ++ wSt I (ad 5) (x.1 5)))) := hw
      have hw : fy D (va_A ws0 sz) s.heap H locs (wSt I n z1 ++ wHi I O hh ha ad (x.1, x.2 - 1)) := fy.sub hw [0, 1, 2, 3, 4, 5, 6, 7, 8, 9, 10, 11, 24, 25, 26, 27, 28, 29, 30, 31, 32, 33, 34, 35, 36, 37, 38, 39, 40, 41, 42, 43, 44, 45, 46, 47, 48, 49, 50, 51, 52, 53, 54, 55, 56, 57, 58, 59, 60, 61, 12, 13, 14, 15, 16, 17, 18, 19, 20, 21, 22, 23, 62, 63, 64, 65, 66, 67, 68, 69, 70, 71, 72, 73, 74, 75, 76, 77, 78, 79, 80, 81, 82, 83, 84, 85] rfl rfl
      exact x_vM E ad hw dX0_bringBack_47
    · have hk2 : (x.2 - 1).toNatClampNeg = 4 := by rw [hk]; decide
      rw [hk2] at h
      refine W.eq (g2 := F0 m 37 ls [.ref (ad 4 0)]) (by show F0 m 37 ls [va_rf (some (ad (x.2 - 1).toNatClampNeg 0))] = _; rw [hk2]; rfl) ?_
      refine lv_astore_n (lv' := [(2, .ref (ad 4 0)), (0, .ref hh), (1, .ref (n 0))]) hx hb dX0_bringBack_37 rfl hl (by decide) rfl (fun ls hl => ?_)
      refine lv_aload_n hx hb dX0_bringBack_38 rfl (lv_at hl 0 rfl) ?_
      refine lv_ifnull hx hb dX0_bringBack_39 ?_
      refine lv_aload_n hx hb dX0_bringBack_42 rfl (lv_at hl 2 rfl) ?_
      refine lv_aload_n hx hb dX0_bringBack_43 rfl (lv_at hl 0 rfl) ?_
      have hw : fy D (va_A ws0 sz) s.heap H locs ((wSt I n o ++ wSt I (ad 4) (x.1 4)) ++ ((hh, .inr (0, [.ref ha, .int (x.2 - 1)])) :: (ha, .inl (O, 6, .inr (.inr (.inr (.inr (fun i => some (ad i 0))))))) :: (wSt I (ad 0) (x.1 0) ++ wSt I (ad 1) (x.1 1) ++ wSt I (ad 2) (x.1 2) ++ wSt I (ad 3) (x.1 3) ++ wSt I (ad 5) (x.1 5)))) := fy.sub hw [0, 1, 2, 3, 4, 5, 6, 7, 8, 9, 10, 11, 62, 63, 64, 65, 66, 67, 68, 69, 70, 71, 72, 73, 12, 13, 14, 15, 16, 17, 18, 19, 20, 21, 22, 23, 24, 25, 26, 27, 28, 29, 30, 31, 32, 33, 34, 35, 36, 37, 38, 39, 40, 41, 42, 43, 44, 45, 46, 47, 48, 49, 50, 51, 52, 53, 54, 55, 56, 57, 58, 59, 60, 61, 74, 75, 76, 77, 78, 79, 80, 81, 82, 83, 84, 85] rfl rfl
      refine x_mvF hw (x_rV E (As := [.ref (ad 4 0)]) (rest := []) (mt_X3_copyFrom l D I J O n (ad 4) H.size o (x.1 4) z1 h) blM (x_recv E hw.1 0 3 rfl rfl rfl) (x_pcMF E hw) ok_X3_copyFrom q156 rfl hl.1 rfl (Nat.le_of_ble_eq_true rfl) ⟨Nat.le_of_ble_eq_true rfl, Nat.le_of_ble_eq_true rfl⟩ ⟨Nat.le_of_ble_eq_true rfl, Nat.le_of_ble_eq_true rfl⟩ dX0_bringBack_44) (fun _ => rfl) (fun _ H locs hw => ?_)
      have hw : fy D (va_A ws0 sz) s.heap H locs ((wSt I n z1 ++ wSt I (ad 4) (x.1 4)) ++ ((hh, .inr (0, [.ref ha, .int (x.2 - 1)])) :: (ha, .inl (O, 6, .inr (.inr (.inr (.inr (fun i => some (ad i 0))))))) :: (wSt I (ad 0) (x.1 0) ++ wSt I (ad 1) (x.1 1) ++ wSt I (ad 2) (x.1 2) ++ wSt I (ad 3) (x.1 3) ++ wSt I (ad 5) (x.1 5)))) := hw
      have hw : fy D (va_A ws0 sz) s.heap H locs (wSt I n z1 ++ wHi I O hh ha ad (x.1, x.2 - 1)) := fy.sub hw [0, 1, 2, 3, 4, 5, 6, 7, 8, 9, 10, 11, 24, 25, 26, 27, 28, 29, 30, 31, 32, 33, 34, 35, 36, 37, 38, 39, 40, 41, 42, 43, 44, 45, 46, 47, 48, 49, 50, 51, 52, 53, 54, 55, 56, 57, 58, 59, 60, 61, 62, 63, 64, 65, 66, 67, 68, 69, 70, 71, 72, 73, 12, 13, 14, 15, 16, 17, 18, 19, 20, 21, 22, 23, 74, 75, 76, 77, 78, 79, 80, 81, 82, 83, 84, 85] rfl rfl
      exact x_vM E ad hw dX0_bringBack_47
    · have hk2 : (x.2 - 1).toNatClampNeg = 5 := by rw [hk]; decide
      rw [hk2] at h
      refine W.eq (g2 := F0 m 37 ls [.ref (ad 5 0)]) (by show F0 m 37 ls [va_rf (some (ad (x.2 - 1).toNatClampNeg 0))] = _; rw [hk2]; rfl) ?_
      refine lv_astore_n (lv' := [(2, .ref (ad 5 0)), (0, .ref hh), (1, .ref (n 0))]) hx hb dX0_bringBack_37 rfl hl (by decide) rfl (fun ls hl => ?_)
      refine lv_aload_n hx hb dX0_bringBack_38 rfl (lv_at hl 0 rfl) ?_
      refine lv_ifnull hx hb dX0_bringBack_39 ?_
      refine lv_aload_n hx hb dX0_bringBack_42 rfl (lv_at hl 2 rfl) ?_
      refine lv_aload_n hx hb dX0_bringBack_43 rfl (lv_at hl 0 rfl) ?_
      have hw : fy D (va_A ws0 sz) s.heap H locs ((wSt I n o ++ wSt I (ad 5) (x.1 5)) ++ ((hh, .inr (0, [.ref ha, .int (x.2 - 1)])) :: (ha, .inl (O, 6, .inr (.inr (.inr (.inr (fun i => some (ad i 0))))))) :: (wSt I (ad 0) (x.1 0) ++ wSt I (ad 1) (x.1 1) ++ wSt I (ad 2) (x.1 2) ++ wSt I (ad 3) (x.1 3) ++ wSt I (ad 4) (x.1 4)))) := fy.sub hw [0, 1, 2, 3, 4, 5, 6, 7, 8, 9, 10, 11, 74, 75, 76, 77, 78, 79, 80, 81, 82, 83, 84, 85, 12, 13, 14, 15, 16, 17, 18, 19, 20, 21, 22, 23, 24, 25, 26, 27, 28, 29, 30, 31, 32, 33, 34, 35, 36, 37, 38, 39, 40, 41, 42, 43, 44, 45, 46, 47, 48, 49, 50, 51, 52, 53, 54, 55, 56, 57, 58, 59, 60, 61, 62, 63, 64, 65, 66, 67, 68, 69, 70, 71, 72, 73] rfl rfl
      refine x_mvF hw (x_rV E (As := [.ref (ad 5 0)]) (rest := []) (mt_X3_copyFrom l D I J O n (ad 5) H.size o (x.1 5) z1 h) blM (x_recv E hw.1 0 3 rfl rfl rfl) (x_pcMF E hw) ok_X3_copyFrom q156 rfl hl.1 rfl (Nat.le_of_ble_eq_true rfl) ⟨Nat.le_of_ble_eq_true rfl, Nat.le_of_ble_eq_true rfl⟩ ⟨Nat.le_of_ble_eq_true rfl, Nat.le_of_ble_eq_true rfl⟩ dX0_bringBack_44) (fun _ => rfl) (fun _ H locs hw => ?_)
      have hw : fy D (va_A ws0 sz) s.heap H locs ((wSt I n z1 ++ wSt I (ad 5) (x.1 5)) ++ ((hh, .inr (0, [.ref ha, .int (x.2 - 1)])) :: (ha, .inl (O, 6, .inr (.inr (.inr (.inr (fun i => some (ad i 0))))))) :: (wSt I (ad 0) (x.1 0) ++ wSt I (ad 1) (x.1 1) ++ wSt I (ad 2) (x.1 2) ++ wSt I (ad 3) (x.1 3) ++ wSt I (ad 4) (x.1 4)))) := hw
      have hw : fy D (va_A ws0 sz) s.heap H locs (wSt I n z1 ++ wHi I O hh ha ad (x.1, x.2 - 1)) := fy.sub hw [0, 1, 2, 3, 4, 5, 6, 7, 8, 9, 10, 11, 24, 25, 26, 27, 28, 29, 30, 31, 32, 33, 34, 35, 36, 37, 38, 39, 40, 41, 42, 43, 44, 45, 46, 47, 48, 49, 50, 51, 52, 53, 54, 55, 56, 57, 58, 59, 60, 61, 62, 63, 64, 65, 66, 67, 68, 69, 70, 71, 72, 73, 74, 75, 76, 77, 78, 79, 80, 81, 82, 83, 84, 85, 12, 13, 14, 15, 16, 17, 18, 19, 20, 21, 22, 23] rfl rfl
      exact x_vM E ad hw dX0_bringBack_47
  · rw [if_neg hc] at hf
    obtain ⟨h0, h1⟩ := Prod.mk.inj (Option.some.inj hf)
    subst h0
    subst h1
    exact x_vM E ad hw dX0_bringBack_17
