/-! A thing's value, or the number of times it was fired, is set. -/
def aSv (a : AbT) (q v : Nat) : AbT := (aC a, aN a, aS a, (aB a, aW a, (fun j => if j = q then v else aV a j), aK a, aF a), aP a, aT a)
def aSf (a : AbT) (q : Nat) (f : Int32) : AbT := (aC a, aN a, aS a, (aB a, aW a, aV a, aK a, fun j => if j = q then f else aF a j), aP a, aT a)
theorem aSv.ok {a : AbT} (ho : aOk a) {q v : Nat} (hv : v ≤ 999) : aOk (aSv a q v) := by
  refine ⟨ho.1, ho.2.1, fun j hj h1 => ?_, ho.2.2.2⟩
  have h2 := ho.2.2.1 j hj h1
  refine ⟨h2.1, h2.2.1, ?_, h2.2.2.2⟩
  show (if j = q then v else aV a j) ≤ 999
  by_cases h3 : j = q
  · rw [if_pos h3]; exact hv
  · rw [if_neg h3]; exact h2.2.2.1
theorem aSf.ok {a : AbT} (ho : aOk a) {q : Nat} {f : Int32} : aOk (aSf a q f) := ho
theorem w_setValue {a : AbT} {x : SlC} (ho : aOk a) (hv : sV a x) {q v : Nat} (hq : q < aN a) (hw : 0 < aW a q) : ∃ y, f_X2_setValue (nI (aB a q)) (nI v) x = some y ∧ sV (aSv a q v) y := by
  have hC := aOk.C a ho
  have h1 := ho.2.2.1 q hq hw
  unfold f_X2_setValue
  rw [c_isCell1 hv.1 (by omega) (by omega), Option.bind_some, if_neg (by decide), gi_in (by omega) (by decide), nI_clamp (by omega)]
  refine ⟨_, rfl, hv.1, hv.2.1, hv.2.2.1, hv.2.2.2.1, fun j hj h2 => ?_, hv.2.2.2.2.2⟩
  have h3 := hv.2.2.2.2.1 j hj h2
  refine ⟨h3.1, ?_, h3.2.2⟩
  show upd x.2.2.2.2.1 (aB a q) (nI v) (aB a j) = nI (if j = q then v else aV a j)
  by_cases h4 : j = q
  · rw [if_pos h4, h4, up_eq]
  · rw [if_neg h4, up_ne _ _ (fun h5 => h4 (aB.inj ho hj hq h2 hw h5))]
    exact h3.2.1
theorem w_setFired {a : AbT} {x : SlC} (ho : aOk a) (hv : sV a x) {q : Nat} {f : Int32} (hq : q < aN a) (hw : 0 < aW a q) : ∃ y, f_X2_setTimesFired (nI (aB a q)) f x = some y ∧ sV (aSf a q f) y := by
  have hC := aOk.C a ho
  have h1 := ho.2.2.1 q hq hw
  unfold f_X2_setTimesFired
  rw [c_isCell1 hv.1 (by omega) (by omega), Option.bind_some, if_neg (by decide), gi_in (by omega) (by decide), nI_clamp (by omega)]
  refine ⟨_, rfl, hv.1, hv.2.1, hv.2.2.1, hv.2.2.2.1, fun j hj h2 => ?_, hv.2.2.2.2.2⟩
  have h3 := hv.2.2.2.2.1 j hj h2
  refine ⟨h3.1, h3.2.1, h3.2.2.1, ?_⟩
  show upd x.2.2.2.2.2.2 (aB a q) f (aB a j) = (if j = q then f else aF a j)
  by_cases h4 : j = q
  · rw [if_pos h4, h4, up_eq]
  · rw [if_neg h4, up_ne _ _ (fun h5 => h4 (aB.inj ho hj hq h2 hw h5))]
    exact h3.2.2.2
theorem m_setV {a : AbT} {m : Fn} (ho : aOk a) (hm : mV a m) {q v : Nat} (hq : q < aN a) (hw : 0 < aW a q) : mV (aSv a q v) (upd m (70 + 5 * q + 2) (nI v)) := by
  have hN := ho.2.1
  refine ⟨by rw [up_ne _ _ (by omega)]; exact hm.1, by rw [up_ne _ _ (by omega)]; exact hm.2.1, fun k hk => by rw [up_ne _ _ (by omega)]; exact hm.2.2.1 k hk, fun c hc => by rw [up_ne _ _ (by omega)]; exact hm.2.2.2.1 c hc, fun j hj => ?_, fun k hk => by rw [up_ne _ _ (by omega)]; exact hm.2.2.2.2.2 k hk⟩
  have h1 := hm.2.2.2.2.1 j hj
  rw [up_ne _ _ (by omega), up_ne _ _ (by omega), up_ne m _ (show 70 + 5 * j + 3 ≠ 70 + 5 * q + 2 by omega), up_ne m _ (show 70 + 5 * j + 4 ≠ 70 + 5 * q + 2 by omega)]
  refine ⟨h1.1, h1.2.1, ?_, h1.2.2.2⟩
  show upd m (70 + 5 * q + 2) (nI v) (70 + 5 * j + 2) = nI (if aW a j = 0 then 0 else (if j = q then v else aV a j))
  by_cases h4 : j = q
  · rw [if_pos h4, h4, up_eq, if_neg (by omega)]
  · rw [if_neg h4, up_ne _ _ (by omega)]
    exact h1.2.2.1
theorem m_setF {a : AbT} {m : Fn} (ho : aOk a) (hm : mV a m) {q : Nat} {f : Int32} (hq : q < aN a) (hw : 0 < aW a q) : mV (aSf a q f) (upd m (70 + 5 * q + 4) f) := by
  have hN := ho.2.1
  refine ⟨by rw [up_ne _ _ (by omega)]; exact hm.1, by rw [up_ne _ _ (by omega)]; exact hm.2.1, fun k hk => by rw [up_ne _ _ (by omega)]; exact hm.2.2.1 k hk, fun c hc => by rw [up_ne _ _ (by omega)]; exact hm.2.2.2.1 c hc, fun j hj => ?_, fun k hk => by rw [up_ne _ _ (by omega)]; exact hm.2.2.2.2.2 k hk⟩
  have h1 := hm.2.2.2.2.1 j hj
  rw [up_ne _ _ (by omega), up_ne _ _ (by omega), up_ne m _ (show 70 + 5 * j + 2 ≠ 70 + 5 * q + 4 by omega), up_ne m _ (show 70 + 5 * j + 3 ≠ 70 + 5 * q + 4 by omega)]
  refine ⟨h1.1, h1.2.1, h1.2.2.1, h1.2.2.2.1, ?_⟩
  show upd m (70 + 5 * q + 4) f (70 + 5 * j + 4) = (if aW a j = 0 then 0 else (if j = q then f else aF a j))
  by_cases h4 : j = q
  · rw [if_pos h4, h4, up_eq, if_neg (by omega)]
  · rw [if_neg h4, up_ne _ _ (by omega)]
    exact h1.2.2.2.2
