/-! A walker goes to another place; a tombstone that nobody stands on any more goes. -/
def aSet (a : AbT) (i t : Nat) : AbT := (aC a, aN a, aS a, aE a, (fun k => if k = i then t else aP a k), aT a)
def aGo (a : AbT) (i t : Nat) : AbT := if 2 ≤ aP a i ∧ aW a (aP a i - 2) = 0 ∧ aOn (aSet a i t) (aP a i - 2) = 0 then aDel (aSet a i t) (aP a i - 2) else aSet a i t
theorem aSet.q {a : AbT} (ho : aOk a) {i t : Nat} (ht : t < aN a + 2) : aOq (aSet a i t) (aP a i - 2) := by
  refine ⟨ho.1, ho.2.1, ho.2.2.1, ho.2.2.2.1, fun j hj h1 h2 => ?_, fun k hk => ?_, ho.2.2.2.2.2.2⟩
  · obtain ⟨i2, g1, g2⟩ := ho.2.2.2.2.1 j hj h1
    refine ⟨i2, g1, ?_⟩
    show (if i2 = i then t else aP a i2) = j + 2
    rw [if_neg (fun h3 => by subst h3; omega)]
    exact g2
  · show (if k = i then t else aP a k) < aN a + 2
    by_cases h1 : k = i
    · rw [if_pos h1]; exact ht
    · rw [if_neg h1]; exact ho.2.2.2.2.2.1 k hk
theorem aGo.ok {a : AbT} (ho : aOk a) {i t : Nat} (hi : i < 4) (ht : t < aN a + 2) : aOk (aGo a i t) := by
  have h0 := ho.2.2.2.2.2.1 i hi
  unfold aGo
  by_cases h1 : 2 ≤ aP a i ∧ aW a (aP a i - 2) = 0 ∧ aOn (aSet a i t) (aP a i - 2) = 0
  · rw [if_pos h1]
    exact aDel.ok (aSet.q ho ht) (by show aP a i - 2 < aN a; omega) (aOn.zero.mp h1.2.2)
  · rw [if_neg h1]
    by_cases h2 : 2 ≤ aP a i
    · exact (aSet.q ho ht).ok (fun h3 => aOn.some (fun h4 => h1 ⟨h2, h3, h4⟩))
    · refine ⟨ho.1, ho.2.1, ho.2.2.1, ho.2.2.2.1, fun j hj h3 => ?_, (aSet.q ho ht).2.2.2.2.2.1, ho.2.2.2.2.2.2⟩
      obtain ⟨i2, g1, g2⟩ := ho.2.2.2.2.1 j hj h3
      refine ⟨i2, g1, ?_⟩
      show (if i2 = i then t else aP a i2) = j + 2
      rw [if_neg (fun h3 => by subst h3; omega)]
      exact g2
theorem w_sweepT {a : AbT} {x : RwC} (hN : aN a ≤ 68) (hr : rV a x) {q : Nat} (hq : q < aN a) (hw : ¬ aW a q = 0) (hb : aB a q < 64) : f_X1_sweep (nI q) x = some x := by
  unfold f_X1_sweep
  rw [w_isEntry1 hr.1 hq hN, Option.bind_some, if_neg (by decide), gi_in (by omega) (by decide), nI_clamp (by omega), hr.2.1 q hq, if_neg hw, if_neg (nI_m1 (by omega))]
theorem m_isThingW {m : Fn} {j w b : Nat} (hj : j < 68) (hm : m (70 + 5 * j) = if w = 0 then -1 else nI b) (hb : b < 64) : f_X6_isThing (nI j) m = some (if w = 0 then 0 else 1) := by
  unfold f_X6_isThing
  rw [li0, m_of (by omega), Option.bind_some, Nat.add_zero, hm]
  by_cases h3 : w = 0
  · rw [if_pos h3, if_pos h3, if_pos rfl]
  · rw [if_neg h3, if_neg h3, if_neg (nI_m1 (by omega))]
theorem m_isThing0 {m : Fn} {j : Nat} (hj : j < 68) (hm : m (70 + 5 * j) = -1) : f_X6_isThing (nI j) m = some 0 :=
  m_isThingW (w := 0) (b := 0) hj (by rw [hm, if_pos rfl]) (by omega)
theorem m_isThing1 {m : Fn} {j b : Nat} (hj : j < 68) (hm : m (70 + 5 * j) = nI b) (hb : b < 64) : f_X6_isThing (nI j) m = some 1 :=
  m_isThingW (w := 1) (b := b) hj (by rw [hm, if_neg (by omega)]) hb
theorem w_isWalker {i : Nat} (hi : i < 4) : f_X5_isWalker (nI i) = some 1 := by
  unfold f_X5_isWalker
  rw [if_neg (nI_pos (by omega)), li4, if_neg (nI_ge hi (by omega))]
theorem w_send {a : AbT} {x : RwC} (ho : aOk a) (hr : rV a x) {i t : Nat} (hi : i < 4) (ht : t < aN a + 2) : ∃ y, f_X1_send (nI i) (pC t) x = some y ∧ rV (aGo a i t) y := by
  have hN := ho.2.1
  have h0 := ho.2.2.2.2.2.1 i hi
  have hS : rV (aSet a i t) (x.1, x.2.1, upd x.2.2 i (pC t)) := by
    refine ⟨hr.1, hr.2.1, fun k hk => ?_⟩
    show upd x.2.2 i (pC t) k = pC (if k = i then t else aP a k)
    by_cases h1 : k = i
    · rw [h1, up_eq, if_pos rfl]
    · rw [up_ne _ _ h1, if_neg h1]; exact hr.2.2 k hk
  unfold f_X1_send
  rw [w_isWalker hi, Option.bind_some, if_neg (by decide), gi_in (by omega) (by decide), gi_in (by omega) (by decide), nI_clamp (by omega), hr.2.2 i hi]
  unfold aGo
  by_cases h2 : 2 ≤ aP a i
  · have h3 : pC (aP a i) = nI (aP a i - 2) := by unfold pC; rw [if_neg (by omega), if_neg (by omega)]
    rw [h3]
    by_cases h4 : aW a (aP a i - 2) = 0
    · obtain ⟨y, g1, g2⟩ := w_sweep (a := aSet a i t) hN (aSet.q ho ht).2.2.2.2.2.1 hS (q := aP a i - 2) (by show aP a i - 2 < aN a; omega) h4
      rw [g1]
      refine ⟨y, rfl, ?_⟩
      by_cases h5 : aOn (aSet a i t) (aP a i - 2) = 0
      · rw [if_pos ⟨h2, h4, h5⟩]; rw [if_pos h5] at g2; exact g2
      · rw [if_neg (fun h6 => h5 h6.2.2)]; rw [if_neg h5] at g2; exact g2
    · rw [if_neg (show ¬ (2 ≤ aP a i ∧ aW a (aP a i - 2) = 0 ∧ aOn (aSet a i t) (aP a i - 2) = 0) from fun h6 => h4 h6.2.1)]
      have h9 := ho.2.2.1 (aP a i - 2) (by omega) (by omega)
      have hC := aOk.C a ho
      rw [w_sweepT (a := aSet a i t) hN hS (q := aP a i - 2) (by show aP a i - 2 < aN a; omega) h4 (by show aB a (aP a i - 2) < 64; omega)]
      exact ⟨_, rfl, hS⟩
  · rw [if_neg (show ¬ (2 ≤ aP a i ∧ aW a (aP a i - 2) = 0 ∧ aOn (aSet a i t) (aP a i - 2) = 0) from fun h6 => h2 h6.1)]
    have h3 : pC (aP a i) < 0 := by
      unfold pC
      by_cases h4 : aP a i = 0
      · rw [if_pos h4]; decide
      · rw [if_neg h4, if_pos (by omega)]; decide
    unfold f_X1_sweep f_X1_isEntry
    rw [if_pos h3, Option.bind_some, if_pos rfl]
    exact ⟨_, rfl, hS⟩
theorem m_walks {a : AbT} {m : Fn} (ho : aOk a) (hm : mV a m) {i t : Nat} (hi : i < 4) (ht : t < aN a + 2) : ∃ m2, f_X6_walks (nI i) (pM t) m = some m2 ∧ mV (aGo a i t) m2 := by
  have hN := ho.2.1
  have h0 := ho.2.2.2.2.2.1 i hi
  have hS : mV (aSet a i t) (upd m (410 + i) (pM t)) := by
    refine ⟨by rw [up_ne _ _ (by omega)]; exact hm.1, by rw [up_ne _ _ (by omega)]; exact hm.2.1, fun k hk => by rw [up_ne _ _ (by omega)]; exact hm.2.2.1 k hk, fun c hc => by rw [up_ne _ _ (by omega)]; exact hm.2.2.2.1 c hc, fun j hj => ?_, fun k hk => ?_⟩
    · have hj9 : j < aN a := hj
      rw [up_ne _ _ (by omega), up_ne _ _ (by omega), up_ne _ _ (by omega), up_ne _ _ (by omega), up_ne _ _ (by omega)]
      exact hm.2.2.2.2.1 j hj
    · show upd m (410 + i) (pM t) (410 + k) = pM (if k = i then t else aP a k)
      by_cases h1 : k = i
      · rw [h1, up_eq, if_pos rfl]
      · rw [up_ne _ _ (by omega), if_neg h1]; exact hm.2.2.2.2.2 k hk
  have i1 : ∀ (kk : Option Fn), gi 1 414 kk = kk := fun kk => gi_in (c := 1) (by omega) (by decide)
  have c1 : (1 : Int32).toNatClampNeg = 1 := by decide
  unfold f_X6_walks
  rw [li410, nI_add, gi_in (by omega) (by decide), gi_in (by omega) (by decide), i1, nI_clamp (by omega), c1, hm.2.2.2.2.2 i hi, hS.2.1]
  unfold aGo
  show ∃ m2, (Option.bind (f_X6_in (pM (aP a i)) 0 (nI (aN a) - 1)) _) = some m2 ∧ _
  by_cases h2 : 2 ≤ aP a i
  · have h3 : pM (aP a i) = nI (aP a i - 2) := by unfold pM; rw [if_neg (by omega), if_neg (by omega)]
    have hmm : nI (aN a) - 1 = nI (aN a - 1) := by rw [li1, nI_sub (by omega)]
    have hEs := hS.2.2.2.2.1 (aP a i - 2) (by show aP a i - 2 < aN a; omega)
    rw [h3, hmm, li0, m_in1 (by omega) (by omega) (by omega) ⟨by omega, by omega⟩, Option.bind_some, if_neg (by decide)]
    by_cases h4 : aW a (aP a i - 2) = 0
    · rw [m_isThing0 (by omega) (by rw [hEs.1]; exact if_pos h4), Option.bind_some, if_pos li0, m_standing (a := aSet a i t) hN (aSet.q ho ht).2.2.2.2.2.1 hS.2.2.2.2.2 (by show aP a i - 2 < aN a; omega), Option.bind_some]
      have h8 := aOn.le (a := aSet a i t) (q := aP a i - 2)
      by_cases h5 : aOn (aSet a i t) (aP a i - 2) = 0
      · rw [h5, if_pos rfl, if_pos ⟨h2, h4, rfl⟩]
        obtain ⟨m2, g1, g2⟩ := m_drops (a := aSet a i t) hN (aSet.q ho ht).2.2.2.2.2.1 (hS.q (aP a i - 2)) (by show aP a i - 2 < aN a; omega) (aOn.zero.mp h5)
        rw [g1]
        exact ⟨m2, rfl, g2⟩
      · rw [if_neg (show ¬ nI (aOn (aSet a i t) (aP a i - 2)) = nI 0 from fun g2 => h5 ((nI_eq (by omega) (by omega)).mp g2)), if_neg (fun h6 => h5 h6.2.2)]
        exact ⟨_, rfl, hS⟩
    · have h9 := ho.2.2.1 (aP a i - 2) (by omega) (by omega)
      have hC := aOk.C a ho
      rw [m_isThing1 (b := aB a (aP a i - 2)) (by omega) (by rw [hEs.1]; exact if_neg h4) (by omega), Option.bind_some, if_neg (by decide), if_neg (show ¬ (2 ≤ aP a i ∧ aW a (aP a i - 2) = 0 ∧ aOn (aSet a i t) (aP a i - 2) = 0) from fun h6 => h4 h6.2.1)]
      exact ⟨_, rfl, hS⟩
  · have h3 : f_X6_in (pM (aP a i)) 0 (nI (aN a) - 1) = some 0 := by
      unfold f_X6_in pM
      by_cases h4 : aP a i = 0
      · rw [if_pos h4, if_pos (by decide)]
      · rw [if_neg h4, if_pos (show aP a i = 1 by omega), if_neg (by decide)]
        have h5 : nI (aN a) - 1 < 99 := by
          by_cases h6 : aN a = 0
          · rw [h6]; decide
          · rw [li1, nI_sub (by omega), li99]; exact nI_lt (by omega) (by omega)
        rw [if_pos h5]
    rw [h3, Option.bind_some, if_pos rfl, if_neg (show ¬ (2 ≤ aP a i ∧ aW a (aP a i - 2) = 0 ∧ aOn (aSet a i t) (aP a i - 2) = 0) from fun h6 => h2 h6.1)]
    exact ⟨_, rfl, hS⟩
