/-! What is refused: every call that the law's 'refused' makes throws, and leaves all as it was. -/
theorem cw0_1 {x : ClC} {p q r : Int32} (h : f_X5_put p q r x = some (.inl 1)) : f_L_call 0 p q r x = some ((-12 : Int32), x) := by
  unfold f_L_call
  rw [if_pos rfl, h]
  rfl
theorem cw0_2 {x : ClC} {p q r : Int32} (h : f_X5_put p q r x = some (.inl 2)) : f_L_call 0 p q r x = some ((-13 : Int32), x) := by
  unfold f_L_call
  rw [if_pos rfl, h]
  rfl
theorem cw1_3 {x : ClC} {p q r : Int32} (h : f_X5_putBehind p 5 q r x = some (.inl 3)) : f_L_call 1 p q r x = some ((-11 : Int32), x) := by
  unfold f_L_call
  rw [if_neg (by decide), if_pos rfl, h]
  rfl
theorem cw1_1 {x : ClC} {p q r : Int32} (h : f_X5_putBehind p 5 q r x = some (.inl 1)) : f_L_call 1 p q r x = some ((-12 : Int32), x) := by
  unfold f_L_call
  rw [if_neg (by decide), if_pos rfl, h]
  rfl
theorem cw1_2 {x : ClC} {p q r : Int32} (h : f_X5_putBehind p 5 q r x = some (.inl 2)) : f_L_call 1 p q r x = some ((-13 : Int32), x) := by
  unfold f_L_call
  rw [if_neg (by decide), if_pos rfl, h]
  rfl
theorem cw2_3 {x : ClC} {p q r : Int32} (h : f_X5_remove p x = some (.inl 3)) : f_L_call 2 p q r x = some ((-11 : Int32), x) := by
  unfold f_L_call
  rw [if_neg (by decide), if_neg (by decide), if_pos rfl, h]
  rfl
theorem cw3_3 {x : ClC} {p q r : Int32} (h : f_X5_change p q x = some (.inl 3)) : f_L_call 3 p q r x = some ((-11 : Int32), x) := by
  unfold f_L_call
  rw [if_neg (by decide), if_neg (by decide), if_neg (by decide), if_pos rfl, h]
  rfl
theorem cw3_1 {x : ClC} {p q r : Int32} (h : f_X5_change p q x = some (.inl 1)) : f_L_call 3 p q r x = some ((-12 : Int32), x) := by
  unfold f_L_call
  rw [if_neg (by decide), if_neg (by decide), if_neg (by decide), if_pos rfl, h]
  rfl
theorem cw4_3 {x : ClC} {p q r : Int32} (h : f_X5_restart p x = some (.inl 3)) : f_L_call 4 p q r x = some ((-11 : Int32), x) := by
  unfold f_L_call
  rw [if_neg (by decide), if_neg (by decide), if_neg (by decide), if_neg (by decide), if_pos rfl, h]
  rfl
theorem cw5_3 {x : ClC} {p q r : Int32} (h : f_X5_goOn p x = some (.inl 3)) : f_L_call 5 p q r x = some ((-11 : Int32), x) := by
  unfold f_L_call
  rw [if_neg (by decide), if_neg (by decide), if_neg (by decide), if_neg (by decide), if_neg (by decide), if_pos rfl, h]
  rfl
theorem cw6_3 {x : ClC} {p q r : Int32} (h : f_X5_take p x = some (.inl 3)) : f_L_call 6 p q r x = some ((-11 : Int32), x) := by
  unfold f_L_call
  rw [if_neg (by decide), if_neg (by decide), if_neg (by decide), if_neg (by decide), if_neg (by decide), if_neg (by decide), if_pos rfl, h]
  rfl
theorem cw6_2 {x : ClC} {p q r : Int32} (h : f_X5_take p x = some (.inl 2)) : f_L_call 6 p q r x = some ((-13 : Int32), x) := by
  unfold f_L_call
  rw [if_neg (by decide), if_neg (by decide), if_neg (by decide), if_neg (by decide), if_neg (by decide), if_neg (by decide), if_pos rfl, h]
  rfl
theorem cw7_1 {x : ClC} {p q r : Int32} (h : f_X5_append p x = some (.inl 1)) : f_L_call 7 p q r x = some ((-12 : Int32), x) := by
  unfold f_L_call
  rw [if_neg (by decide), if_neg (by decide), if_neg (by decide), if_neg (by decide), if_neg (by decide), if_neg (by decide), if_neg (by decide), if_pos rfl, h]
  rfl
theorem cw7_2 {x : ClC} {p q r : Int32} (h : f_X5_append p x = some (.inl 2)) : f_L_call 7 p q r x = some ((-13 : Int32), x) := by
  unfold f_L_call
  rw [if_neg (by decide), if_neg (by decide), if_neg (by decide), if_neg (by decide), if_neg (by decide), if_neg (by decide), if_neg (by decide), if_pos rfl, h]
  rfl
theorem cw8_1 {x : ClC} {p q r : Int32} (h : f_X5_putAll x = some (.inl 1)) : f_L_call 8 p q r x = some ((-12 : Int32), x) := by
  unfold f_L_call
  rw [if_neg (by decide), if_neg (by decide), if_neg (by decide), if_neg (by decide), if_neg (by decide), if_neg (by decide), if_neg (by decide), if_neg (by decide), if_pos rfl, h]
  rfl
theorem cw9_2 {x : ClC} {p q r : Int32} (h : f_X5_undo x = some (.inl 2)) : f_L_call 9 p q r x = some ((-13 : Int32), x) := by
  unfold f_L_call
  rw [if_neg (by decide), if_neg (by decide), if_neg (by decide), if_neg (by decide), if_neg (by decide), if_neg (by decide), if_neg (by decide), if_neg (by decide), if_neg (by decide), if_pos rfl, h]
  rfl
theorem cw10_3 {x : ClC} {p q r : Int32} (h : f_X5_thing p q x = some (.inl 3)) : f_L_call 10 p q r x = some ((-11 : Int32), x) := by
  unfold f_L_call
  rw [if_neg (by decide), if_neg (by decide), if_neg (by decide), if_neg (by decide), if_neg (by decide), if_neg (by decide), if_neg (by decide), if_neg (by decide), if_neg (by decide), if_neg (by decide), if_pos rfl, h]
  rfl
theorem cw10_1 {x : ClC} {p q r : Int32} (h : f_X5_thing p q x = some (.inl 1)) : f_L_call 10 p q r x = some ((-12 : Int32), x) := by
  unfold f_L_call
  rw [if_neg (by decide), if_neg (by decide), if_neg (by decide), if_neg (by decide), if_neg (by decide), if_neg (by decide), if_neg (by decide), if_neg (by decide), if_neg (by decide), if_neg (by decide), if_pos rfl, h]
  rfl
theorem cw11_1 {x : ClC} {p q r : Int32} (h : f_X5_at p x = some (.inl 1)) : f_L_call 11 p q r x = some ((-12 : Int32), x) := by
  unfold f_L_call
  rw [if_neg (by decide), if_neg (by decide), if_neg (by decide), if_neg (by decide), if_neg (by decide), if_neg (by decide), if_neg (by decide), if_neg (by decide), if_neg (by decide), if_neg (by decide), if_neg (by decide), if_pos rfl, h]
  rfl
theorem cw12_3 {x : ClC} {p q r : Int32} (h : f_X5_cell p q x = some (.inl 3)) : f_L_call 12 p q r x = some ((-11 : Int32), x) := by
  unfold f_L_call
  rw [if_neg (by decide), if_neg (by decide), if_neg (by decide), if_neg (by decide), if_neg (by decide), if_neg (by decide), if_neg (by decide), if_neg (by decide), if_neg (by decide), if_neg (by decide), if_neg (by decide), if_neg (by decide), if_pos rfl, h]
  rfl
theorem cw12_1 {x : ClC} {p q r : Int32} (h : f_X5_cell p q x = some (.inl 1)) : f_L_call 12 p q r x = some ((-12 : Int32), x) := by
  unfold f_L_call
  rw [if_neg (by decide), if_neg (by decide), if_neg (by decide), if_neg (by decide), if_neg (by decide), if_neg (by decide), if_neg (by decide), if_neg (by decide), if_neg (by decide), if_neg (by decide), if_neg (by decide), if_neg (by decide), if_pos rfl, h]
  rfl
theorem cw13_3 {x : ClC} {p q r : Int32} (h : f_X5_walker p q x = some (.inl 3)) : f_L_call 13 p q r x = some ((-11 : Int32), x) := by
  unfold f_L_call
  rw [if_neg (by decide), if_neg (by decide), if_neg (by decide), if_neg (by decide), if_neg (by decide), if_neg (by decide), if_neg (by decide), if_neg (by decide), if_neg (by decide), if_neg (by decide), if_neg (by decide), if_neg (by decide), if_neg (by decide), if_pos rfl, h]
  rfl
theorem cw13_1 {x : ClC} {p q r : Int32} (h : f_X5_walker p q x = some (.inl 1)) : f_L_call 13 p q r x = some ((-12 : Int32), x) := by
  unfold f_L_call
  rw [if_neg (by decide), if_neg (by decide), if_neg (by decide), if_neg (by decide), if_neg (by decide), if_neg (by decide), if_neg (by decide), if_neg (by decide), if_neg (by decide), if_neg (by decide), if_neg (by decide), if_neg (by decide), if_neg (by decide), if_pos rfl, h]
  rfl
theorem cw14_1 {x : ClC} {p q r : Int32} (h : f_X5_count p x = some (.inl 1)) : f_L_call 14 p q r x = some ((-12 : Int32), x) := by
  unfold f_L_call
  rw [if_neg (by decide), if_neg (by decide), if_neg (by decide), if_neg (by decide), if_neg (by decide), if_neg (by decide), if_neg (by decide), if_neg (by decide), if_neg (by decide), if_neg (by decide), if_neg (by decide), if_neg (by decide), if_neg (by decide), if_neg (by decide), if_pos rfl, h]
  rfl
theorem cw15_1 {x : ClC} {p q r : Int32} (h : f_X5_begins p x = some (.inl 1)) : f_L_call 15 p q r x = some ((-12 : Int32), x) := by
  unfold f_L_call
  rw [if_neg (by decide), if_neg (by decide), if_neg (by decide), if_neg (by decide), if_neg (by decide), if_neg (by decide), if_neg (by decide), if_neg (by decide), if_neg (by decide), if_neg (by decide), if_neg (by decide), if_neg (by decide), if_neg (by decide), if_neg (by decide), if_neg (by decide), if_pos rfl, h]
  rfl
theorem cw16_1 {x : ClC} {p q r : Int32} (h : f_X5_gap p x = some (.inl 1)) : f_L_call 16 p q r x = some ((-12 : Int32), x) := by
  unfold f_L_call
  rw [if_neg (by decide), if_neg (by decide), if_neg (by decide), if_neg (by decide), if_neg (by decide), if_neg (by decide), if_neg (by decide), if_neg (by decide), if_neg (by decide), if_neg (by decide), if_neg (by decide), if_neg (by decide), if_neg (by decide), if_neg (by decide), if_neg (by decide), if_neg (by decide), if_pos rfl, h]
  rfl
theorem cw17_1 {x : ClC} {p q r : Int32} (h : f_X5_ifFired p q x = some (.inl 1)) : f_L_call 17 p q r x = some ((-12 : Int32), x) := by
  unfold f_L_call
  rw [if_neg (by decide), if_neg (by decide), if_neg (by decide), if_neg (by decide), if_neg (by decide), if_neg (by decide), if_neg (by decide), if_neg (by decide), if_neg (by decide), if_neg (by decide), if_neg (by decide), if_neg (by decide), if_neg (by decide), if_neg (by decide), if_neg (by decide), if_neg (by decide), if_neg (by decide), if_pos rfl, h]
  rfl
theorem cw18_0 {x : ClC} {p r : Int32} (h : f_X5_room p 0 x = some (.inl 1)) : f_L_call 18 p 0 r x = some ((-12 : Int32), x) := by
  unfold f_L_call
  rw [if_neg (by decide), if_neg (by decide), if_neg (by decide), if_neg (by decide), if_neg (by decide), if_neg (by decide), if_neg (by decide), if_neg (by decide), if_neg (by decide), if_neg (by decide), if_neg (by decide), if_neg (by decide), if_neg (by decide), if_neg (by decide), if_neg (by decide), if_neg (by decide), if_neg (by decide), if_neg (by decide), if_pos (by decide), h]
  rfl
theorem cw18_1 {x : ClC} {p r : Int32} (h : f_X5_room p 1 x = some (.inl 1)) : f_L_call 18 p 1 r x = some ((-12 : Int32), x) := by
  unfold f_L_call
  rw [if_neg (by decide), if_neg (by decide), if_neg (by decide), if_neg (by decide), if_neg (by decide), if_neg (by decide), if_neg (by decide), if_neg (by decide), if_neg (by decide), if_neg (by decide), if_neg (by decide), if_neg (by decide), if_neg (by decide), if_neg (by decide), if_neg (by decide), if_neg (by decide), if_neg (by decide), if_neg (by decide), if_neg (by decide), h]
  rfl
section
variable {x : ClC} {p q r s : Int32}
theorem put_t (h : f_X5_isThing p q r = some 0) : f_X5_put p q r x = some (.inl 1) := by
  unfold f_X5_put
  rw [h, Option.bind_some, if_pos rfl]
theorem putB_t3 {z : Int32} (h : f_X2_whyRefused p x.1.1 = some z) (hz : ¬ z = 0) : f_X5_putBehind p q r s x = some (.inl 3) := by
  unfold f_X5_putBehind
  rw [h, Option.bind_some, if_neg hz]
theorem putB_t1 (h : f_X2_whyRefused p x.1.1 = some 0) (h2 : f_X5_isThing q r s = some 0) : f_X5_putBehind p q r s x = some (.inl 1) := by
  unfold f_X5_putBehind
  rw [h, Option.bind_some, if_pos rfl, h2, Option.bind_some, if_pos rfl]
theorem remove_t {z : Int32} (h : f_X2_whyRefused p x.1.1 = some z) (hz : ¬ z = 0) : f_X5_remove p x = some (.inl 3) := by
  unfold f_X5_remove
  rw [h, Option.bind_some, if_neg hz]
theorem change_t3 {z : Int32} (h : f_X2_whyRefused p x.1.1 = some z) (hz : ¬ z = 0) : f_X5_change p q x = some (.inl 3) := by
  unfold f_X5_change
  rw [h, Option.bind_some, if_neg hz]
theorem change_t1 (h : f_X2_whyRefused p x.1.1 = some 0) (h2 : f_X5_isValue q = some 0) : f_X5_change p q x = some (.inl 1) := by
  unfold f_X5_change
  rw [h, Option.bind_some, if_pos rfl, h2, Option.bind_some, if_pos rfl]
theorem restart_t (h : f_X5_isWalker p = some 0) : f_X5_restart p x = some (.inl 3) := by
  unfold f_X5_restart
  rw [h, Option.bind_some, if_pos rfl]
theorem goOn_t (h : f_X5_isWalker p = some 0) : f_X5_goOn p x = some (.inl 3) := by
  unfold f_X5_goOn
  rw [h, Option.bind_some, if_pos rfl]
theorem take_t (h : f_X5_isWalker p = some 0) : f_X5_take p x = some (.inl 3) := by
  unfold f_X5_take
  rw [h, Option.bind_some, if_pos rfl]
theorem take_t2 (h : f_X5_isWalker p = some 1) (h2 : f_X1_thingUnder p x.1.2.1 = some (-1)) : f_X5_take p x = some (.inl 2) := by
  unfold f_X5_take
  rw [h, Option.bind_some, if_neg (by decide), h2, Option.bind_some, if_pos rfl]
theorem append_t1 (h : p < 33) : f_X5_append p x = some (.inl 1) := by
  unfold f_X5_append
  rw [if_pos h]
theorem append_t2 (h : ¬ p < 33) (h2 : ¬ p ≤ 126) : f_X5_append p x = some (.inl 1) := by
  unfold f_X5_append
  rw [if_neg h, if_neg h2]
theorem putAll_t (hb : x.2.2.2.2 = nI 0) : f_X5_putAll x = some (.inl 1) := by
  have h1 : f_X4_isComplete x.2.2.2 = some 0 := by
    unfold f_X4_isComplete
    show f_X4_isComplete_4 (5999 + 1) 0 0 x.2.2.2 = some 0
    rw [f_X4_isComplete_4.eq_2, hb, if_pos (by decide), if_neg (by decide), if_neg (by decide)]
  unfold f_X5_putAll
  rw [h1, Option.bind_some, if_pos rfl]
theorem thing_t3 {z : Int32} (h : f_X2_whyRefused p x.1.1 = some z) (hz : ¬ z = 0) : f_X5_thing p q x = some (.inl 3) := by
  unfold f_X5_thing
  rw [h, Option.bind_some, if_neg hz]
theorem thing_t1 (h : f_X2_whyRefused p x.1.1 = some 0) (h0 : ¬ q = 0) (h1 : ¬ q = 1) (h2 : ¬ q = 2) (h3 : ¬ q = 3) (h4 : ¬ q = 4) (h5 : ¬ q = 5) : f_X5_thing p q x = some (.inl 1) := by
  unfold f_X5_thing
  rw [h, Option.bind_some, if_pos rfl, if_neg h0, if_neg h1, if_neg h2, if_neg h3, if_neg h4, if_neg h5]
theorem at_t (h : ¬ (0 : Int32) ≤ p) : f_X5_at p x = some (.inl 1) := by
  unfold f_X5_at
  rw [if_neg h]
theorem cell_t3 (h : f_X2_isCell p x.1.1 = some 0) : f_X5_cell p q x = some (.inl 3) := by
  unfold f_X5_cell
  rw [h, Option.bind_some, if_pos rfl]
theorem cell_t1 (h : f_X2_isCell p x.1.1 = some 1) (h0 : ¬ q = 0) (h1 : ¬ q = 1) : f_X5_cell p q x = some (.inl 1) := by
  unfold f_X5_cell
  rw [h, Option.bind_some, if_neg (by decide), if_neg h0, if_neg h1]
theorem walker_t3 (h : f_X5_isWalker p = some 0) : f_X5_walker p q x = some (.inl 3) := by
  unfold f_X5_walker
  rw [h, Option.bind_some, if_pos rfl]
theorem walker_t1 (h : f_X5_isWalker p = some 1) (h0 : ¬ q = 0) (h1 : ¬ q = 1) (h2 : ¬ q = 2) : f_X5_walker p q x = some (.inl 1) := by
  unfold f_X5_walker
  rw [h, Option.bind_some, if_neg (by decide), if_neg h0, if_neg h1, if_neg h2]
theorem count_t (h0 : ¬ p = 0) (h1 : ¬ p = 1) (h2 : ¬ p = 2) (h3 : ¬ p = 3) (h4 : ¬ p = 4) (h5 : ¬ p = 5) (h6 : ¬ p = 6) (h7 : ¬ p = 7) (h8 : ¬ p = 8) (h9 : ¬ p = 9) : f_X5_count p x = some (.inl 1) := by
  unfold f_X5_count
  rw [if_neg h0, if_neg h1, if_neg h2, if_neg h3, if_neg h4, if_neg h5, if_neg h6, if_neg h7, if_neg h8, if_neg h9]
theorem begins_t (h : f_X5_isSize p = some 0) : f_X5_begins p x = some (.inl 1) := by
  unfold f_X5_begins
  rw [h, Option.bind_some, if_pos rfl]
theorem gap_t (h0 : ¬ p = 0) (h1 : ¬ p = 1) : f_X5_gap p x = some (.inl 1) := by
  unfold f_X5_gap
  rw [if_neg h0, if_neg h1]
theorem room_t (h : f_X5_isSize p = some 0) : f_X5_room p q x = some (.inl 1) := by
  unfold f_X5_room
  rw [h, Option.bind_some, if_pos rfl]
theorem fired_t1 (h : p < 1) : f_X5_ifFired p q x = some (.inl 1) := by
  unfold f_X5_ifFired
  rw [if_pos h]
theorem fired_t2 (h : ¬ p < 1) (h2 : 9 < p) : f_X5_ifFired p q x = some (.inl 1) := by
  unfold f_X5_ifFired
  rw [if_neg h, if_pos h2]
theorem fired_t3 (h : ¬ p < 1) (h2 : ¬ 9 < p) (h3 : q < 0) : f_X5_ifFired p q x = some (.inl 1) := by
  unfold f_X5_ifFired
  rw [if_neg h, if_neg h2, if_pos h3]
theorem fired_t4 (h : ¬ p < 1) (h2 : ¬ 9 < p) (h3 : ¬ q < 0) (h4 : ¬ q ≤ 2) : f_X5_ifFired p q x = some (.inl 1) := by
  unfold f_X5_ifFired
  rw [if_neg h, if_neg h2, if_neg h3, if_neg h4]
theorem why_neg (h : p < 0) : f_X2_whyRefused p x.1.1 = some 1 := by
  unfold f_X2_whyRefused
  rw [if_pos h]
end
/-- the handle with the next stamp is none -/
theorem why_next {a : AbT} {x : SlC} (ho : aOk a) (hv : sV a x) {j : Nat} (hj : j < aN a) (hw : 0 < aW a j) (hs : aS a (aB a j) ≤ 998) : f_X2_whyRefused (nI (aHd a j) + 1) x = some 2 := by
  have hC := aOk.C a ho
  have h9 := ho.2.2.1 j hj hw
  have hlt := aHd.lt ho hj hw
  have h1 : (aHd a j + 1) / 1000 = aB a j := by unfold aHd; omega
  have h2 : (aHd a j + 1) % 1000 = aS a (aB a j) + 1 := by unfold aHd; omega
  rw [nI_1]
  obtain ⟨r, r1, r2⟩ := w_whyRefused ho hv (p := aHd a j + 1) (by omega)
  rw [r1]
  rcases r2 with ⟨q1, q2, q3, q⟩ | ⟨q1, q2, q3, q⟩ | ⟨q1, q⟩ | ⟨q1, q2⟩
  · rw [h1, h2] at q3; omega
  · rw [h1, h2] at q3; omega
  · rw [q1]
  · rw [h1] at q2; omega
theorem why_far {a : AbT} {x : SlC} (ho : aOk a) (hv : sV a x) : f_X2_whyRefused (1000 * nI (aC a)) x = some 1 := by
  have hC := aOk.C a ho
  rw [li1000, nI_mul]
  obtain ⟨r, r1, r2⟩ := w_whyRefused ho hv (p := 1000 * aC a) (by omega)
  rw [r1]
  rcases r2 with ⟨q1, q2, q3, q⟩ | ⟨q1, q2, q3, q⟩ | ⟨q1, q2, q⟩ | ⟨q1, q2⟩
  · omega
  · omega
  · omega
  · rw [q1]
section
variable {a : AbT} {x : ClC}
/-- a walker that stands on no thing -/
theorem isr_walk (ho : aOk a) (hc : cV a x.1) {k : Nat} (hk : k < 4) : f_L_isRefused_117 (nI k) x = some (1, x) := by
  have h1 : f_X5_walker (nI k) 0 x = some (.inr (aStd a k)) := by
    unfold f_X5_walker
    rw [w_isWalker hk, Option.bind_some, if_neg (by decide), if_pos rfl, w_standOf ho hc.2.1 hk]
    rfl
  unfold f_L_isRefused_117 f_L_isRefused_141
  rw [h1, rt_r]
  by_cases h2 : aStd a k = 1
  · rw [if_pos h2]
  · have h3 : ¬ (2 ≤ aP a k ∧ ¬ aW a (aP a k - 2) = 0) := fun h4 => h2 (by
      unfold aStd
      rw [if_neg (by omega), if_neg (by omega), if_neg h4.2])
    have h4 : f_X1_thingUnder (nI k) x.1.2.1 = some (-1) := by rw [w_thingUnder ho hc.2.1 hk, if_neg h3]
    rw [if_neg h2, cw6_2 (take_t2 (w_isWalker hk) h4), Option.bind_some, if_pos rfl]
theorem isr (ho : aOk a) (hc : cV a x.1) (hS : ∀ c, c < 64 → aS a c ≤ 998) {k : Nat} (hk : k = 0 ∨ k = 1) : f_L_isRefused (nI k) x = some (1, x) := by
  have hC := aOk.C a ho
  have hT := aCnt.cells ho
  unfold f_L_isRefused
  rw [c_count0 ho hc, rt_r]
  by_cases h0 : aCnt a (aN a) = 0
  · rw [h0, if_pos (by decide)]
    exact isr_walk ho hc (by omega)
  · obtain ⟨r, r1, r2⟩ := w_at ho hc (p := 0) (by omega)
    rcases r2 with ⟨j, j1, j2, j3, j4⟩ | ⟨j1, j2⟩
    · have r1' : f_X5_at 0 x = some (.inr (nI (aHd a j))) := by rw [← j4]; exact r1
      have h9 := ho.2.2.1 j j1 (by omega)
      have hw := (w_own ho hc.1 j1 (by omega)).1
      have hn := why_next ho hc.1 j1 (by omega) (hS _ (by omega))
      have e1 : f_L_call 1 (nI (aHd a j)) 0 0 x = some (-12, x) := cw1_1 (putB_t1 hw (by decide))
      have e2 : f_L_call 1 (nI (aHd a j)) 1 3 x = some (-12, x) := cw1_1 (putB_t1 hw (by decide))
      have e3 : f_L_call 3 (nI (aHd a j)) (-1) 0 x = some (-12, x) := cw3_1 (change_t1 hw (by decide))
      have e4 : f_L_call 3 (nI (aHd a j)) 1000 0 x = some (-12, x) := cw3_1 (change_t1 hw (by decide))
      have e5 : f_L_call 10 (nI (aHd a j)) (-1) 0 x = some (-12, x) := cw10_1 (thing_t1 hw (by decide) (by decide) (by decide) (by decide) (by decide) (by decide))
      have e6 : f_L_call 10 (nI (aHd a j)) 6 0 x = some (-12, x) := cw10_1 (thing_t1 hw (by decide) (by decide) (by decide) (by decide) (by decide) (by decide))
      have e7 : f_L_call 2 (nI (aHd a j) + 1) 0 0 x = some (-11, x) := cw2_3 (remove_t hn (by decide))
      rw [if_neg (show ¬ nI (aCnt a (aN a)) ≤ 0 by rw [li0]; exact nI_ge (by omega) (by omega)), r1', rt_r, e1, Option.bind_some, if_pos rfl]
      unfold f_L_isRefused_25
      rw [r1', rt_r, e2, Option.bind_some, if_pos rfl, r1', rt_r]
      rcases hk with rfl | rfl
      · rw [if_pos (show nI 0 = 0 from rfl)]
        unfold f_L_isRefused_60
        rw [e3, Option.bind_some, if_pos rfl]
        unfold f_L_isRefused_69
        rw [r1', rt_r, if_pos (show nI 0 = 0 from rfl)]
        unfold f_L_isRefused_87
        rw [e5, Option.bind_some, if_pos rfl, r1', rt_r, e7, Option.bind_some, if_pos rfl]
        exact isr_walk ho hc (by omega)
      · rw [if_neg (by decide)]
        unfold f_L_isRefused_60
        rw [e4, Option.bind_some, if_pos rfl]
        unfold f_L_isRefused_69
        rw [r1', rt_r, if_neg (by decide)]
        unfold f_L_isRefused_87
        rw [e6, Option.bind_some, if_pos rfl, r1', rt_r, e7, Option.bind_some, if_pos rfl]
        exact isr_walk ho hc (by omega)
    · omega
theorem ra0 (ho : aOk a) (hc : cV a x.1) (hS : ∀ c, c < 64 → aS a c ≤ 998) (hb : x.2.2.2.2 = nI 0) : f_L_refusesAny 0 x = some (1, x) := by
  have hC := aOk.C a ho
  have hw : f_X2_whyRefused (-1) x.1.1 = some 1 := why_neg (by decide)
  have hcell : f_X2_isCell (-1) x.1.1 = some 0 := w_isCell_neg (by decide)
  have hc0 : f_X2_isCell 0 x.1.1 = some 1 := c_isCell1 (c := 0) hc.1.1 (by omega) (by omega)
  have e0 : f_L_call 0 (-1) 1 0 x = some (-12, x) := cw0_1 (put_t (by decide))
  have e1 : f_L_call 0 1 0 0 x = some (-12, x) := cw0_1 (put_t (by decide))
  have e2 : f_L_call 0 1 1 (-1) x = some (-12, x) := cw0_1 (put_t (by decide))
  have e3 : f_L_call 1 (-1) 9 9 x = some (-11, x) := cw1_3 (putB_t3 hw (by decide))
  have e4 : f_L_call 2 (-1) 0 0 x = some (-11, x) := cw2_3 (remove_t hw (by decide))
  have e5 : f_L_call 3 (-1) (-1) 0 x = some (-11, x) := cw3_3 (change_t3 hw (by decide))
  have e6 : f_L_call 4 (-1) 0 0 x = some (-11, x) := cw4_3 (restart_t (by decide))
  have e7 : f_L_call 5 (-1) 0 0 x = some (-11, x) := cw5_3 (goOn_t (by decide))
  have e8 : f_L_call 6 (-1) 0 0 x = some (-11, x) := cw6_3 (take_t (by decide))
  have e9 : f_L_call 7 32 0 0 x = some (-12, x) := cw7_1 (append_t1 (by decide))
  have e10 : f_L_call 8 0 0 0 x = some (-12, x) := cw8_1 (putAll_t hb)
  have e11 : f_L_call 10 (-1) 9 0 x = some (-11, x) := cw10_3 (thing_t3 hw (by decide))
  have e12 : f_L_call 11 ((-1) - 0) 0 0 x = some (-12, x) := cw11_1 (at_t (by decide))
  have e13 : f_L_call 12 (-1) 9 0 x = some (-11, x) := cw12_3 (cell_t3 hcell)
  have e14 : f_L_call 12 0 (-1) 0 x = some (-12, x) := cw12_1 (cell_t1 hc0 (by decide) (by decide))
  have e15 : f_L_call 13 (-1) 9 0 x = some (-11, x) := cw13_3 (walker_t3 (by decide))
  have e16 : f_L_call 13 0 (-1) 0 x = some (-12, x) := cw13_1 (walker_t1 (by decide) (by decide) (by decide) (by decide))
  have e17 : f_L_call 14 (-1) 0 0 x = some (-12, x) := cw14_1 (count_t (by decide) (by decide) (by decide) (by decide) (by decide) (by decide) (by decide) (by decide) (by decide) (by decide))
  have e18 : f_L_call 15 0 0 0 x = some (-12, x) := cw15_1 (begins_t (by decide))
  have e19 : f_L_call 16 (-1) 0 0 x = some (-12, x) := cw16_1 (gap_t (by decide) (by decide))
  have e20 : f_L_call 17 0 0 0 x = some (-12, x) := cw17_1 (fired_t1 (by decide))
  have e21 : f_L_call 17 1 (-1) 0 x = some (-12, x) := cw17_1 (fired_t3 (by decide) (by decide) (by decide))
  have e22 : f_L_call 18 0 0 0 x = some (-12, x) := cw18_0 (room_t (by decide))
  have hi : f_L_isRefused 0 x = some (1, x) := isr ho hc hS (k := 0) (by omega)
  unfold f_L_refusesAny
  rw [if_pos rfl]
  unfold f_L_refusesAny_17
  rw [if_pos rfl]
  unfold f_L_refusesAny_27
  rw [if_pos rfl]
  unfold f_L_refusesAny_37
  rw [if_pos rfl]
  unfold f_L_refusesAny_50
  rw [e0, Option.bind_some, if_pos rfl, e1, Option.bind_some, if_pos rfl, if_pos rfl]
  unfold f_L_refusesAny_93
  rw [e2, Option.bind_some, if_pos rfl]
  unfold f_L_refusesAny_101
  rw [e3, Option.bind_some, if_pos rfl, e4, Option.bind_some, if_pos rfl, e5, Option.bind_some, if_pos rfl, e6, Option.bind_some, if_pos rfl]
  unfold f_L_refusesAny_155
  rw [e7, Option.bind_some, if_pos rfl, e8, Option.bind_some, if_pos rfl, if_pos rfl]
  unfold f_L_refusesAny_196
  rw [e9, Option.bind_some, if_pos rfl, e10, Option.bind_some, if_pos rfl]
  unfold f_L_refusesAny_220
  rw [e11, Option.bind_some, if_pos rfl, e12, Option.bind_some, if_pos rfl, if_pos rfl]
  unfold f_L_refusesAny_267
  rw [e13, Option.bind_some, if_pos rfl]
  unfold f_L_refusesAny_278
  rw [if_pos rfl]
  unfold f_L_refusesAny_291
  rw [e14, Option.bind_some, if_pos rfl, e15, Option.bind_some, if_pos rfl, if_pos rfl]
  unfold f_L_refusesAny_330
  rw [e16, Option.bind_some, if_pos rfl, if_pos rfl]
  unfold f_L_refusesAny_352
  rw [e17, Option.bind_some, if_pos rfl]
  unfold f_L_refusesAny_362
  rw [e18, Option.bind_some, if_pos rfl, if_pos rfl]
  unfold f_L_refusesAny_389
  rw [e19, Option.bind_some, if_pos rfl, if_pos rfl]
  unfold f_L_refusesAny_412
  rw [e20, Option.bind_some, if_pos rfl, if_pos rfl]
  unfold f_L_refusesAny_435
  rw [e21, Option.bind_some, if_pos rfl]
  unfold f_L_refusesAny_444
  rw [e22, Option.bind_some, if_pos rfl, hi, Option.bind_some, if_neg (show ¬ ((1 : Int32), x).1 = 0 from (by decide : ¬ (1 : Int32) = 0))]
theorem ra1 (ho : aOk a) (hc : cV a x.1) (hS : ∀ c, c < 64 → aS a c ≤ 998) (hb : x.2.2.2.2 = nI 0) : f_L_refusesAny 1 x = some (1, x) := by
  have hC := aOk.C a ho
  have hw : f_X2_whyRefused (1000 * nI (aC a)) x.1.1 = some 1 := why_far ho hc.1
  have hcell : f_X2_isCell (nI (aC a)) x.1.1 = some 0 := by rw [w_isCell ho hc.1 (by omega), if_neg (by omega)]
  have hc0 : f_X2_isCell 0 x.1.1 = some 1 := c_isCell1 (c := 0) hc.1.1 (by omega) (by omega)
  have e0 : f_L_call 0 1000 1 0 x = some (-12, x) := cw0_1 (put_t (by decide))
  have e1 : f_L_call 0 1 5 0 x = some (-12, x) := cw0_1 (put_t (by decide))
  have e2 : f_L_call 0 1 1 3 x = some (-12, x) := cw0_1 (put_t (by decide))
  have e3 : f_L_call 1 (1000 * nI (aC a)) 9 9 x = some (-11, x) := cw1_3 (putB_t3 hw (by decide))
  have e4 : f_L_call 2 (1000 * nI (aC a)) 0 0 x = some (-11, x) := cw2_3 (remove_t hw (by decide))
  have e5 : f_L_call 3 (1000 * nI (aC a)) (-1) 0 x = some (-11, x) := cw3_3 (change_t3 hw (by decide))
  have e6 : f_L_call 4 4 0 0 x = some (-11, x) := cw4_3 (restart_t (by decide))
  have e7 : f_L_call 5 4 0 0 x = some (-11, x) := cw5_3 (goOn_t (by decide))
  have e8 : f_L_call 6 4 0 0 x = some (-11, x) := cw6_3 (take_t (by decide))
  have e9 : f_L_call 7 127 0 0 x = some (-12, x) := cw7_1 (append_t2 (by decide) (by decide))
  have e10 : f_L_call 8 0 0 0 x = some (-12, x) := cw8_1 (putAll_t hb)
  have e11 : f_L_call 10 (1000 * nI (aC a)) 9 0 x = some (-11, x) := cw10_3 (thing_t3 hw (by decide))
  have e12 : f_L_call 11 ((-1) - 1) 0 0 x = some (-12, x) := cw11_1 (at_t (by decide))
  have e13 : f_L_call 12 (nI (aC a)) 9 0 x = some (-11, x) := cw12_3 (cell_t3 hcell)
  have e14 : f_L_call 12 0 2 0 x = some (-12, x) := cw12_1 (cell_t1 hc0 (by decide) (by decide))
  have e15 : f_L_call 13 4 9 0 x = some (-11, x) := cw13_3 (walker_t3 (by decide))
  have e16 : f_L_call 13 0 3 0 x = some (-12, x) := cw13_1 (walker_t1 (by decide) (by decide) (by decide) (by decide))
  have e17 : f_L_call 14 10 0 0 x = some (-12, x) := cw14_1 (count_t (by decide) (by decide) (by decide) (by decide) (by decide) (by decide) (by decide) (by decide) (by decide) (by decide))
  have e18 : f_L_call 15 5 0 0 x = some (-12, x) := cw15_1 (begins_t (by decide))
  have e19 : f_L_call 16 2 0 0 x = some (-12, x) := cw16_1 (gap_t (by decide) (by decide))
  have e20 : f_L_call 17 10 0 0 x = some (-12, x) := cw17_1 (fired_t2 (by decide) (by decide))
  have e21 : f_L_call 17 1 3 0 x = some (-12, x) := cw17_1 (fired_t4 (by decide) (by decide) (by decide) (by decide))
  have e22 : f_L_call 18 5 1 0 x = some (-12, x) := cw18_1 (room_t (by decide))
  have hi : f_L_isRefused 1 x = some (1, x) := isr ho hc hS (k := 1) (by omega)
  unfold f_L_refusesAny
  rw [if_neg (by decide), c_count2 hc, rt_r]
  unfold f_L_refusesAny_17
  rw [if_neg (by decide)]
  unfold f_L_refusesAny_27
  rw [if_neg (by decide)]
  unfold f_L_refusesAny_37
  rw [if_neg (by decide)]
  unfold f_L_refusesAny_50
  rw [e0, Option.bind_some, if_pos rfl, e1, Option.bind_some, if_pos rfl, if_neg (by decide)]
  unfold f_L_refusesAny_93
  rw [e2, Option.bind_some, if_pos rfl]
  unfold f_L_refusesAny_101
  rw [e3, Option.bind_some, if_pos rfl, e4, Option.bind_some, if_pos rfl, e5, Option.bind_some, if_pos rfl, e6, Option.bind_some, if_pos rfl]
  unfold f_L_refusesAny_155
  rw [e7, Option.bind_some, if_pos rfl, e8, Option.bind_some, if_pos rfl, if_neg (by decide)]
  unfold f_L_refusesAny_196
  rw [e9, Option.bind_some, if_pos rfl, e10, Option.bind_some, if_pos rfl]
  unfold f_L_refusesAny_220
  rw [e11, Option.bind_some, if_pos rfl, e12, Option.bind_some, if_pos rfl, if_neg (by decide), c_count2 hc, rt_r]
  unfold f_L_refusesAny_267
  rw [e13, Option.bind_some, if_pos rfl]
  unfold f_L_refusesAny_278
  rw [if_neg (by decide)]
  unfold f_L_refusesAny_291
  rw [e14, Option.bind_some, if_pos rfl, e15, Option.bind_some, if_pos rfl, if_neg (by decide)]
  unfold f_L_refusesAny_330
  rw [e16, Option.bind_some, if_pos rfl, if_neg (by decide)]
  unfold f_L_refusesAny_352
  rw [e17, Option.bind_some, if_pos rfl]
  unfold f_L_refusesAny_362
  rw [e18, Option.bind_some, if_pos rfl, if_neg (by decide)]
  unfold f_L_refusesAny_389
  rw [e19, Option.bind_some, if_pos rfl, if_neg (by decide)]
  unfold f_L_refusesAny_412
  rw [e20, Option.bind_some, if_pos rfl, if_neg (by decide)]
  unfold f_L_refusesAny_435
  rw [e21, Option.bind_some, if_pos rfl]
  unfold f_L_refusesAny_444
  rw [e22, Option.bind_some, if_pos rfl, hi, Option.bind_some, if_neg (show ¬ ((1 : Int32), x).1 = 0 from (by decide : ¬ (1 : Int32) = 0))]
end
theorem tryk_loop : ∀ (fu : Nat) (v1 v2 v3 : Int32) (x : ClC) (z : Int32 × ClC), f_X5_tryEvents_15 fu v1 v2 v3 x = some z → z.2.1 = x.1 ∧ z.2.2.2 = x.2.2 := by
  intro fu
  induction fu with
  | zero => intro v1 v2 v3 x z h; cases h
  | succ fu ih =>
    intro v1 v2 v3 x z h
    rw [f_X5_tryEvents_15.eq_2] at h
    by_cases h1 : v1 ≤ v3
    · rw [if_pos h1] at h
      cases h
      exact ⟨rfl, rfl⟩
    · rw [if_neg h1] at h
      obtain ⟨z2, h2, h⟩ := bd_s h
      have h9 := ih _ _ _ _ _ h
      exact h9
theorem try_keep {p : Int32} {x : ClC} {z : Int32 × ClC} (h : f_X5_tryEvents p x = some z) : z.2.1 = x.1 ∧ z.2.2.2 = x.2.2 := by
  unfold f_X5_tryEvents at h
  obtain ⟨z1, h1, h⟩ := bd_s h
  have h9 := tryk_loop _ _ _ _ _ _ h
  exact h9
theorem digk_loop : ∀ (fu : Nat) (v1 : Int64) (v3 : Int32) (x : ClC) (z : Int64 × ClC), f_X5_digest_6 fu v1 v3 x = some z → z.2.1 = x.1 ∧ z.2.2.2 = x.2.2 := by
  intro fu
  induction fu with
  | zero => intro v1 v3 x z h; cases h
  | succ fu ih =>
    intro v1 v3 x z h
    rw [f_X5_digest_6.eq_2] at h
    by_cases h1 : 9 < v3
    · rw [if_pos h1] at h
      obtain ⟨z1, -, h⟩ := bd_s h
      obtain ⟨z2, -, h⟩ := bd_s h
      obtain ⟨z3, -, h⟩ := bd_s h
      obtain ⟨z4, h4, h⟩ := bd_s h
      obtain ⟨z6, -, h⟩ := bd_s h
      obtain ⟨z7, -, h⟩ := bd_s h
      obtain ⟨z8, -, h⟩ := bd_s h
      obtain ⟨z9, -, h⟩ := bd_s h
      have h5 := try_keep h4
      cases h
      exact h5
    · rw [if_neg h1] at h
      obtain ⟨z10, -, h⟩ := rt_s h
      exact ih _ _ _ _ h
theorem Rel.now {x y : ClC} {o : MdC} (hR : Rel x o) (h1 : y.1 = x.1) (h2 : y.2.2 = x.2.2) : Rel y o := by
  unfold Rel at hR ⊢
  rw [h1, h2]
  exact hR
/-- the law's 'refused' says true, and leaves all but the trial -/
theorem refused_true {a : AbT} {x : ClC} {o : MdC} (ho : aOk a) (hc : cV a x.1) (hS : ∀ c, c < 64 → aS a c ≤ 998) (hb : x.2.2.2.2 = nI 0) (hR : Rel x o) : ∃ y, f_L_refused x = some (1, y) ∧ y.1 = x.1 ∧ y.2.2 = x.2.2 := by
  obtain ⟨H, x1, o1, d1, d2, -⟩ := digest_call hR
  have k1 : x1.1 = x.1 ∧ x1.2.2 = x.2.2 := digk_loop _ _ _ _ _ d1
  have c1 : cV a x1.1 := by rw [k1.1]; exact hc
  have b1 : x1.2.2.2.2 = nI 0 := by rw [k1.2]; exact hb
  obtain ⟨H2, x2, o2, e1, e2, -⟩ := digest_call (hR.now k1.1 k1.2)
  have k2 : x2.1 = x1.1 ∧ x2.2.2 = x1.2.2 := digk_loop _ _ _ _ _ e1
  have hH : H2 = H := (Prod.mk.inj (Option.some.inj (e2.symm.trans d2))).1
  have hz : lg_cmp H H = 0 := by
    unfold lg_cmp
    rw [if_neg (by simp), if_pos rfl]
  refine ⟨x2, ?_, k2.1.trans k1.1, k2.2.trans k1.2⟩
  unfold f_L_refused
  rw [d1, Option.bind_some]
  show (Option.bind (f_L_refusesAny 0 x1) _) = _
  rw [ra0 ho c1 hS b1, Option.bind_some, if_neg (show ¬ ((1 : Int32), x1).1 = 0 from (by decide : ¬ (1 : Int32) = 0))]
  show (Option.bind (f_L_refusesAny 1 x1) _) = _
  rw [ra1 ho c1 hS b1, Option.bind_some, if_neg (show ¬ ((1 : Int32), x1).1 = 0 from (by decide : ¬ (1 : Int32) = 0))]
  show (Option.bind (f_X5_digest x1) fun z7 => if lg_cmp z7.1 H = 0 then some ((1 : Int32), z7.2) else some (0, z7.2)) = _
  rw [e1, Option.bind_some]
  show (if lg_cmp H2 H = 0 then some ((1 : Int32), x2) else some (0, x2)) = _
  rw [hH, if_pos hz]
