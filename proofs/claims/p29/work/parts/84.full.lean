/-! How full the store is: a finite matter. -/
/-- the share of u cells of C -/
def shr (u C : Nat) : UInt64 := FP.ddiv (FP.i2d (nI u)) (FP.i2d (nI C))
/-- all that is asked of a share -/
def shOk (u C : Nat) : Bool := decide (shr u C &&& 0x7fffffffffffffff ≤ 0x7ff0000000000000) && decide (f_X5_bitsOfShare (shr u C) = some (shr u C).toInt64) && decide (f_Jxe99ae_doubleToLongBits_ccdee (shr u C) = some (shr u C).toInt64) && decide (Op.cmpValue (FP.dcmp (shr u C) (shr u C)) .l = 0)
theorem sh16 : ∀ u : Fin 17, shOk u 16 = true := by decide +kernel
theorem sh32 : ∀ u : Fin 33, shOk u 32 = true := by decide +kernel
theorem sh64 : ∀ u : Fin 65, shOk u 64 = true := by decide +kernel
theorem shr.all {a : AbT} (ho : aOk a) : (∀ {α : Type} (k : Option α), gf (shr (aUs a) (aC a)) k = k) ∧ f_X5_bitsOfShare (shr (aUs a) (aC a)) = some (shr (aUs a) (aC a)).toInt64 ∧ f_Jxe99ae_doubleToLongBits_ccdee (shr (aUs a) (aC a)) = some (shr (aUs a) (aC a)).toInt64 ∧ Op.cmpValue (FP.dcmp (shr (aUs a) (aC a)) (shr (aUs a) (aC a))) .l = 0 := by
  have h1 := aUs.le ho
  have h2 : shOk (aUs a) (aC a) = true := by
    rcases ho.1 with h | h | h <;> rw [h] at h1 ⊢
    · exact sh16 ⟨aUs a, by omega⟩
    · exact sh32 ⟨aUs a, by omega⟩
    · exact sh64 ⟨aUs a, by omega⟩
  unfold shOk at h2
  rw [Bool.and_eq_true, Bool.and_eq_true, Bool.and_eq_true] at h2
  obtain ⟨⟨⟨e1, e2⟩, e3⟩, e4⟩ := h2
  refine ⟨fun {α} k => ?_, of_decide_eq_true e2, of_decide_eq_true e3, of_decide_eq_true e4⟩
  unfold gf
  rw [if_pos (of_decide_eq_true e1)]
theorem w_fullness {a : AbT} {x : ClC} (ho : aOk a) (hx : cV a x.1) : f_X5_fullness x = some (shr (aUs a) (aC a)) := by
  have h1 := aUs.le ho
  have hC := aOk.C a ho
  unfold f_X5_fullness f_X2_cellsNow
  rw [Option.bind_some, hx.1.1, if_pos (show 0 < nI (aC a) by rw [li0]; exact nI_lt (by omega) (by omega)), w_freeCells ho hx.1, Option.bind_some, nI_sub (by omega), show aC a - (aC a - aUs a) = aUs a by omega]
  exact (shr.all ho).1 _
theorem m_full {a : AbT} {o : MdC} (ho : aOk a) (hm : mV a o.2.1) : f_X6_full o = some (shr (aUs a) (aC a)) := by
  have i0 : ∀ (kk : Option UInt64), gi 0 414 kk = kk := fun kk => gi_in (c := 0) (by omega) (by decide)
  have c0 : (0 : Int32).toNatClampNeg = 0 := by decide
  unfold f_X6_full
  rw [m_used ho hm, Option.bind_some, i0, c0, hm.1]
  exact (shr.all ho).1 _
