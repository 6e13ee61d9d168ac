theorem ok_L_part : yS yL_part cL_part 2 (some .int) 2 := ⟨q439, q0, q438, by decide +kernel, by decide +kernel, by decide +kernel⟩
set_option maxRecDepth 100000 in
set_option maxHeartbeats 4000000 in
theorem mt_L_part (l : Launch) (D : va_G) (I J O : ClassId) (p0 : Int32) (p1 : Int32)  (r : Int32) (hf : f_L_part p0 p1 = some r) : mR l yL_part cL_part 2 (some .int) 0 0 D I J O [.int p0, .int p1] ([]) (qRi r) := by
  refine mR_open (own := RL) rfl (by decide +kernel) (Nat.le_of_ble_eq_true rfl) (fun p e s m below meth c ls E hP hl => ?_)
  have hx := E.1
  have hb := E.2.1
  have hl : lv_has ls 2 [(0, .int p0), (1, .int p1)] := hl
  unfold f_L_part at hf
  refine lv_iload_n hx hb dL_part_0 rfl (lv_at hl 0 rfl) ?_
  refine lv_ldc (v := 2147483647) hx hb E.2.2.2.1 (E.2.2.2.2.1 _ q440) dL_part_1 ?_
  refine lv_iand hx hb dL_part_3 ?_
  refine lv_iload_n hx hb dL_part_4 rfl (lv_at hl 1 rfl) ?_
  obtain ⟨g, hf⟩ := gd_s hf
  refine lv_irem hx hb dL_part_5 g ?_
  exact x_iR E (Option.some.inj hf) dL_part_6
