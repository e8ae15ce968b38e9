set_option maxRecDepth 20000 in
theorem e_J6_bitCount_0f7a4 {d : Nat} {K : x_T → Int32 → Prop} {v0 : Int32} {τ : x_T} (h : ∀ y1, y1 = v0 - (((v0.toUInt32 >>> ((1 : Int32).toUInt32 &&& Int32.toUInt32 31)).toInt32) &&& 1431655765) → (∀ y2, y2 = (y1 &&& 858993459) + (((y1.toUInt32 >>> ((2 : Int32).toUInt32 &&& Int32.toUInt32 31)).toInt32) &&& 858993459) → (∀ y3, y3 = (y2 + ((y2.toUInt32 >>> ((4 : Int32).toUInt32 &&& Int32.toUInt32 31)).toInt32)) &&& 252645135 → (∀ y4, y4 = y3 + ((y3.toUInt32 >>> ((8 : Int32).toUInt32 &&& Int32.toUInt32 31)).toInt32) → (∀ y5, y5 = y4 + ((y4.toUInt32 >>> ((16 : Int32).toUInt32 &&& Int32.toUInt32 31)).toInt32) → (K τ (y5 &&& 63))))))) : x_CI d mJ6_bitCount_0f7a4 [.int v0] τ K := by
  refine x_CI_of (by decide) (Nat.le_of_ble_eq_true rfl) ?_
  show x_WI d mJ6_bitCount_0f7a4 K 0 [(0, .int v0)] [] τ
  refine o_iload_n (k := 0) 0 (by decide +kernel) rfl ?_
  refine o_iload_n (k := 0) 0 (by decide +kernel) rfl ?_
  refine o_iconst (n := 1) (v := 1) (by decide +kernel) (by decide) ?_
  refine o_iushr (by decide +kernel) ?_
  refine o_ldcw (i := 265) (v := 1431655765) (by decide +kernel) lk_1318 ?_
  refine o_iand (by decide +kernel) ?_
  refine o_isub (by decide +kernel) ?_
  refine o_name (fun y1 ey1 => ?_)
  replace h := h y1 ey1
  refine o_istore_n (k := 0) (L' := [(0, .int y1)]) (by decide +kernel) (by decide) rfl ?_
  refine o_iload_n (k := 0) 0 (by decide +kernel) rfl ?_
  refine o_ldcw (i := 266) (v := 858993459) (by decide +kernel) lk_1319 ?_
  refine o_iand (by decide +kernel) ?_
  refine o_iload_n (k := 0) 0 (by decide +kernel) rfl ?_
  refine o_iconst (n := 2) (v := 2) (by decide +kernel) (by decide) ?_
  refine o_iushr (by decide +kernel) ?_
  refine o_ldcw (i := 266) (v := 858993459) (by decide +kernel) lk_1319 ?_
  refine o_iand (by decide +kernel) ?_
  refine o_iadd (by decide +kernel) ?_
  refine o_name (fun y2 ey2 => ?_)
  replace h := h y2 ey2
  refine o_istore_n (k := 0) (L' := [(0, .int y2)]) (by decide +kernel) (by decide) rfl ?_
  refine o_iload_n (k := 0) 0 (by decide +kernel) rfl ?_
  refine o_iload_n (k := 0) 0 (by decide +kernel) rfl ?_
  refine o_iconst (n := 4) (v := 4) (by decide +kernel) (by decide) ?_
  refine o_iushr (by decide +kernel) ?_
  refine o_iadd (by decide +kernel) ?_
  refine o_ldcw (i := 267) (v := 252645135) (by decide +kernel) lk_1320 ?_
  refine o_iand (by decide +kernel) ?_
  refine o_name (fun y3 ey3 => ?_)
  replace h := h y3 ey3
  refine o_istore_n (k := 0) (L' := [(0, .int y3)]) (by decide +kernel) (by decide) rfl ?_
  refine o_iload_n (k := 0) 0 (by decide +kernel) rfl ?_
  refine o_iload_n (k := 0) 0 (by decide +kernel) rfl ?_
  refine o_bipush (n := 8) (v := 8) (by decide +kernel) (by decide) ?_
  refine o_iushr (by decide +kernel) ?_
  refine o_iadd (by decide +kernel) ?_
  refine o_name (fun y4 ey4 => ?_)
  replace h := h y4 ey4
  refine o_istore_n (k := 0) (L' := [(0, .int y4)]) (by decide +kernel) (by decide) rfl ?_
  refine o_iload_n (k := 0) 0 (by decide +kernel) rfl ?_
  refine o_iload_n (k := 0) 0 (by decide +kernel) rfl ?_
  refine o_bipush (n := 16) (v := 16) (by decide +kernel) (by decide) ?_
  refine o_iushr (by decide +kernel) ?_
  refine o_iadd (by decide +kernel) ?_
  refine o_name (fun y5 ey5 => ?_)
  replace h := h y5 ey5
  refine o_istore_n (k := 0) (L' := [(0, .int y5)]) (by decide +kernel) (by decide) rfl ?_
  refine o_iload_n (k := 0) 0 (by decide +kernel) rfl ?_
  refine o_bipush (n := 63) (v := 63) (by decide +kernel) (by decide) ?_
  refine o_iand (by decide +kernel) ?_
  exact f_iret (ty := .int) rfl rfl (by decide +kernel) rfl h
