set_option maxRecDepth 20000 in
theorem e_X12_writes {d : Nat} {K : x_T → Prop} {v1 : Int32} {τ : x_T} (h : (¬ τ.1 370 23 = 30 → x_WV d mX12_writes K 50 [(0, .ref 345), (1, .int v1)] [] τ) ∧ (τ.1 370 23 = 30 → x_WV d mX12_writes K 15 [(0, .ref 345), (1, .int v1), (2, .int 24)] [] τ)) : x_CV d mX12_writes [.ref 345, .int v1] τ K := by
  refine x_CV_of (by decide) (Nat.le_of_ble_eq_true rfl) ?_
  show x_WV d mX12_writes K 0 [(0, .ref 345), (1, .int v1)] [] τ
  refine o_aload_n (k := 0) 0 (by decide +kernel) rfl ?_
  refine f_getR (r := 370) (t := 12) (k := 41) (i := 90) (by decide +kernel) sh_345 rfl (by decide) lk_1402 (by simp [x_ty, tyX12]) (gr_12_41 sh_345) ?_
  refine o_bipush (n := 23) (v := 23) (by decide +kernel) (by decide) ?_
  refine f_iald (k := 23) (by decide +kernel) sh_370 (by unfold vp_in; decide) (by decide) ?_
  refine o_bipush (n := 30) (v := 30) (by decide +kernel) (by decide) ?_
  refine o_icmp_ne (off := 41) 50 (by decide +kernel) (by decide) (fun q => ?_) (fun q => ?_)
  · replace h := h.1 q
    exact h
  · replace h := h.2 q
    refine o_bipush (n := 24) (v := 24) (by decide +kernel) (by decide) ?_
    refine o_istore_n (k := 2) (L' := [(2, .int 24), (0, .ref 345), (1, .int v1)]) (by decide +kernel) (by decide) rfl ?_
    refine o_sub [1, 2, 0] rfl ?_
    exact h
set_option maxRecDepth 20000 in
theorem k_X12_writes_15 {d : Nat} {K : x_T → Prop} {v1 : Int32} {v2 : Int32} {τ : x_T} (h : (111 ≤ v2 → ∀ t1, t1 = x_w1 τ 370 23 29 → (x_WV d mX12_writes K 50 [(0, .ref 345), (1, .int v1)] [] t1)) ∧ (¬ 111 ≤ v2 → vp_in (v2 + 3) 114 ∧ (vp_in v2 114 ∧ (∀ t2, t2 = x_w1 τ 370 v2.toNatClampNeg (τ.1 370 (v2 + 3).toNatClampNeg) → (∀ y3, y3 = v2 + 1 → (x_WV d mX12_writes K 15 [(0, .ref 345), (1, .int v1), (2, .int y3)] [] t2)))))) : x_WV d mX12_writes K 15 [(0, .ref 345), (1, .int v1), (2, .int v2)] [] τ := by
  refine o_iload_n (k := 2) 2 (by decide +kernel) rfl ?_
  refine o_bipush (n := 111) (v := 111) (by decide +kernel) (by decide) ?_
  refine o_icmp_ge (off := 23) 41 (by decide +kernel) (by decide) (fun q => ?_) (fun q => ?_)
  · replace h := h.1 q
    refine o_aload_n (k := 0) 0 (by decide +kernel) rfl ?_
    refine f_getR (r := 370) (t := 12) (k := 41) (i := 90) (by decide +kernel) sh_345 rfl (by decide) lk_1402 (by simp [x_ty, tyX12]) (gr_12_41 sh_345) ?_
    refine o_bipush (n := 23) (v := 23) (by decide +kernel) (by decide) ?_
    refine o_bipush (n := 29) (v := 29) (by decide +kernel) (by decide) ?_
    refine f_iast (k := 23) (by decide +kernel) sh_370 (by unfold vp_in; decide) (by decide) ?_
    refine f_name (fun t1 et1 => ?_)
    replace h := h t1 et1
    refine o_sub [0, 1] rfl ?_
    exact h
  · replace h := h.2 q
    refine o_aload_n (k := 0) 0 (by decide +kernel) rfl ?_
    refine f_getR (r := 370) (t := 12) (k := 41) (i := 90) (by decide +kernel) sh_345 rfl (by decide) lk_1402 (by simp [x_ty, tyX12]) (gr_12_41 sh_345) ?_
    refine o_iload_n (k := 2) 2 (by decide +kernel) rfl ?_
    refine o_aload_n (k := 0) 0 (by decide +kernel) rfl ?_
    refine f_getR (r := 370) (t := 12) (k := 41) (i := 90) (by decide +kernel) sh_345 rfl (by decide) lk_1402 (by simp [x_ty, tyX12]) (gr_12_41 sh_345) ?_
    refine o_iload_n (k := 2) 2 (by decide +kernel) rfl ?_
    refine o_iconst (n := 3) (v := 3) (by decide +kernel) (by decide) ?_
    refine o_iadd (by decide +kernel) ?_
    obtain ⟨hi, h⟩ := h
    refine f_iald (by decide +kernel) sh_370 hi rfl ?_
    obtain ⟨hi, h⟩ := h
    refine f_iast (by decide +kernel) sh_370 hi rfl ?_
    refine f_name (fun t2 et2 => ?_)
    replace h := h t2 et2
    obtain ⟨y3, ey3⟩ : ∃ y : Int32, y = v2 + 1 := ⟨_, rfl⟩
    replace h := h y3 ey3
    refine o_iinc (i := 2) (n := 1) (v := y3) (L' := [(2, .int y3), (0, .ref 345), (1, .int v1)]) 2 (by decide +kernel) rfl (by rw [ey3]; rfl) (by decide) rfl ?_
    refine o_goto (off := -23) 15 (by decide +kernel) (by decide) ?_
    refine o_sub [1, 2, 0] rfl ?_
    exact h
set_option maxRecDepth 20000 in
theorem k_X12_writes_50 {d : Nat} {K : x_T → Prop} {v1 : Int32} {τ : x_T} (h : ∀ y1, y1 = 24 + (3 * (τ.1 370 23)) → (vp_in y1 114 ∧ (∀ t2, t2 = x_w1 τ 370 y1.toNatClampNeg (τ.1 370 5) → (vp_in (y1 + 1) 114 ∧ (∀ t3, t3 = x_w1 t2 370 ((y1 + 1).toNatClampNeg) v1 → (vp_in (7 + v1) 114 ∧ (vp_in (y1 + 2) 114 ∧ (∀ t4, t4 = x_w1 t3 370 ((y1 + 2).toNatClampNeg) (-(t3.1 370 (7 + v1).toNatClampNeg)) → (∀ t5, t5 = x_w1 t4 370 23 ((t4.1 370 23) + 1) → (K t5)))))))))) : x_WV d mX12_writes K 50 [(0, .ref 345), (1, .int v1)] [] τ := by
  refine o_bipush (n := 24) (v := 24) (by decide +kernel) (by decide) ?_
  refine o_iconst (n := 3) (v := 3) (by decide +kernel) (by decide) ?_
  refine o_aload_n (k := 0) 0 (by decide +kernel) rfl ?_
  refine f_getR (r := 370) (t := 12) (k := 41) (i := 90) (by decide +kernel) sh_345 rfl (by decide) lk_1402 (by simp [x_ty, tyX12]) (gr_12_41 sh_345) ?_
  refine o_bipush (n := 23) (v := 23) (by decide +kernel) (by decide) ?_
  refine f_iald (k := 23) (by decide +kernel) sh_370 (by unfold vp_in; decide) (by decide) ?_
  refine o_imul (by decide +kernel) ?_
  refine o_iadd (by decide +kernel) ?_
  refine o_name (fun y1 ey1 => ?_)
  replace h := h y1 ey1
  refine o_istore_n (k := 2) (L' := [(2, .int y1), (0, .ref 345), (1, .int v1)]) (by decide +kernel) (by decide) rfl ?_
  refine o_aload_n (k := 0) 1 (by decide +kernel) rfl ?_
  refine f_getR (r := 370) (t := 12) (k := 41) (i := 90) (by decide +kernel) sh_345 rfl (by decide) lk_1402 (by simp [x_ty, tyX12]) (gr_12_41 sh_345) ?_
  refine o_iload_n (k := 2) 0 (by decide +kernel) rfl ?_
  refine o_aload_n (k := 0) 1 (by decide +kernel) rfl ?_
  refine f_getR (r := 370) (t := 12) (k := 41) (i := 90) (by decide +kernel) sh_345 rfl (by decide) lk_1402 (by simp [x_ty, tyX12]) (gr_12_41 sh_345) ?_
  refine o_iconst (n := 5) (v := 5) (by decide +kernel) (by decide) ?_
  refine f_iald (k := 5) (by decide +kernel) sh_370 (by unfold vp_in; decide) (by decide) ?_
  obtain ⟨hi, h⟩ := h
  refine f_iast (by decide +kernel) sh_370 hi rfl ?_
  refine f_name (fun t2 et2 => ?_)
  replace h := h t2 et2
  refine o_aload_n (k := 0) 1 (by decide +kernel) rfl ?_
  refine f_getR (r := 370) (t := 12) (k := 41) (i := 90) (by decide +kernel) sh_345 rfl (by decide) lk_1402 (by simp [x_ty, tyX12]) (gr_12_41 sh_345) ?_
  refine o_iload_n (k := 2) 0 (by decide +kernel) rfl ?_
  refine o_iconst (n := 1) (v := 1) (by decide +kernel) (by decide) ?_
  refine o_iadd (by decide +kernel) ?_
  refine o_iload_n (k := 1) 2 (by decide +kernel) rfl ?_
  obtain ⟨hi, h⟩ := h
  refine f_iast (by decide +kernel) sh_370 hi rfl ?_
  refine f_name (fun t3 et3 => ?_)
  replace h := h t3 et3
  refine o_aload_n (k := 0) 1 (by decide +kernel) rfl ?_
  refine f_getR (r := 370) (t := 12) (k := 41) (i := 90) (by decide +kernel) sh_345 rfl (by decide) lk_1402 (by simp [x_ty, tyX12]) (gr_12_41 sh_345) ?_
  refine o_iload_n (k := 2) 0 (by decide +kernel) rfl ?_
  refine o_iconst (n := 2) (v := 2) (by decide +kernel) (by decide) ?_
  refine o_iadd (by decide +kernel) ?_
  refine o_aload_n (k := 0) 1 (by decide +kernel) rfl ?_
  refine f_getR (r := 370) (t := 12) (k := 41) (i := 90) (by decide +kernel) sh_345 rfl (by decide) lk_1402 (by simp [x_ty, tyX12]) (gr_12_41 sh_345) ?_
  refine o_bipush (n := 7) (v := 7) (by decide +kernel) (by decide) ?_
  refine o_iload_n (k := 1) 2 (by decide +kernel) rfl ?_
  refine o_iadd (by decide +kernel) ?_
  obtain ⟨hi, h⟩ := h
  refine f_iald (by decide +kernel) sh_370 hi rfl ?_
  refine o_ineg (by decide +kernel) ?_
  obtain ⟨hi, h⟩ := h
  refine f_iast (by decide +kernel) sh_370 hi rfl ?_
  refine f_name (fun t4 et4 => ?_)
  replace h := h t4 et4
  refine o_aload_n (k := 0) 1 (by decide +kernel) rfl ?_
  refine f_getR (r := 370) (t := 12) (k := 41) (i := 90) (by decide +kernel) sh_345 rfl (by decide) lk_1402 (by simp [x_ty, tyX12]) (gr_12_41 sh_345) ?_
  refine o_bipush (n := 23) (v := 23) (by decide +kernel) (by decide) ?_
  refine o_dup2 (by decide +kernel) rfl rfl ?_
  refine f_iald (k := 23) (by decide +kernel) sh_370 (by unfold vp_in; decide) (by decide) ?_
  refine o_iconst (n := 1) (v := 1) (by decide +kernel) (by decide) ?_
  refine o_iadd (by decide +kernel) ?_
  refine f_iast (k := 23) (by decide +kernel) sh_370 (by unfold vp_in; decide) (by decide) ?_
  refine f_name (fun t5 et5 => ?_)
  replace h := h t5 et5
  exact f_vret rfl (by decide +kernel) rfl h
set_option maxRecDepth 20000 in
theorem e_X12_canPass {d : Nat} {K : x_T → Int32 → Prop}  {τ : x_T} (h : (9999 ≤ τ.1 370 5 → K τ 0) ∧ (¬ 9999 ≤ τ.1 370 5 → K τ 1)) : x_CI d mX12_canPass [.ref 345] τ K := by
  refine x_CI_of (by decide) (Nat.le_of_ble_eq_true rfl) ?_
  show x_WI d mX12_canPass K 0 [(0, .ref 345)] [] τ
  refine o_aload_n (k := 0) 0 (by decide +kernel) rfl ?_
  refine f_getR (r := 370) (t := 12) (k := 41) (i := 90) (by decide +kernel) sh_345 rfl (by decide) lk_1402 (by simp [x_ty, tyX12]) (gr_12_41 sh_345) ?_
  refine o_iconst (n := 5) (v := 5) (by decide +kernel) (by decide) ?_
  refine f_iald (k := 5) (by decide +kernel) sh_370 (by unfold vp_in; decide) (by decide) ?_
  refine o_sipush (n := 9999) (v := 9999) (by decide +kernel) (by decide) ?_
  refine o_icmp_ge (off := 7) 16 (by decide +kernel) (by decide) (fun q => ?_) (fun q => ?_)
  · replace h := h.1 q
    refine o_iconst (n := 0) (v := 0) (by decide +kernel) (by decide) ?_
    exact f_iret (ty := .boolean) rfl (by decide) (by decide +kernel) rfl h
  · replace h := h.2 q
    refine o_iconst (n := 1) (v := 1) (by decide +kernel) (by decide) ?_
    refine o_goto (off := 4) 17 (by decide +kernel) (by decide) ?_
    exact f_iret (ty := .boolean) rfl (by decide) (by decide +kernel) rfl h
set_option maxRecDepth 20000 in
theorem e_X12_minutePasses {d : Nat} {K : x_T → Int32 → Prop}  {τ : x_T} (h : (τ.1 370 2 ≤ 0 → x_WI (d + 1) mX12_minutePasses K 15 [(0, .ref 345), (1, .int 0)] [] τ) ∧ (¬ τ.1 370 2 ≤ 0 → x_CV d mX12_rolls [.ref 345] τ (fun t1 => x_WI (d + 1) mX12_minutePasses K 15 [(0, .ref 345), (1, .int 0)] [] t1))) : x_CI (d + 1) mX12_minutePasses [.ref 345] τ K := by
  refine x_CI_of (by decide) (Nat.le_of_ble_eq_true rfl) ?_
  show x_WI (d + 1) mX12_minutePasses K 0 [(0, .ref 345)] [] τ
  refine o_iconst (n := 0) (v := 0) (by decide +kernel) (by decide) ?_
  refine o_istore_n (k := 1) (L' := [(1, .int 0), (0, .ref 345)]) (by decide +kernel) (by decide) rfl ?_
  refine o_aload_n (k := 0) 1 (by decide +kernel) rfl ?_
  refine f_getR (r := 370) (t := 12) (k := 41) (i := 90) (by decide +kernel) sh_345 rfl (by decide) lk_1402 (by simp [x_ty, tyX12]) (gr_12_41 sh_345) ?_
  refine o_iconst (n := 2) (v := 2) (by decide +kernel) (by decide) ?_
  refine f_iald (k := 2) (by decide +kernel) sh_370 (by unfold vp_in; decide) (by decide) ?_
  refine o_if_le (off := 7) 15 (by decide +kernel) (by decide) (fun q => ?_) (fun q => ?_)
  · replace h := h.1 q
    refine o_sub [1, 0] rfl ?_
    exact h
  · replace h := h.2 q
    refine o_aload_n (k := 0) 1 (by decide +kernel) rfl ?_
    refine f_callVV (μ' := mX12_rolls) (i := 387) (vs := []) (by decide +kernel) lk_1785 (vok_mX12_rolls) sh_345 rfl rfl rfl rfl (Nat.le_of_ble_eq_true rfl) ?_
    refine x_CV.mono h (fun t1 h => ?_)
    refine o_sub [1, 0] rfl ?_
    exact h
set_option maxRecDepth 20000 in
theorem k_X12_minutePasses_15 {d : Nat} {K : x_T → Int32 → Prop} {v1 : Int32} {τ : x_T} (h : x_WI (d + 1) mX12_minutePasses K 17 [(0, .ref 345), (1, .int v1), (2, .int 0)] [] τ) : x_WI (d + 1) mX12_minutePasses K 15 [(0, .ref 345), (1, .int v1)] [] τ := by
  refine o_iconst (n := 0) (v := 0) (by decide +kernel) (by decide) ?_
  refine o_istore_n (k := 2) (L' := [(2, .int 0), (0, .ref 345), (1, .int v1)]) (by decide +kernel) (by decide) rfl ?_
  refine o_sub [1, 2, 0] rfl ?_
  exact h
set_option maxRecDepth 20000 in
theorem k_X12_minutePasses_17 {d : Nat} {K : x_T → Int32 → Prop} {v1 : Int32} {v2 : Int32} {τ : x_T} (h : (τ.1 346 0 ≤ v2 → ∀ t1, t1 = x_w1 τ 370 5 ((τ.1 370 5) + 1) → (K t1 v1)) ∧ (¬ τ.1 346 0 ≤ v2 → vp_in (7 + v2) 114 ∧ (∀ y2, y2 = τ.1 370 (7 + v2).toNatClampNeg → (x_CI d mX12_earnsOf [.ref 345, .int v2] τ (fun t3 a4 => x_CI d mX12_held [.long ((y2 + a4).toInt64), .int (-999), .int 9999] t3 (fun t5 a6 => vp_in (7 + v2) 114 ∧ (∀ t7, t7 = x_w1 t5 370 ((7 + v2).toNatClampNeg) a6 → (vp_in (7 + v2) 114 ∧ ((0 ≤ t7.1 370 (7 + v2).toNatClampNeg → x_WI (d + 1) mX12_minutePasses K 87 [(0, .ref 345), (1, .int v1), (2, .int v2)] [] t7) ∧ (¬ 0 ≤ t7.1 370 (7 + v2).toNatClampNeg → (y2 < 0 → x_WI (d + 1) mX12_minutePasses K 87 [(0, .ref 345), (1, .int v1), (2, .int v2)] [] t7) ∧ (¬ y2 < 0 → x_CV d mX12_writes [.ref 345, .int v2] t7 (fun t8 => ∀ y10, y10 = v1 + 1 → (x_WI (d + 1) mX12_minutePasses K 87 [(0, .ref 345), (1, .int y10), (2, .int v2)] [] t8))))))))))))) : x_WI (d + 1) mX12_minutePasses K 17 [(0, .ref 345), (1, .int v1), (2, .int v2)] [] τ := by
  refine o_iload_n (k := 2) 2 (by decide +kernel) rfl ?_
  refine o_aload_n (k := 0) 0 (by decide +kernel) rfl ?_
  refine f_getR (r := 346) (t := 12) (k := 0) (i := 7) (by decide +kernel) sh_345 rfl (by decide) lk_1361 (by simp [x_ty, tyX12]) (gr_12_0 sh_345) ?_
  refine o_iconst (n := 0) (v := 0) (by decide +kernel) (by decide) ?_
  refine f_iald (k := 0) (by decide +kernel) sh_346 (by unfold vp_in; decide) (by decide) ?_
  refine o_icmp_ge (off := 128) 152 (by decide +kernel) (by decide) (fun q => ?_) (fun q => ?_)
  · replace h := h.1 q
    refine o_aload_n (k := 0) 0 (by decide +kernel) rfl ?_
    refine f_getR (r := 370) (t := 12) (k := 41) (i := 90) (by decide +kernel) sh_345 rfl (by decide) lk_1402 (by simp [x_ty, tyX12]) (gr_12_41 sh_345) ?_
    refine o_iconst (n := 5) (v := 5) (by decide +kernel) (by decide) ?_
    refine o_dup2 (by decide +kernel) rfl rfl ?_
    refine f_iald (k := 5) (by decide +kernel) sh_370 (by unfold vp_in; decide) (by decide) ?_
    refine o_iconst (n := 1) (v := 1) (by decide +kernel) (by decide) ?_
    refine o_iadd (by decide +kernel) ?_
    refine f_iast (k := 5) (by decide +kernel) sh_370 (by unfold vp_in; decide) (by decide) ?_
    refine f_name (fun t1 et1 => ?_)
    replace h := h t1 et1
    refine o_iload_n (k := 1) 1 (by decide +kernel) rfl ?_
    exact f_iret (ty := .int) rfl rfl (by decide +kernel) rfl h
  · replace h := h.2 q
    refine o_aload_n (k := 0) 0 (by decide +kernel) rfl ?_
    refine f_getR (r := 370) (t := 12) (k := 41) (i := 90) (by decide +kernel) sh_345 rfl (by decide) lk_1402 (by simp [x_ty, tyX12]) (gr_12_41 sh_345) ?_
    refine o_bipush (n := 7) (v := 7) (by decide +kernel) (by decide) ?_
    refine o_iload_n (k := 2) 2 (by decide +kernel) rfl ?_
    refine o_iadd (by decide +kernel) ?_
    obtain ⟨hi, h⟩ := h
    refine f_iald (by decide +kernel) sh_370 hi rfl ?_
    refine o_name (fun y2 ey2 => ?_)
    replace h := h y2 ey2
    refine o_istore_n (k := 3) (L' := [(3, .int y2), (0, .ref 345), (1, .int v1), (2, .int v2)]) (by decide +kernel) (by decide) rfl ?_
    refine o_aload_n (k := 0) 1 (by decide +kernel) rfl ?_
    refine f_getR (r := 370) (t := 12) (k := 41) (i := 90) (by decide +kernel) sh_345 rfl (by decide) lk_1402 (by simp [x_ty, tyX12]) (gr_12_41 sh_345) ?_
    refine o_bipush (n := 7) (v := 7) (by decide +kernel) (by decide) ?_
    refine o_iload_n (k := 2) 3 (by decide +kernel) rfl ?_
    refine o_iadd (by decide +kernel) ?_
    refine o_iload_n (k := 3) 0 (by decide +kernel) rfl ?_
    refine o_aload_n (k := 0) 1 (by decide +kernel) rfl ?_
    refine o_iload_n (k := 2) 3 (by decide +kernel) rfl ?_
    refine f_callVI (μ' := mX12_earnsOf) (i := 390) (vs := [.int v2]) (by decide +kernel) lk_1793 (vok_mX12_earnsOf) sh_345 rfl rfl rfl rfl (Nat.le_of_ble_eq_true rfl) ?_
    refine x_CI.mono h (fun t3 a4 h => ?_)
    refine o_iadd (by decide +kernel) ?_
    refine o_i2l (by decide +kernel) ?_
    refine o_sipush (n := -999) (v := (-999)) (by decide +kernel) (by decide) ?_
    refine o_sipush (n := 9999) (v := 9999) (by decide +kernel) (by decide) ?_
    refine f_callSI (μ' := mX12_held) (i := 355) (vs := [.long ((y2 + a4).toInt64), .int (-999), .int 9999]) (by decide +kernel) lk_1754 (cok_mX12_held) rfl (stt_mX12_held) rfl rfl (Nat.le_of_ble_eq_true rfl) ?_
    refine x_CI.mono h (fun t5 a6 h => ?_)
    obtain ⟨hi, h⟩ := h
    refine f_iast (by decide +kernel) sh_370 hi rfl ?_
    refine f_name (fun t7 et7 => ?_)
    replace h := h t7 et7
    refine o_aload_n (k := 0) 1 (by decide +kernel) rfl ?_
    refine f_getR (r := 370) (t := 12) (k := 41) (i := 90) (by decide +kernel) sh_345 rfl (by decide) lk_1402 (by simp [x_ty, tyX12]) (gr_12_41 sh_345) ?_
    refine o_bipush (n := 7) (v := 7) (by decide +kernel) (by decide) ?_
    refine o_iload_n (k := 2) 3 (by decide +kernel) rfl ?_
    refine o_iadd (by decide +kernel) ?_
    obtain ⟨hi, h⟩ := h
    refine f_iald (by decide +kernel) sh_370 hi rfl ?_
    refine o_if_ge (off := 15) 87 (by decide +kernel) (by decide) (fun q => ?_) (fun q => ?_)
    · replace h := h.1 q
      refine o_sub [1, 2, 3] rfl ?_
      exact h
    · replace h := h.2 q
      refine o_iload_n (k := 3) 0 (by decide +kernel) rfl ?_
      refine o_if_lt (off := 11) 87 (by decide +kernel) (by decide) (fun q => ?_) (fun q => ?_)
      · replace h := h.1 q
        refine o_sub [1, 2, 3] rfl ?_
        exact h
      · replace h := h.2 q
        refine o_aload_n (k := 0) 1 (by decide +kernel) rfl ?_
        refine o_iload_n (k := 2) 3 (by decide +kernel) rfl ?_
        refine f_callVV (μ' := mX12_writes) (i := 393) (vs := [.int v2]) (by decide +kernel) lk_1807 (vok_mX12_writes) sh_345 rfl rfl rfl rfl (Nat.le_of_ble_eq_true rfl) ?_
        refine x_CV.mono h (fun t8 h => ?_)
        obtain ⟨y10, ey10⟩ : ∃ y : Int32, y = v1 + 1 := ⟨_, rfl⟩
        replace h := h y10 ey10
        refine o_iinc (i := 1) (n := 1) (v := y10) (L' := [(1, .int y10), (3, .int y2), (0, .ref 345), (2, .int v2)]) 2 (by decide +kernel) rfl (by rw [ey10]; rfl) (by decide) rfl ?_
        refine o_sub [2, 0, 3] rfl ?_
        exact h
set_option maxRecDepth 20000 in
theorem k_X12_minutePasses_87 {d : Nat} {K : x_T → Int32 → Prop} {v1 : Int32} {v2 : Int32} {τ : x_T} (h : x_CI d mX12_hourAt [.ref 345, .int v2, .int (τ.1 370 0)] τ (fun t1 a2 => (¬ a2 = 12 → vp_in (15 + v2) 114 ∧ ((¬ t1.1 370 (15 + v2).toNatClampNeg = 99 → vp_in (15 + v2) 114 ∧ (x_WI (d + 1) mX12_minutePasses K 145 [(0, .ref 345), (1, .int v1), (2, .int v2)] [.int ((t1.1 370 (15 + v2).toNatClampNeg) + 1), .int (15 + v2), .ref 370] t1)) ∧ (t1.1 370 (15 + v2).toNatClampNeg = 99 → x_WI (d + 1) mX12_minutePasses K 145 [(0, .ref 345), (1, .int v1), (2, .int v2)] [.int 99, .int (15 + v2), .ref 370] t1))) ∧ (a2 = 12 → x_WI (d + 1) mX12_minutePasses K 145 [(0, .ref 345), (1, .int v1), (2, .int v2)] [.int 0, .int (15 + v2), .ref 370] t1))) : x_WI (d + 1) mX12_minutePasses K 87 [(0, .ref 345), (1, .int v1), (2, .int v2)] [] τ := by
  refine o_aload_n (k := 0) 0 (by decide +kernel) rfl ?_
  refine f_getR (r := 370) (t := 12) (k := 41) (i := 90) (by decide +kernel) sh_345 rfl (by decide) lk_1402 (by simp [x_ty, tyX12]) (gr_12_41 sh_345) ?_
  refine o_bipush (n := 15) (v := 15) (by decide +kernel) (by decide) ?_
  refine o_iload_n (k := 2) 2 (by decide +kernel) rfl ?_
  refine o_iadd (by decide +kernel) ?_
  refine o_aload_n (k := 0) 0 (by decide +kernel) rfl ?_
  refine o_iload_n (k := 2) 2 (by decide +kernel) rfl ?_
  refine o_aload_n (k := 0) 0 (by decide +kernel) rfl ?_
  refine f_getR (r := 370) (t := 12) (k := 41) (i := 90) (by decide +kernel) sh_345 rfl (by decide) lk_1402 (by simp [x_ty, tyX12]) (gr_12_41 sh_345) ?_
  refine o_iconst (n := 0) (v := 0) (by decide +kernel) (by decide) ?_
  refine f_iald (k := 0) (by decide +kernel) sh_370 (by unfold vp_in; decide) (by decide) ?_
  refine f_callVI (μ' := mX12_hourAt) (i := 372) (vs := [.int v2, .int (τ.1 370 0)]) (by decide +kernel) lk_1797 (vok_mX12_hourAt) sh_345 rfl rfl rfl rfl (Nat.le_of_ble_eq_true rfl) ?_
  refine x_CI.mono h (fun t1 a2 h => ?_)
  refine o_bipush (n := 12) (v := 12) (by decide +kernel) (by decide) ?_
  refine o_icmp_ne (off := 7) 115 (by decide +kernel) (by decide) (fun q => ?_) (fun q => ?_)
  · replace h := h.1 q
    refine o_aload_n (k := 0) 0 (by decide +kernel) rfl ?_
    refine f_getR (r := 370) (t := 12) (k := 41) (i := 90) (by decide +kernel) sh_345 rfl (by decide) lk_1402 (by simp [x_ty, tyX12]) (gr_12_41 sh_345) ?_
    refine o_bipush (n := 15) (v := 15) (by decide +kernel) (by decide) ?_
    refine o_iload_n (k := 2) 2 (by decide +kernel) rfl ?_
    refine o_iadd (by decide +kernel) ?_
    obtain ⟨hi, h⟩ := h
    refine f_iald (by decide +kernel) sh_370 hi rfl ?_
    refine o_bipush (n := 99) (v := 99) (by decide +kernel) (by decide) ?_
    refine o_icmp_ne (off := 8) 134 (by decide +kernel) (by decide) (fun q => ?_) (fun q => ?_)
    · replace h := h.1 q
      refine o_aload_n (k := 0) 0 (by decide +kernel) rfl ?_
      refine f_getR (r := 370) (t := 12) (k := 41) (i := 90) (by decide +kernel) sh_345 rfl (by decide) lk_1402 (by simp [x_ty, tyX12]) (gr_12_41 sh_345) ?_
      refine o_bipush (n := 15) (v := 15) (by decide +kernel) (by decide) ?_
      refine o_iload_n (k := 2) 2 (by decide +kernel) rfl ?_
      refine o_iadd (by decide +kernel) ?_
      obtain ⟨hi, h⟩ := h
      refine f_iald (by decide +kernel) sh_370 hi rfl ?_
      refine o_iconst (n := 1) (v := 1) (by decide +kernel) (by decide) ?_
      refine o_iadd (by decide +kernel) ?_
      exact h
    · replace h := h.2 q
      refine o_bipush (n := 99) (v := 99) (by decide +kernel) (by decide) ?_
      refine o_goto (off := 14) 145 (by decide +kernel) (by decide) ?_
      exact h
  · replace h := h.2 q
    refine o_iconst (n := 0) (v := 0) (by decide +kernel) (by decide) ?_
    refine o_goto (off := 33) 145 (by decide +kernel) (by decide) ?_
    exact h
set_option maxRecDepth 20000 in
theorem k_X12_minutePasses_145 {d : Nat} {K : x_T → Int32 → Prop} {v1 : Int32} {v2 : Int32} {s0 : Int32} {s1 : Int32} {τ : x_T} (h : vp_in s1 114 ∧ (∀ t1, t1 = x_w1 τ 370 s1.toNatClampNeg s0 → (∀ y2, y2 = v2 + 1 → (x_WI (d + 1) mX12_minutePasses K 17 [(0, .ref 345), (1, .int v1), (2, .int y2)] [] t1)))) : x_WI (d + 1) mX12_minutePasses K 145 [(0, .ref 345), (1, .int v1), (2, .int v2)] [.int s0, .int s1, .ref 370] τ := by
  obtain ⟨hi, h⟩ := h
  refine f_iast (by decide +kernel) sh_370 hi rfl ?_
  refine f_name (fun t1 et1 => ?_)
  replace h := h t1 et1
  obtain ⟨y2, ey2⟩ : ∃ y : Int32, y = v2 + 1 := ⟨_, rfl⟩
  replace h := h y2 ey2
  refine o_iinc (i := 2) (n := 1) (v := y2) (L' := [(2, .int y2), (0, .ref 345), (1, .int v1)]) 2 (by decide +kernel) rfl (by rw [ey2]; rfl) (by decide) rfl ?_
  refine o_goto (off := -132) 17 (by decide +kernel) (by decide) ?_
  refine o_sub [1, 2, 0] rfl ?_
  exact h
set_option maxRecDepth 20000 in
theorem e_X12_push {d : Nat} {K : x_T → Int32 → Prop} {v1 : Int32} {v2 : Int32} {τ : x_T} (h : x_CV d mX12_laysNow [.ref 345] τ (fun t1 => x_CI d mX12_canPush [.ref 345, .int v1, .int v2] t1 (fun t3 a4 => (¬ a4 = 0 → x_CV d mX12_keepsStep [.ref 345] t3 (fun t5 => x_CV d mX12_pushes [.ref 345, .int v1, .int v2] t5 (fun t7 => x_CV d mX12_keepsNow [.ref 345] t7 (fun t9 => K t9 (t9.1 370 2))))) ∧ (a4 = 0 → K t3 (-1))))) : x_CI (d + 1) mX12_push [.ref 345, .int v1, .int v2] τ K := by
  refine x_CI_of (by decide) (Nat.le_of_ble_eq_true rfl) ?_
  show x_WI (d + 1) mX12_push K 0 [(0, .ref 345), (1, .int v1), (2, .int v2)] [] τ
  refine o_aload_n (k := 0) 0 (by decide +kernel) rfl ?_
  refine f_callVV (μ' := mX12_laysNow) (i := 396) (vs := []) (by decide +kernel) lk_1704 (vok_mX12_laysNow) sh_345 rfl rfl rfl rfl (Nat.le_of_ble_eq_true rfl) ?_
  refine x_CV.mono h (fun t1 h => ?_)
  refine o_aload_n (k := 0) 0 (by decide +kernel) rfl ?_
  refine o_iload_n (k := 1) 1 (by decide +kernel) rfl ?_
  refine o_iload_n (k := 2) 2 (by decide +kernel) rfl ?_
  refine f_callVI (μ' := mX12_canPush) (i := 399) (vs := [.int v1, .int v2]) (by decide +kernel) lk_1712 (vok_mX12_canPush) sh_345 rfl rfl rfl rfl (Nat.le_of_ble_eq_true rfl) ?_
  refine x_CI.mono h (fun t3 a4 h => ?_)
  refine o_if_ne (off := 5) 15 (by decide +kernel) (by decide) (fun q => ?_) (fun q => ?_)
  · replace h := h.1 q
    refine o_aload_n (k := 0) 0 (by decide +kernel) rfl ?_
    refine f_callVV (μ' := mX12_keepsStep) (i := 402) (vs := []) (by decide +kernel) lk_1716 (vok_mX12_keepsStep) sh_345 rfl rfl rfl rfl (Nat.le_of_ble_eq_true rfl) ?_
    refine x_CV.mono h (fun t5 h => ?_)
    refine o_aload_n (k := 0) 0 (by decide +kernel) rfl ?_
    refine o_iload_n (k := 1) 1 (by decide +kernel) rfl ?_
    refine o_iload_n (k := 2) 2 (by decide +kernel) rfl ?_
    refine f_callVV (μ' := mX12_pushes) (i := 405) (vs := [.int v1, .int v2]) (by decide +kernel) lk_1720 (vok_mX12_pushes) sh_345 rfl rfl rfl rfl (Nat.le_of_ble_eq_true rfl) ?_
    refine x_CV.mono h (fun t7 h => ?_)
    refine o_aload_n (k := 0) 0 (by decide +kernel) rfl ?_
    refine f_callVV (μ' := mX12_keepsNow) (i := 408) (vs := []) (by decide +kernel) lk_1757 (vok_mX12_keepsNow) sh_345 rfl rfl rfl rfl (Nat.le_of_ble_eq_true rfl) ?_
    refine x_CV.mono h (fun t9 h => ?_)
    refine o_aload_n (k := 0) 0 (by decide +kernel) rfl ?_
    refine f_getR (r := 370) (t := 12) (k := 41) (i := 90) (by decide +kernel) sh_345 rfl (by decide) lk_1402 (by simp [x_ty, tyX12]) (gr_12_41 sh_345) ?_
    refine o_iconst (n := 2) (v := 2) (by decide +kernel) (by decide) ?_
    refine f_iald (k := 2) (by decide +kernel) sh_370 (by unfold vp_in; decide) (by decide) ?_
    exact f_iret (ty := .int) rfl rfl (by decide +kernel) rfl h
  · replace h := h.2 q
    refine o_iconst (n := -1) (v := (-1)) (by decide +kernel) (by decide) ?_
    exact f_iret (ty := .int) rfl rfl (by decide +kernel) rfl h
set_option maxRecDepth 20000 in
theorem e_X12_tip {d : Nat} {K : x_T → Int32 → Prop}  {τ : x_T} (h : (¬ τ.1 346 132 = 0 → x_CV d mX12_keepsStep [.ref 345] τ (fun t1 => x_CV d mX12_laysNow [.ref 345] t1 (fun t3 => x_CV d mX12_tips [.ref 345] t3 (fun t5 => x_CV d mX12_keepsNow [.ref 345] t5 (fun t7 => K t7 1))))) ∧ (τ.1 346 132 = 0 → K τ 0)) : x_CI (d + 1) mX12_tip [.ref 345] τ K := by
  refine x_CI_of (by decide) (Nat.le_of_ble_eq_true rfl) ?_
  show x_WI (d + 1) mX12_tip K 0 [(0, .ref 345)] [] τ
  refine o_aload_n (k := 0) 0 (by decide +kernel) rfl ?_
  refine f_getR (r := 346) (t := 12) (k := 0) (i := 7) (by decide +kernel) sh_345 rfl (by decide) lk_1361 (by simp [x_ty, tyX12]) (gr_12_0 sh_345) ?_
  refine o_sipush (n := 132) (v := 132) (by decide +kernel) (by decide) ?_
  refine f_iald (k := 132) (by decide +kernel) sh_346 (by unfold vp_in; decide) (by decide) ?_
  refine o_if_ne (off := 5) 13 (by decide +kernel) (by decide) (fun q => ?_) (fun q => ?_)
  · replace h := h.1 q
    refine o_aload_n (k := 0) 0 (by decide +kernel) rfl ?_
    refine f_callVV (μ' := mX12_keepsStep) (i := 402) (vs := []) (by decide +kernel) lk_1716 (vok_mX12_keepsStep) sh_345 rfl rfl rfl rfl (Nat.le_of_ble_eq_true rfl) ?_
    refine x_CV.mono h (fun t1 h => ?_)
    refine o_aload_n (k := 0) 0 (by decide +kernel) rfl ?_
    refine f_callVV (μ' := mX12_laysNow) (i := 396) (vs := []) (by decide +kernel) lk_1704 (vok_mX12_laysNow) sh_345 rfl rfl rfl rfl (Nat.le_of_ble_eq_true rfl) ?_
    refine x_CV.mono h (fun t3 h => ?_)
    refine o_aload_n (k := 0) 0 (by decide +kernel) rfl ?_
    refine f_callVV (μ' := mX12_tips) (i := 411) (vs := []) (by decide +kernel) lk_1765 (vok_mX12_tips) sh_345 rfl rfl rfl rfl (Nat.le_of_ble_eq_true rfl) ?_
    refine x_CV.mono h (fun t5 h => ?_)
    refine o_aload_n (k := 0) 0 (by decide +kernel) rfl ?_
    refine f_callVV (μ' := mX12_keepsNow) (i := 408) (vs := []) (by decide +kernel) lk_1757 (vok_mX12_keepsNow) sh_345 rfl rfl rfl rfl (Nat.le_of_ble_eq_true rfl) ?_
    refine x_CV.mono h (fun t7 h => ?_)
    refine o_iconst (n := 1) (v := 1) (by decide +kernel) (by decide) ?_
    exact f_iret (ty := .boolean) rfl (by decide) (by decide +kernel) rfl h
  · replace h := h.2 q
    refine o_iconst (n := 0) (v := 0) (by decide +kernel) (by decide) ?_
    exact f_iret (ty := .boolean) rfl (by decide) (by decide +kernel) rfl h
set_option maxRecDepth 20000 in
theorem e_X12_mend {d : Nat} {K : x_T → Int32 → Prop}  {τ : x_T} (h : (¬ τ.1 346 134 = 99 → x_CV d mX12_keepsStep [.ref 345] τ (fun t1 => ∀ t3, t3 = x_w1 t1 346 134 99 → (K t3 1))) ∧ (τ.1 346 134 = 99 → K τ 0)) : x_CI (d + 1) mX12_mend [.ref 345] τ K := by
  refine x_CI_of (by decide) (Nat.le_of_ble_eq_true rfl) ?_
  show x_WI (d + 1) mX12_mend K 0 [(0, .ref 345)] [] τ
  refine o_aload_n (k := 0) 0 (by decide +kernel) rfl ?_
  refine f_getR (r := 346) (t := 12) (k := 0) (i := 7) (by decide +kernel) sh_345 rfl (by decide) lk_1361 (by simp [x_ty, tyX12]) (gr_12_0 sh_345) ?_
  refine o_sipush (n := 134) (v := 134) (by decide +kernel) (by decide) ?_
  refine f_iald (k := 134) (by decide +kernel) sh_346 (by unfold vp_in; decide) (by decide) ?_
  refine o_bipush (n := 99) (v := 99) (by decide +kernel) (by decide) ?_
  refine o_icmp_ne (off := 5) 15 (by decide +kernel) (by decide) (fun q => ?_) (fun q => ?_)
  · replace h := h.1 q
    refine o_aload_n (k := 0) 0 (by decide +kernel) rfl ?_
    refine f_callVV (μ' := mX12_keepsStep) (i := 402) (vs := []) (by decide +kernel) lk_1716 (vok_mX12_keepsStep) sh_345 rfl rfl rfl rfl (Nat.le_of_ble_eq_true rfl) ?_
    refine x_CV.mono h (fun t1 h => ?_)
    refine o_aload_n (k := 0) 0 (by decide +kernel) rfl ?_
    refine f_getR (r := 346) (t := 12) (k := 0) (i := 7) (by decide +kernel) sh_345 rfl (by decide) lk_1361 (by simp [x_ty, tyX12]) (gr_12_0 sh_345) ?_
    refine o_sipush (n := 134) (v := 134) (by decide +kernel) (by decide) ?_
    refine o_bipush (n := 99) (v := 99) (by decide +kernel) (by decide) ?_
    refine f_iast (k := 134) (by decide +kernel) sh_346 (by unfold vp_in; decide) (by decide) ?_
    refine f_name (fun t3 et3 => ?_)
    replace h := h t3 et3
    refine o_iconst (n := 1) (v := 1) (by decide +kernel) (by decide) ?_
    exact f_iret (ty := .boolean) rfl (by decide) (by decide +kernel) rfl h
  · replace h := h.2 q
    refine o_iconst (n := 0) (v := 0) (by decide +kernel) (by decide) ?_
    exact f_iret (ty := .boolean) rfl (by decide) (by decide +kernel) rfl h
set_option maxRecDepth 20000 in
theorem e_X12_minute {d : Nat} {K : x_T → Int32 → Prop} {v1 : Int32} {τ : x_T} (h : x_CI d mX12_in [.int v1, .int 1, .int 60] τ (fun t1 a2 => (a2 = 0 → K t1 (-1)) ∧ (¬ a2 = 0 → ((t1.1 346 135) + v1 ≤ 9999 → x_WI (d + 1) mX12_minute K 32 [(0, .ref 345), (1, .int v1), (2, .int 0), (3, .int 0)] [] t1) ∧ (¬ (t1.1 346 135) + v1 ≤ 9999 → K t1 (-1))))) : x_CI (d + 1) mX12_minute [.ref 345, .int v1] τ K := by
  refine x_CI_of (by decide) (Nat.le_of_ble_eq_true rfl) ?_
  show x_WI (d + 1) mX12_minute K 0 [(0, .ref 345), (1, .int v1)] [] τ
  refine o_iload_n (k := 1) 1 (by decide +kernel) rfl ?_
  refine o_iconst (n := 1) (v := 1) (by decide +kernel) (by decide) ?_
  refine o_bipush (n := 60) (v := 60) (by decide +kernel) (by decide) ?_
  refine f_callSI (μ' := mX12_in) (i := 113) (vs := [.int v1, .int 1, .int 60]) (by decide +kernel) lk_1508 (cok_mX12_in) rfl (stt_mX12_in) rfl rfl (Nat.le_of_ble_eq_true rfl) ?_
  refine x_CI.mono h (fun t1 a2 h => ?_)
  refine o_if_eq (off := 19) 26 (by decide +kernel) (by decide) (fun q => ?_) (fun q => ?_)
  · replace h := h.1 q
    refine o_iconst (n := -1) (v := (-1)) (by decide +kernel) (by decide) ?_
    exact f_iret (ty := .int) rfl rfl (by decide +kernel) rfl h
  · replace h := h.2 q
    refine o_aload_n (k := 0) 0 (by decide +kernel) rfl ?_
    refine f_getR (r := 346) (t := 12) (k := 0) (i := 7) (by decide +kernel) sh_345 rfl (by decide) lk_1361 (by simp [x_ty, tyX12]) (gr_12_0 sh_345) ?_
    refine o_sipush (n := 135) (v := 135) (by decide +kernel) (by decide) ?_
    refine f_iald (k := 135) (by decide +kernel) sh_346 (by unfold vp_in; decide) (by decide) ?_
    refine o_iload_n (k := 1) 1 (by decide +kernel) rfl ?_
    refine o_iadd (by decide +kernel) ?_
    refine o_sipush (n := 9999) (v := 9999) (by decide +kernel) (by decide) ?_
    refine o_icmp_le (off := 5) 28 (by decide +kernel) (by decide) (fun q => ?_) (fun q => ?_)
    · replace h := h.1 q
      refine o_iconst (n := 0) (v := 0) (by decide +kernel) (by decide) ?_
      refine o_istore_n (k := 2) (L' := [(2, .int 0), (0, .ref 345), (1, .int v1)]) (by decide +kernel) (by decide) rfl ?_
      refine o_iconst (n := 0) (v := 0) (by decide +kernel) (by decide) ?_
      refine o_istore_n (k := 3) (L' := [(3, .int 0), (2, .int 0), (0, .ref 345), (1, .int v1)]) (by decide +kernel) (by decide) rfl ?_
      refine o_sub [2, 3, 1, 0] rfl ?_
      exact h
    · replace h := h.2 q
      refine o_iconst (n := -1) (v := (-1)) (by decide +kernel) (by decide) ?_
      exact f_iret (ty := .int) rfl rfl (by decide +kernel) rfl h
set_option maxRecDepth 20000 in
theorem k_X12_minute_32 {d : Nat} {K : x_T → Int32 → Prop} {v1 : Int32} {v2 : Int32} {v3 : Int32} {τ : x_T} (h : (v1 ≤ v3 → K τ v2) ∧ (¬ v1 ≤ v3 → x_CV d mX12_keepsStep [.ref 345] τ (fun t1 => x_CV d mX12_laysNow [.ref 345] t1 (fun t3 => x_CI d mX12_minutePasses [.ref 345] t3 (fun t5 a6 => ∀ y7, y7 = v2 + a6 → (x_CV d mX12_keepsNow [.ref 345] t5 (fun t8 => ∀ y10, y10 = v3 + 1 → (x_WI (d + 1) mX12_minute K 32 [(0, .ref 345), (1, .int v1), (2, .int y7), (3, .int y10)] [] t8)))))))) : x_WI (d + 1) mX12_minute K 32 [(0, .ref 345), (1, .int v1), (2, .int v2), (3, .int v3)] [] τ := by
  refine o_iload_n (k := 3) 3 (by decide +kernel) rfl ?_
  refine o_iload_n (k := 1) 1 (by decide +kernel) rfl ?_
  refine o_icmp_ge (off := 28) 62 (by decide +kernel) (by decide) (fun q => ?_) (fun q => ?_)
  · replace h := h.1 q
    refine o_iload_n (k := 2) 2 (by decide +kernel) rfl ?_
    exact f_iret (ty := .int) rfl rfl (by decide +kernel) rfl h
  · replace h := h.2 q
    refine o_aload_n (k := 0) 0 (by decide +kernel) rfl ?_
    refine f_callVV (μ' := mX12_keepsStep) (i := 402) (vs := []) (by decide +kernel) lk_1716 (vok_mX12_keepsStep) sh_345 rfl rfl rfl rfl (Nat.le_of_ble_eq_true rfl) ?_
    refine x_CV.mono h (fun t1 h => ?_)
    refine o_aload_n (k := 0) 0 (by decide +kernel) rfl ?_
    refine f_callVV (μ' := mX12_laysNow) (i := 396) (vs := []) (by decide +kernel) lk_1704 (vok_mX12_laysNow) sh_345 rfl rfl rfl rfl (Nat.le_of_ble_eq_true rfl) ?_
    refine x_CV.mono h (fun t3 h => ?_)
    refine o_iload_n (k := 2) 2 (by decide +kernel) rfl ?_
    refine o_aload_n (k := 0) 0 (by decide +kernel) rfl ?_
    refine f_callVI (μ' := mX12_minutePasses) (i := 414) (vs := []) (by decide +kernel) lk_1781 (vok_mX12_minutePasses) sh_345 rfl rfl rfl rfl (Nat.le_of_ble_eq_true rfl) ?_
    refine x_CI.mono h (fun t5 a6 h => ?_)
    refine o_iadd (by decide +kernel) ?_
    refine o_name (fun y7 ey7 => ?_)
    replace h := h y7 ey7
    refine o_istore_n (k := 2) (L' := [(2, .int y7), (0, .ref 345), (1, .int v1), (3, .int v3)]) (by decide +kernel) (by decide) rfl ?_
    refine o_aload_n (k := 0) 1 (by decide +kernel) rfl ?_
    refine f_callVV (μ' := mX12_keepsNow) (i := 408) (vs := []) (by decide +kernel) lk_1757 (vok_mX12_keepsNow) sh_345 rfl rfl rfl rfl (Nat.le_of_ble_eq_true rfl) ?_
    refine x_CV.mono h (fun t8 h => ?_)
    obtain ⟨y10, ey10⟩ : ∃ y : Int32, y = v3 + 1 := ⟨_, rfl⟩
    replace h := h y10 ey10
    refine o_iinc (i := 3) (n := 1) (v := y10) (L' := [(3, .int y10), (2, .int y7), (0, .ref 345), (1, .int v1)]) 3 (by decide +kernel) rfl (by rw [ey10]; rfl) (by decide) rfl ?_
    refine o_goto (off := -27) 32 (by decide +kernel) (by decide) ?_
    refine o_sub [2, 3, 1, 0] rfl ?_
    exact h
set_option maxRecDepth 20000 in
theorem e_X12_draw {d : Nat} {K : x_T → Int32 → Prop} {v1 : Int32} {τ : x_T} (h : ¬ v1 = 0 ∧ (∀ y1, y1 = (τ.1 370 6) - (τ.1 370 6) / v1 * v1 → (∀ t2, t2 = x_w1 τ 370 6 ((((τ.1 370 6) * 283) + 193) - (((τ.1 370 6) * 283) + 193) / 30313 * 30313) → (K t2 y1)))) : x_CI d mX12_draw [.ref 345, .int v1] τ K := by
  refine x_CI_of (by decide) (Nat.le_of_ble_eq_true rfl) ?_
  show x_WI d mX12_draw K 0 [(0, .ref 345), (1, .int v1)] [] τ
  refine o_aload_n (k := 0) 0 (by decide +kernel) rfl ?_
  refine f_getR (r := 370) (t := 12) (k := 41) (i := 90) (by decide +kernel) sh_345 rfl (by decide) lk_1402 (by simp [x_ty, tyX12]) (gr_12_41 sh_345) ?_
  refine o_bipush (n := 6) (v := 6) (by decide +kernel) (by decide) ?_
  refine f_iald (k := 6) (by decide +kernel) sh_370 (by unfold vp_in; decide) (by decide) ?_
  refine o_iload_n (k := 1) 1 (by decide +kernel) rfl ?_
  obtain ⟨hz, h⟩ := h
  refine o_irem (by decide +kernel) hz ?_
  refine o_name (fun y1 ey1 => ?_)
  replace h := h y1 ey1
  refine o_istore_n (k := 2) (L' := [(2, .int y1), (0, .ref 345), (1, .int v1)]) (by decide +kernel) (by decide) rfl ?_
  refine o_aload_n (k := 0) 1 (by decide +kernel) rfl ?_
  refine f_getR (r := 370) (t := 12) (k := 41) (i := 90) (by decide +kernel) sh_345 rfl (by decide) lk_1402 (by simp [x_ty, tyX12]) (gr_12_41 sh_345) ?_
  refine o_bipush (n := 6) (v := 6) (by decide +kernel) (by decide) ?_
  refine o_aload_n (k := 0) 1 (by decide +kernel) rfl ?_
  refine f_getR (r := 370) (t := 12) (k := 41) (i := 90) (by decide +kernel) sh_345 rfl (by decide) lk_1402 (by simp [x_ty, tyX12]) (gr_12_41 sh_345) ?_
  refine o_bipush (n := 6) (v := 6) (by decide +kernel) (by decide) ?_
  refine f_iald (k := 6) (by decide +kernel) sh_370 (by unfold vp_in; decide) (by decide) ?_
  refine o_sipush (n := 283) (v := 283) (by decide +kernel) (by decide) ?_
  refine o_imul (by decide +kernel) ?_
  refine o_sipush (n := 193) (v := 193) (by decide +kernel) (by decide) ?_
  refine o_iadd (by decide +kernel) ?_
  refine o_sipush (n := 30313) (v := 30313) (by decide +kernel) (by decide) ?_
  refine o_irem (by decide +kernel) (by decide) ?_
  refine f_iast (k := 6) (by decide +kernel) sh_370 (by unfold vp_in; decide) (by decide) ?_
  refine f_name (fun t2 et2 => ?_)
  replace h := h t2 et2
  refine o_iload_n (k := 2) 0 (by decide +kernel) rfl ?_
  exact f_iret (ty := .int) rfl rfl (by decide +kernel) rfl h
theorem d_X12_happens_6 : decode mX12_happens.2.1 6 = .ok (.tableswitch (106) (0) (3) #[(30), (30), (79), (95)], 30) := by decide +kernel
set_option maxRecDepth 20000 in
theorem e_X12_happens {d : Nat} {K : x_T → Prop}  {τ : x_T} (h : x_CI d mX12_draw [.ref 345, .int 6] τ (fun t1 a2 => ((a2 = 0 → (t1.1 346 1 ≤ 0 → K t1) ∧ (¬ t1.1 346 1 ≤ 0 → x_CI d mX12_draw [.ref 345, .int (t1.1 346 0)] t1 (fun t3 a4 => x_CI d mX12_draw [.ref 345, .int (t3.1 346 1)] t3 (fun t5 a6 => x_CI d mX12_canPush [.ref 345, .int a4, .int a6] t5 (fun t7 a8 => (a8 = 0 → K t7) ∧ (¬ a8 = 0 → x_CV d mX12_pushes [.ref 345, .int a4, .int a6] t7 (fun t9 => K t9))))))) ∧ (¬ a2 = 0 → (a2 = 1 → (t1.1 346 1 ≤ 0 → K t1) ∧ (¬ t1.1 346 1 ≤ 0 → x_CI d mX12_draw [.ref 345, .int (t1.1 346 0)] t1 (fun t11 a12 => x_CI d mX12_draw [.ref 345, .int (t11.1 346 1)] t11 (fun t13 a14 => x_CI d mX12_canPush [.ref 345, .int a12, .int a14] t13 (fun t15 a16 => (a16 = 0 → K t15) ∧ (¬ a16 = 0 → x_CV d mX12_pushes [.ref 345, .int a12, .int a14] t15 (fun t17 => K t17))))))) ∧ (¬ a2 = 1 → (a2 = 2 → (t1.1 370 2 ≤ 0 → K t1) ∧ (¬ t1.1 370 2 ≤ 0 → x_CV d mX12_tips [.ref 345] t1 (fun t19 => K t19))) ∧ (¬ a2 = 2 → (a2 = 3 → ∀ t21, t21 = x_w1 t1 370 4 99 → (K t21)) ∧ (¬ a2 = 3 → (x_CI d mX12_canPass [.ref 345] t1 (fun t22 a23 => (a23 = 0 → K t22) ∧ (¬ a23 = 0 → x_CI d mX12_minutePasses [.ref 345] t22 (fun t24 a25 => K t24))))))))))) : x_CV (d + 1) mX12_happens [.ref 345] τ K := by
  refine x_CV_of (by decide) (Nat.le_of_ble_eq_true rfl) ?_
  show x_WV (d + 1) mX12_happens K 0 [(0, .ref 345)] [] τ
  refine o_aload_n (k := 0) 0 (by decide +kernel) rfl ?_
  refine o_bipush (n := 6) (v := 6) (by decide +kernel) (by decide) ?_
  refine f_callVI (μ' := mX12_draw) (i := 417) (vs := [.int 6]) (by decide +kernel) lk_1819 (vok_mX12_draw) sh_345 rfl rfl rfl rfl (Nat.le_of_ble_eq_true rfl) ?_
  refine x_CI.mono h (fun t1 a2 h => ?_)
  by_cases c0 : a2 = 0
  · replace h := h.1 c0
    refine o_tableIn (off := 30) (tgt := 36) (d_X12_happens_6) (by rw [c0]; decide) (by rw [c0]; decide) (by rw [c0]; rfl) (by decide) ?_
    refine o_aload_n (k := 0) 0 (by decide +kernel) rfl ?_
    refine f_getR (r := 346) (t := 12) (k := 0) (i := 7) (by decide +kernel) sh_345 rfl (by decide) lk_1361 (by simp [x_ty, tyX12]) (gr_12_0 sh_345) ?_
    refine o_iconst (n := 1) (v := 1) (by decide +kernel) (by decide) ?_
    refine f_iald (k := 1) (by decide +kernel) sh_346 (by unfold vp_in; decide) (by decide) ?_
    refine o_if_le (off := 82) 124 (by decide +kernel) (by decide) (fun q => ?_) (fun q => ?_)
    · replace h := h.1 q
      exact f_vret rfl (by decide +kernel) rfl h
    · replace h := h.2 q
      refine o_aload_n (k := 0) 0 (by decide +kernel) rfl ?_
      refine o_aload_n (k := 0) 0 (by decide +kernel) rfl ?_
      refine f_getR (r := 346) (t := 12) (k := 0) (i := 7) (by decide +kernel) sh_345 rfl (by decide) lk_1361 (by simp [x_ty, tyX12]) (gr_12_0 sh_345) ?_
      refine o_iconst (n := 0) (v := 0) (by decide +kernel) (by decide) ?_
      refine f_iald (k := 0) (by decide +kernel) sh_346 (by unfold vp_in; decide) (by decide) ?_
      refine f_callVI (μ' := mX12_draw) (i := 417) (vs := [.int (t1.1 346 0)]) (by decide +kernel) lk_1819 (vok_mX12_draw) sh_345 rfl rfl rfl rfl (Nat.le_of_ble_eq_true rfl) ?_
      refine x_CI.mono h (fun t3 a4 h => ?_)
      refine o_istore_n (k := 1) (L' := [(1, .int a4), (0, .ref 345)]) (by decide +kernel) (by decide) rfl ?_
      refine o_aload_n (k := 0) 1 (by decide +kernel) rfl ?_
      refine o_aload_n (k := 0) 1 (by decide +kernel) rfl ?_
      refine f_getR (r := 346) (t := 12) (k := 0) (i := 7) (by decide +kernel) sh_345 rfl (by decide) lk_1361 (by simp [x_ty, tyX12]) (gr_12_0 sh_345) ?_
      refine o_iconst (n := 1) (v := 1) (by decide +kernel) (by decide) ?_
      refine f_iald (k := 1) (by decide +kernel) sh_346 (by unfold vp_in; decide) (by decide) ?_
      refine f_callVI (μ' := mX12_draw) (i := 417) (vs := [.int (t3.1 346 1)]) (by decide +kernel) lk_1819 (vok_mX12_draw) sh_345 rfl rfl rfl rfl (Nat.le_of_ble_eq_true rfl) ?_
      refine x_CI.mono h (fun t5 a6 h => ?_)
      refine o_istore_n (k := 2) (L' := [(2, .int a6), (1, .int a4), (0, .ref 345)]) (by decide +kernel) (by decide) rfl ?_
      refine o_aload_n (k := 0) 2 (by decide +kernel) rfl ?_
      refine o_iload_n (k := 1) 1 (by decide +kernel) rfl ?_
      refine o_iload_n (k := 2) 0 (by decide +kernel) rfl ?_
      refine f_callVI (μ' := mX12_canPush) (i := 399) (vs := [.int a4, .int a6]) (by decide +kernel) lk_1712 (vok_mX12_canPush) sh_345 rfl rfl rfl rfl (Nat.le_of_ble_eq_true rfl) ?_
      refine x_CI.mono h (fun t7 a8 h => ?_)
      refine o_if_eq (off := 9) 82 (by decide +kernel) (by decide) (fun q => ?_) (fun q => ?_)
      · replace h := h.1 q
        refine o_goto (off := 42) 124 (by decide +kernel) (by decide) ?_
        exact f_vret rfl (by decide +kernel) rfl h
      · replace h := h.2 q
        refine o_aload_n (k := 0) 2 (by decide +kernel) rfl ?_
        refine o_iload_n (k := 1) 1 (by decide +kernel) rfl ?_
        refine o_iload_n (k := 2) 0 (by decide +kernel) rfl ?_
        refine f_callVV (μ' := mX12_pushes) (i := 405) (vs := [.int a4, .int a6]) (by decide +kernel) lk_1720 (vok_mX12_pushes) sh_345 rfl rfl rfl rfl (Nat.le_of_ble_eq_true rfl) ?_
        refine x_CV.mono h (fun t9 h => ?_)
        refine o_goto (off := 42) 124 (by decide +kernel) (by decide) ?_
        exact f_vret rfl (by decide +kernel) rfl h
  replace h := h.2 c0
  by_cases c1 : a2 = 1
  · replace h := h.1 c1
    refine o_tableIn (off := 30) (tgt := 36) (d_X12_happens_6) (by rw [c1]; decide) (by rw [c1]; decide) (by rw [c1]; rfl) (by decide) ?_
    refine o_aload_n (k := 0) 0 (by decide +kernel) rfl ?_
    refine f_getR (r := 346) (t := 12) (k := 0) (i := 7) (by decide +kernel) sh_345 rfl (by decide) lk_1361 (by simp [x_ty, tyX12]) (gr_12_0 sh_345) ?_
    refine o_iconst (n := 1) (v := 1) (by decide +kernel) (by decide) ?_
    refine f_iald (k := 1) (by decide +kernel) sh_346 (by unfold vp_in; decide) (by decide) ?_
    refine o_if_le (off := 82) 124 (by decide +kernel) (by decide) (fun q => ?_) (fun q => ?_)
    · replace h := h.1 q
      exact f_vret rfl (by decide +kernel) rfl h
    · replace h := h.2 q
      refine o_aload_n (k := 0) 0 (by decide +kernel) rfl ?_
      refine o_aload_n (k := 0) 0 (by decide +kernel) rfl ?_
      refine f_getR (r := 346) (t := 12) (k := 0) (i := 7) (by decide +kernel) sh_345 rfl (by decide) lk_1361 (by simp [x_ty, tyX12]) (gr_12_0 sh_345) ?_
      refine o_iconst (n := 0) (v := 0) (by decide +kernel) (by decide) ?_
      refine f_iald (k := 0) (by decide +kernel) sh_346 (by unfold vp_in; decide) (by decide) ?_
      refine f_callVI (μ' := mX12_draw) (i := 417) (vs := [.int (t1.1 346 0)]) (by decide +kernel) lk_1819 (vok_mX12_draw) sh_345 rfl rfl rfl rfl (Nat.le_of_ble_eq_true rfl) ?_
      refine x_CI.mono h (fun t11 a12 h => ?_)
      refine o_istore_n (k := 1) (L' := [(1, .int a12), (0, .ref 345)]) (by decide +kernel) (by decide) rfl ?_
      refine o_aload_n (k := 0) 1 (by decide +kernel) rfl ?_
      refine o_aload_n (k := 0) 1 (by decide +kernel) rfl ?_
      refine f_getR (r := 346) (t := 12) (k := 0) (i := 7) (by decide +kernel) sh_345 rfl (by decide) lk_1361 (by simp [x_ty, tyX12]) (gr_12_0 sh_345) ?_
      refine o_iconst (n := 1) (v := 1) (by decide +kernel) (by decide) ?_
      refine f_iald (k := 1) (by decide +kernel) sh_346 (by unfold vp_in; decide) (by decide) ?_
      refine f_callVI (μ' := mX12_draw) (i := 417) (vs := [.int (t11.1 346 1)]) (by decide +kernel) lk_1819 (vok_mX12_draw) sh_345 rfl rfl rfl rfl (Nat.le_of_ble_eq_true rfl) ?_
      refine x_CI.mono h (fun t13 a14 h => ?_)
      refine o_istore_n (k := 2) (L' := [(2, .int a14), (1, .int a12), (0, .ref 345)]) (by decide +kernel) (by decide) rfl ?_
      refine o_aload_n (k := 0) 2 (by decide +kernel) rfl ?_
      refine o_iload_n (k := 1) 1 (by decide +kernel) rfl ?_
      refine o_iload_n (k := 2) 0 (by decide +kernel) rfl ?_
      refine f_callVI (μ' := mX12_canPush) (i := 399) (vs := [.int a12, .int a14]) (by decide +kernel) lk_1712 (vok_mX12_canPush) sh_345 rfl rfl rfl rfl (Nat.le_of_ble_eq_true rfl) ?_
      refine x_CI.mono h (fun t15 a16 h => ?_)
      refine o_if_eq (off := 9) 82 (by decide +kernel) (by decide) (fun q => ?_) (fun q => ?_)
      · replace h := h.1 q
        refine o_goto (off := 42) 124 (by decide +kernel) (by decide) ?_
        exact f_vret rfl (by decide +kernel) rfl h
      · replace h := h.2 q
        refine o_aload_n (k := 0) 2 (by decide +kernel) rfl ?_
        refine o_iload_n (k := 1) 1 (by decide +kernel) rfl ?_
        refine o_iload_n (k := 2) 0 (by decide +kernel) rfl ?_
        refine f_callVV (μ' := mX12_pushes) (i := 405) (vs := [.int a12, .int a14]) (by decide +kernel) lk_1720 (vok_mX12_pushes) sh_345 rfl rfl rfl rfl (Nat.le_of_ble_eq_true rfl) ?_
        refine x_CV.mono h (fun t17 h => ?_)
        refine o_goto (off := 42) 124 (by decide +kernel) (by decide) ?_
        exact f_vret rfl (by decide +kernel) rfl h
  replace h := h.2 c1
  by_cases c2 : a2 = 2
  · replace h := h.1 c2
    refine o_tableIn (off := 79) (tgt := 85) (d_X12_happens_6) (by rw [c2]; decide) (by rw [c2]; decide) (by rw [c2]; rfl) (by decide) ?_
    refine o_aload_n (k := 0) 0 (by decide +kernel) rfl ?_
    refine f_getR (r := 370) (t := 12) (k := 41) (i := 90) (by decide +kernel) sh_345 rfl (by decide) lk_1402 (by simp [x_ty, tyX12]) (gr_12_41 sh_345) ?_
    refine o_iconst (n := 2) (v := 2) (by decide +kernel) (by decide) ?_
    refine f_iald (k := 2) (by decide +kernel) sh_370 (by unfold vp_in; decide) (by decide) ?_
    refine o_if_le (off := 33) 124 (by decide +kernel) (by decide) (fun q => ?_) (fun q => ?_)
    · replace h := h.1 q
      exact f_vret rfl (by decide +kernel) rfl h
    · replace h := h.2 q
      refine o_aload_n (k := 0) 0 (by decide +kernel) rfl ?_
      refine f_callVV (μ' := mX12_tips) (i := 411) (vs := []) (by decide +kernel) lk_1765 (vok_mX12_tips) sh_345 rfl rfl rfl rfl (Nat.le_of_ble_eq_true rfl) ?_
      refine x_CV.mono h (fun t19 h => ?_)
      refine o_goto (off := 26) 124 (by decide +kernel) (by decide) ?_
      exact f_vret rfl (by decide +kernel) rfl h
  replace h := h.2 c2
  by_cases c3 : a2 = 3
  · replace h := h.1 c3
    refine o_tableIn (off := 95) (tgt := 101) (d_X12_happens_6) (by rw [c3]; decide) (by rw [c3]; decide) (by rw [c3]; rfl) (by decide) ?_
    refine o_aload_n (k := 0) 0 (by decide +kernel) rfl ?_
    refine f_getR (r := 370) (t := 12) (k := 41) (i := 90) (by decide +kernel) sh_345 rfl (by decide) lk_1402 (by simp [x_ty, tyX12]) (gr_12_41 sh_345) ?_
    refine o_iconst (n := 4) (v := 4) (by decide +kernel) (by decide) ?_
    refine o_bipush (n := 99) (v := 99) (by decide +kernel) (by decide) ?_
    refine f_iast (k := 4) (by decide +kernel) sh_370 (by unfold vp_in; decide) (by decide) ?_
    refine f_name (fun t21 et21 => ?_)
    replace h := h t21 et21
    refine o_goto (off := 15) 124 (by decide +kernel) (by decide) ?_
    exact f_vret rfl (by decide +kernel) rfl h
  replace h := h.2 c3
  refine o_tableOut (tgt := 112) (d_X12_happens_6) (by have := x_ne (z := 0) (by decide) c0; have := x_ne (z := 1) (by decide) c1; have := x_ne (z := 2) (by decide) c2; have := x_ne (z := 3) (by decide) c3; omega) (by decide) ?_
  refine o_aload_n (k := 0) 0 (by decide +kernel) rfl ?_
  refine f_callVI (μ' := mX12_canPass) (i := 420) (vs := []) (by decide +kernel) lk_1823 (vok_mX12_canPass) sh_345 rfl rfl rfl rfl (Nat.le_of_ble_eq_true rfl) ?_
  refine x_CI.mono h (fun t22 a23 h => ?_)
  refine o_if_eq (off := 8) 124 (by decide +kernel) (by decide) (fun q => ?_) (fun q => ?_)
  · replace h := h.1 q
    exact f_vret rfl (by decide +kernel) rfl h
  · replace h := h.2 q
    refine o_aload_n (k := 0) 0 (by decide +kernel) rfl ?_
    refine f_callVI (μ' := mX12_minutePasses) (i := 414) (vs := []) (by decide +kernel) lk_1781 (vok_mX12_minutePasses) sh_345 rfl rfl rfl rfl (Nat.le_of_ble_eq_true rfl) ?_
    refine x_CI.mono h (fun t24 a25 h => ?_)
    refine o_istore_n (k := 1) (L' := [(1, .int a25), (0, .ref 345)]) (by decide +kernel) (by decide) rfl ?_
    exact f_vret rfl (by decide +kernel) rfl h
set_option maxRecDepth 20000 in
theorem e_X12_years {d : Nat} {K : x_T → Int32 → Prop} {v1 : Int32} {v2 : Int32} {τ : x_T} (h : x_CI d mX12_in [.int v1, .int 0, .int 9999] τ (fun t1 a2 => (a2 = 0 → K t1 (-1)) ∧ (¬ a2 = 0 → x_CI d mX12_in [.int v2, .int 1, .int 30] t1 (fun t3 a4 => (a4 = 0 → K t3 (-1)) ∧ (¬ a4 = 0 → (¬ t3.1 346 0 = 0 → x_CV d mX12_keepsStep [.ref 345] t3 (fun t5 => x_CV d mX12_laysNow [.ref 345] t5 (fun t7 => ∀ t9, t9 = x_w1 t7 370 6 ((v1 * 2) + 89) → (x_WI (d + 1) mX12_years K 55 [(0, .ref 345), (2, .int v2), (3, .int 0)] [] t9)))) ∧ (t3.1 346 0 = 0 → K t3 (-1))))))) : x_CI (d + 1) mX12_years [.ref 345, .int v1, .int v2] τ K := by
  refine x_CI_of (by decide) (Nat.le_of_ble_eq_true rfl) ?_
  show x_WI (d + 1) mX12_years K 0 [(0, .ref 345), (1, .int v1), (2, .int v2)] [] τ
  refine o_iload_n (k := 1) 1 (by decide +kernel) rfl ?_
  refine o_iconst (n := 0) (v := 0) (by decide +kernel) (by decide) ?_
  refine o_sipush (n := 9999) (v := 9999) (by decide +kernel) (by decide) ?_
  refine f_callSI (μ' := mX12_in) (i := 113) (vs := [.int v1, .int 0, .int 9999]) (by decide +kernel) lk_1508 (cok_mX12_in) rfl (stt_mX12_in) rfl rfl (Nat.le_of_ble_eq_true rfl) ?_
  refine x_CI.mono h (fun t1 a2 h => ?_)
  refine o_if_eq (off := 22) 30 (by decide +kernel) (by decide) (fun q => ?_) (fun q => ?_)
  · replace h := h.1 q
    refine o_iconst (n := -1) (v := (-1)) (by decide +kernel) (by decide) ?_
    exact f_iret (ty := .int) rfl rfl (by decide +kernel) rfl h
  · replace h := h.2 q
    refine o_iload_n (k := 2) 2 (by decide +kernel) rfl ?_
    refine o_iconst (n := 1) (v := 1) (by decide +kernel) (by decide) ?_
    refine o_bipush (n := 30) (v := 30) (by decide +kernel) (by decide) ?_
    refine f_callSI (μ' := mX12_in) (i := 113) (vs := [.int v2, .int 1, .int 30]) (by decide +kernel) lk_1508 (cok_mX12_in) rfl (stt_mX12_in) rfl rfl (Nat.le_of_ble_eq_true rfl) ?_
    refine x_CI.mono h (fun t3 a4 h => ?_)
    refine o_if_eq (off := 12) 30 (by decide +kernel) (by decide) (fun q => ?_) (fun q => ?_)
    · replace h := h.1 q
      refine o_iconst (n := -1) (v := (-1)) (by decide +kernel) (by decide) ?_
      exact f_iret (ty := .int) rfl rfl (by decide +kernel) rfl h
    · replace h := h.2 q
      refine o_aload_n (k := 0) 0 (by decide +kernel) rfl ?_
      refine f_getR (r := 346) (t := 12) (k := 0) (i := 7) (by decide +kernel) sh_345 rfl (by decide) lk_1361 (by simp [x_ty, tyX12]) (gr_12_0 sh_345) ?_
      refine o_iconst (n := 0) (v := 0) (by decide +kernel) (by decide) ?_
      refine f_iald (k := 0) (by decide +kernel) sh_346 (by unfold vp_in; decide) (by decide) ?_
      refine o_if_ne (off := 5) 32 (by decide +kernel) (by decide) (fun q => ?_) (fun q => ?_)
      · replace h := h.1 q
        refine o_aload_n (k := 0) 0 (by decide +kernel) rfl ?_
        refine f_callVV (μ' := mX12_keepsStep) (i := 402) (vs := []) (by decide +kernel) lk_1716 (vok_mX12_keepsStep) sh_345 rfl rfl rfl rfl (Nat.le_of_ble_eq_true rfl) ?_
        refine x_CV.mono h (fun t5 h => ?_)
        refine o_aload_n (k := 0) 0 (by decide +kernel) rfl ?_
        refine f_callVV (μ' := mX12_laysNow) (i := 396) (vs := []) (by decide +kernel) lk_1704 (vok_mX12_laysNow) sh_345 rfl rfl rfl rfl (Nat.le_of_ble_eq_true rfl) ?_
        refine x_CV.mono h (fun t7 h => ?_)
        refine o_aload_n (k := 0) 0 (by decide +kernel) rfl ?_
        refine f_getR (r := 370) (t := 12) (k := 41) (i := 90) (by decide +kernel) sh_345 rfl (by decide) lk_1402 (by simp [x_ty, tyX12]) (gr_12_41 sh_345) ?_
        refine o_bipush (n := 6) (v := 6) (by decide +kernel) (by decide) ?_
        refine o_iload_n (k := 1) 1 (by decide +kernel) rfl ?_
        refine o_iconst (n := 2) (v := 2) (by decide +kernel) (by decide) ?_
        refine o_imul (by decide +kernel) ?_
        refine o_bipush (n := 89) (v := 89) (by decide +kernel) (by decide) ?_
        refine o_iadd (by decide +kernel) ?_
        refine f_iast (k := 6) (by decide +kernel) sh_370 (by unfold vp_in; decide) (by decide) ?_
        refine f_name (fun t9 et9 => ?_)
        replace h := h t9 et9
        refine o_iconst (n := 0) (v := 0) (by decide +kernel) (by decide) ?_
        refine o_istore_n (k := 3) (L' := [(3, .int 0), (0, .ref 345), (1, .int v1), (2, .int v2)]) (by decide +kernel) (by decide) rfl ?_
        refine o_sub [1, 3, 0] rfl ?_
        exact h
      · replace h := h.2 q
        refine o_iconst (n := -1) (v := (-1)) (by decide +kernel) (by decide) ?_
        exact f_iret (ty := .int) rfl rfl (by decide +kernel) rfl h
set_option maxRecDepth 20000 in
theorem k_X12_years_55 {d : Nat} {K : x_T → Int32 → Prop} {v2 : Int32} {v3 : Int32} {τ : x_T} (h : (v2 ≤ v3 → x_CV d mX12_keepsNow [.ref 345] τ (fun t1 => K t1 (t1.1 370 5))) ∧ (¬ v2 ≤ v3 → x_CV d mX12_happens [.ref 345] τ (fun t3 => ∀ y5, y5 = v3 + 1 → (x_WI (d + 1) mX12_years K 55 [(0, .ref 345), (2, .int v2), (3, .int y5)] [] t3)))) : x_WI (d + 1) mX12_years K 55 [(0, .ref 345), (2, .int v2), (3, .int v3)] [] τ := by
  refine o_iload_n (k := 3) 2 (by decide +kernel) rfl ?_
  refine o_iload_n (k := 2) 1 (by decide +kernel) rfl ?_
  refine o_icmp_ge (off := 13) 70 (by decide +kernel) (by decide) (fun q => ?_) (fun q => ?_)
  · replace h := h.1 q
    refine o_aload_n (k := 0) 0 (by decide +kernel) rfl ?_
    refine f_callVV (μ' := mX12_keepsNow) (i := 408) (vs := []) (by decide +kernel) lk_1757 (vok_mX12_keepsNow) sh_345 rfl rfl rfl rfl (Nat.le_of_ble_eq_true rfl) ?_
    refine x_CV.mono h (fun t1 h => ?_)
    refine o_aload_n (k := 0) 0 (by decide +kernel) rfl ?_
    refine f_getR (r := 370) (t := 12) (k := 41) (i := 90) (by decide +kernel) sh_345 rfl (by decide) lk_1402 (by simp [x_ty, tyX12]) (gr_12_41 sh_345) ?_
    refine o_iconst (n := 5) (v := 5) (by decide +kernel) (by decide) ?_
    refine f_iald (k := 5) (by decide +kernel) sh_370 (by unfold vp_in; decide) (by decide) ?_
    exact f_iret (ty := .int) rfl rfl (by decide +kernel) rfl h
  · replace h := h.2 q
    refine o_aload_n (k := 0) 0 (by decide +kernel) rfl ?_
    refine f_callVV (μ' := mX12_happens) (i := 424) (vs := []) (by decide +kernel) lk_1815 (vok_mX12_happens) sh_345 rfl rfl rfl rfl (Nat.le_of_ble_eq_true rfl) ?_
    refine x_CV.mono h (fun t3 h => ?_)
    obtain ⟨y5, ey5⟩ : ∃ y : Int32, y = v3 + 1 := ⟨_, rfl⟩
    replace h := h y5 ey5
    refine o_iinc (i := 3) (n := 1) (v := y5) (L' := [(3, .int y5), (0, .ref 345), (2, .int v2)]) 2 (by decide +kernel) rfl (by rw [ey5]; rfl) (by decide) rfl ?_
    refine o_goto (off := -12) 55 (by decide +kernel) (by decide) ?_
    refine o_sub [1, 2, 0] rfl ?_
    exact h
set_option maxRecDepth 20000 in
theorem e_X12_minutes {d : Nat} {K : x_T → Int32 → Prop} {v1 : Int32} {τ : x_T} (h : x_WI (d + 1) mX12_minutes K 2 [(0, .ref 345), (1, .int v1), (2, .int 0)] [] τ) : x_CI (d + 1) mX12_minutes [.ref 345, .int v1] τ K := by
  refine x_CI_of (by decide) (Nat.le_of_ble_eq_true rfl) ?_
  show x_WI (d + 1) mX12_minutes K 0 [(0, .ref 345), (1, .int v1)] [] τ
  refine o_iconst (n := 0) (v := 0) (by decide +kernel) (by decide) ?_
  refine o_istore_n (k := 2) (L' := [(2, .int 0), (0, .ref 345), (1, .int v1)]) (by decide +kernel) (by decide) rfl ?_
  refine o_sub [1, 2, 0] rfl ?_
  exact h
set_option maxRecDepth 20000 in
theorem k_X12_minutes_2 {d : Nat} {K : x_T → Int32 → Prop} {v1 : Int32} {v2 : Int32} {τ : x_T} (h : (v1 ≤ v2 → K τ 1) ∧ (¬ v1 ≤ v2 → x_CI d mX12_minute [.ref 345, .int 1] τ (fun t1 a2 => (¬ a2 = (-1) → ∀ y3, y3 = v2 + 1 → (x_WI (d + 1) mX12_minutes K 2 [(0, .ref 345), (1, .int v1), (2, .int y3)] [] t1)) ∧ (a2 = (-1) → K t1 0)))) : x_WI (d + 1) mX12_minutes K 2 [(0, .ref 345), (1, .int v1), (2, .int v2)] [] τ := by
  refine o_iload_n (k := 2) 2 (by decide +kernel) rfl ?_
  refine o_iload_n (k := 1) 1 (by decide +kernel) rfl ?_
  refine o_icmp_ge (off := 20) 24 (by decide +kernel) (by decide) (fun q => ?_) (fun q => ?_)
  · replace h := h.1 q
    refine o_iconst (n := 1) (v := 1) (by decide +kernel) (by decide) ?_
    exact f_iret (ty := .boolean) rfl (by decide) (by decide +kernel) rfl h
  · replace h := h.2 q
    refine o_aload_n (k := 0) 0 (by decide +kernel) rfl ?_
    refine o_iconst (n := 1) (v := 1) (by decide +kernel) (by decide) ?_
    refine f_callVI (μ' := mX12_minute) (i := 427) (vs := [.int 1]) (by decide +kernel) lk_1841 (vok_mX12_minute) sh_345 rfl rfl rfl rfl (Nat.le_of_ble_eq_true rfl) ?_
    refine x_CI.mono h (fun t1 a2 h => ?_)
    refine o_iconst (n := -1) (v := (-1)) (by decide +kernel) (by decide) ?_
    refine o_icmp_ne (off := 5) 18 (by decide +kernel) (by decide) (fun q => ?_) (fun q => ?_)
    · replace h := h.1 q
      obtain ⟨y3, ey3⟩ : ∃ y : Int32, y = v2 + 1 := ⟨_, rfl⟩
      replace h := h y3 ey3
      refine o_iinc (i := 2) (n := 1) (v := y3) (L' := [(2, .int y3), (0, .ref 345), (1, .int v1)]) 2 (by decide +kernel) rfl (by rw [ey3]; rfl) (by decide) rfl ?_
      refine o_goto (off := -19) 2 (by decide +kernel) (by decide) ?_
      refine o_sub [1, 2, 0] rfl ?_
      exact h
    · replace h := h.2 q
      refine o_iconst (n := 0) (v := 0) (by decide +kernel) (by decide) ?_
      exact f_iret (ty := .boolean) rfl (by decide) (by decide +kernel) rfl h
theorem d_X12_played_63 : decode mX12_played.2.1 63 = .ok (.tableswitch (151) (4) (10) #[(41), (61), (80), (100), (122), (131), (140)], 41) := by decide +kernel
set_option maxRecDepth 20000 in
theorem e_X12_played {d : Nat} {K : x_T → Int32 → Prop} {v1 : Int32} {τ : x_T} (h : x_CI d mX12_in [.int v1, .int 0, .int ((τ.1 346 2) - 1)] τ (fun t1 a2 => (¬ a2 = 0 → x_WI (d + 1) mX12_played K 21 [(0, .ref 345), (1, .int v1), (2, .int 0)] [] t1) ∧ (a2 = 0 → K t1 (-2)))) : x_CI (d + 1) mX12_played [.ref 345, .int v1] τ K := by
  refine x_CI_of (by decide) (Nat.le_of_ble_eq_true rfl) ?_
  show x_WI (d + 1) mX12_played K 0 [(0, .ref 345), (1, .int v1)] [] τ
  refine o_iload_n (k := 1) 1 (by decide +kernel) rfl ?_
  refine o_iconst (n := 0) (v := 0) (by decide +kernel) (by decide) ?_
  refine o_aload_n (k := 0) 0 (by decide +kernel) rfl ?_
  refine f_getR (r := 346) (t := 12) (k := 0) (i := 7) (by decide +kernel) sh_345 rfl (by decide) lk_1361 (by simp [x_ty, tyX12]) (gr_12_0 sh_345) ?_
  refine o_iconst (n := 2) (v := 2) (by decide +kernel) (by decide) ?_
  refine f_iald (k := 2) (by decide +kernel) sh_346 (by unfold vp_in; decide) (by decide) ?_
  refine o_iconst (n := 1) (v := 1) (by decide +kernel) (by decide) ?_
  refine o_isub (by decide +kernel) ?_
  refine f_callSI (μ' := mX12_in) (i := 113) (vs := [.int v1, .int 0, .int ((τ.1 346 2) - 1)]) (by decide +kernel) lk_1508 (cok_mX12_in) rfl (stt_mX12_in) rfl rfl (Nat.le_of_ble_eq_true rfl) ?_
  refine x_CI.mono h (fun t1 a2 h => ?_)
  refine o_if_ne (off := 6) 19 (by decide +kernel) (by decide) (fun q => ?_) (fun q => ?_)
  · replace h := h.1 q
    refine o_iconst (n := 0) (v := 0) (by decide +kernel) (by decide) ?_
    refine o_istore_n (k := 2) (L' := [(2, .int 0), (0, .ref 345), (1, .int v1)]) (by decide +kernel) (by decide) rfl ?_
    refine o_sub [1, 2, 0] rfl ?_
    exact h
  · replace h := h.2 q
    refine o_bipush (n := -2) (v := (-2)) (by decide +kernel) (by decide) ?_
    exact f_iret (ty := .int) rfl rfl (by decide +kernel) rfl h
set_option maxRecDepth 20000 in
theorem k_X12_played_21 {d : Nat} {K : x_T → Int32 → Prop} {v1 : Int32} {v2 : Int32} {τ : x_T} (h : vp_in v1 4 ∧ ((τ.1 349 v1.toNatClampNeg ≤ v2 → K τ (-1)) ∧ (¬ τ.1 349 v1.toNatClampNeg ≤ v2 → ∀ y1, y1 = (24 * v1) + v2 → (vp_in y1 96 ∧ (∀ y2, y2 = τ.1 352 y1.toNatClampNeg → (vp_in y1 96 ∧ (∀ y3, y3 = τ.1 353 y1.toNatClampNeg → (vp_in y1 96 ∧ (∀ y4, y4 = τ.1 350 y1.toNatClampNeg → ((y4 = 4 → x_CI d mX12_house [.ref 345, .int y2] τ (fun t5 a6 => (a6 = (-1) → x_WI (d + 1) mX12_played K 119 [(0, .ref 345), (1, .int v1), (2, .int v2)] [.int 0] t5) ∧ (¬ a6 = (-1) → x_WI (d + 1) mX12_played K 119 [(0, .ref 345), (1, .int v1), (2, .int v2)] [.int 1] t5))) ∧ (¬ y4 = 4 → (y4 = 5 → vp_in y1 96 ∧ (x_CI d mX12_lane [.ref 345, .int y2, .int y3, .int (τ.1 354 y1.toNatClampNeg)] τ (fun t7 a8 => x_WI (d + 1) mX12_played K 214 [(0, .ref 345), (1, .int v1), (2, .int v2), (6, .int a8)] [] t7))) ∧ (¬ y4 = 5 → (y4 = 6 → x_CI d mX12_pusher [.ref 345, .int y2] τ (fun t9 a10 => (a10 = (-1) → x_WI (d + 1) mX12_played K 158 [(0, .ref 345), (1, .int v1), (2, .int v2)] [.int 0] t9) ∧ (¬ a10 = (-1) → x_WI (d + 1) mX12_played K 158 [(0, .ref 345), (1, .int v1), (2, .int v2)] [.int 1] t9))) ∧ (¬ y4 = 6 → (y4 = 7 → x_CI d mX12_push [.ref 345, .int y2, .int y3] τ (fun t11 a12 => (a12 = (-1) → x_WI (d + 1) mX12_played K 180 [(0, .ref 345), (1, .int v1), (2, .int v2)] [.int 0] t11) ∧ (¬ a12 = (-1) → x_WI (d + 1) mX12_played K 180 [(0, .ref 345), (1, .int v1), (2, .int v2)] [.int 1] t11))) ∧ (¬ y4 = 7 → (y4 = 8 → x_CI d mX12_tip [.ref 345] τ (fun t13 a14 => x_WI (d + 1) mX12_played K 214 [(0, .ref 345), (1, .int v1), (2, .int v2), (6, .int a14)] [] t13)) ∧ (¬ y4 = 8 → (y4 = 9 → x_CI d mX12_mend [.ref 345] τ (fun t15 a16 => x_WI (d + 1) mX12_played K 214 [(0, .ref 345), (1, .int v1), (2, .int v2), (6, .int a16)] [] t15)) ∧ (¬ y4 = 9 → (y4 = 10 → x_CI d mX12_minutes [.ref 345, .int y2] τ (fun t17 a18 => x_WI (d + 1) mX12_played K 214 [(0, .ref 345), (1, .int v1), (2, .int v2), (6, .int a18)] [] t17)) ∧ (¬ y4 = 10 → (x_WI (d + 1) mX12_played K 214 [(0, .ref 345), (1, .int v1), (2, .int v2), (6, .int 1)] [] τ)))))))))))))))))) : x_WI (d + 1) mX12_played K 21 [(0, .ref 345), (1, .int v1), (2, .int v2)] [] τ := by
  refine o_iload_n (k := 2) 2 (by decide +kernel) rfl ?_
  refine o_aload_n (k := 0) 0 (by decide +kernel) rfl ?_
  refine f_getR (r := 349) (t := 12) (k := 6) (i := 27) (by decide +kernel) sh_345 rfl (by decide) lk_1367 (by simp [x_ty, tyX12]) (gr_12_6 sh_345) ?_
  refine o_iload_n (k := 1) 1 (by decide +kernel) rfl ?_
  obtain ⟨hi, h⟩ := h
  refine f_iald (by decide +kernel) sh_349 hi rfl ?_
  refine o_icmp_ge (off := 199) 227 (by decide +kernel) (by decide) (fun q => ?_) (fun q => ?_)
  · replace h := h.1 q
    refine o_iconst (n := -1) (v := (-1)) (by decide +kernel) (by decide) ?_
    exact f_iret (ty := .int) rfl rfl (by decide +kernel) rfl h
  · replace h := h.2 q
    refine o_bipush (n := 24) (v := 24) (by decide +kernel) (by decide) ?_
    refine o_iload_n (k := 1) 1 (by decide +kernel) rfl ?_
    refine o_imul (by decide +kernel) ?_
    refine o_iload_n (k := 2) 2 (by decide +kernel) rfl ?_
    refine o_iadd (by decide +kernel) ?_
    refine o_name (fun y1 ey1 => ?_)
    replace h := h y1 ey1
    refine o_istore_n (k := 3) (L' := [(3, .int y1), (0, .ref 345), (1, .int v1), (2, .int v2)]) (by decide +kernel) (by decide) rfl ?_
    refine o_aload_n (k := 0) 1 (by decide +kernel) rfl ?_
    refine f_getR (r := 352) (t := 12) (k := 9) (i := 36) (by decide +kernel) sh_345 rfl (by decide) lk_1370 (by simp [x_ty, tyX12]) (gr_12_9 sh_345) ?_
    refine o_iload_n (k := 3) 0 (by decide +kernel) rfl ?_
    obtain ⟨hi, h⟩ := h
    refine f_iald (by decide +kernel) sh_352 hi rfl ?_
    refine o_name (fun y2 ey2 => ?_)
    replace h := h y2 ey2
    refine o_istore (k := 4) (L' := [(4, .int y2), (3, .int y1), (0, .ref 345), (1, .int v1), (2, .int v2)]) (by decide +kernel) (by decide) rfl ?_
    refine o_aload_n (k := 0) 2 (by decide +kernel) rfl ?_
    refine f_getR (r := 353) (t := 12) (k := 10) (i := 39) (by decide +kernel) sh_345 rfl (by decide) lk_1371 (by simp [x_ty, tyX12]) (gr_12_10 sh_345) ?_
    refine o_iload_n (k := 3) 1 (by decide +kernel) rfl ?_
    obtain ⟨hi, h⟩ := h
    refine f_iald (by decide +kernel) sh_353 hi rfl ?_
    refine o_name (fun y3 ey3 => ?_)
    replace h := h y3 ey3
    refine o_istore (k := 5) (L' := [(5, .int y3), (4, .int y2), (3, .int y1), (0, .ref 345), (1, .int v1), (2, .int v2)]) (by decide +kernel) (by decide) rfl ?_
    refine o_iconst (n := 1) (v := 1) (by decide +kernel) (by decide) ?_
    refine o_istore (k := 6) (L' := [(6, .int 1), (5, .int y3), (4, .int y2), (3, .int y1), (0, .ref 345), (1, .int v1), (2, .int v2)]) (by decide +kernel) (by decide) rfl ?_
    refine o_aload_n (k := 0) 4 (by decide +kernel) rfl ?_
    refine f_getR (r := 350) (t := 12) (k := 7) (i := 30) (by decide +kernel) sh_345 rfl (by decide) lk_1368 (by simp [x_ty, tyX12]) (gr_12_7 sh_345) ?_
    refine o_iload_n (k := 3) 3 (by decide +kernel) rfl ?_
    obtain ⟨hi, h⟩ := h
    refine f_iald (by decide +kernel) sh_350 hi rfl ?_
    refine o_name (fun y4 ey4 => ?_)
    replace h := h y4 ey4
    by_cases c4 : y4 = 4
    · replace h := h.1 c4
      refine o_tableIn (off := 41) (tgt := 104) (d_X12_played_63) (by rw [c4]; decide) (by rw [c4]; decide) (by rw [c4]; rfl) (by decide) ?_
      refine o_aload_n (k := 0) 4 (by decide +kernel) rfl ?_
      refine o_iload (k := 4) 2 (by decide +kernel) rfl ?_
      refine f_callVI (μ' := mX12_house) (i := 430) (vs := [.int y2]) (by decide +kernel) lk_1831 (vok_mX12_house) sh_345 rfl rfl rfl rfl (Nat.le_of_ble_eq_true rfl) ?_
      refine x_CI.mono h (fun t5 a6 h => ?_)
      refine o_iconst (n := -1) (v := (-1)) (by decide +kernel) (by decide) ?_
      refine o_icmp_eq (off := 7) 118 (by decide +kernel) (by decide) (fun q => ?_) (fun q => ?_)
      · replace h := h.1 q
        refine o_iconst (n := 0) (v := 0) (by decide +kernel) (by decide) ?_
        refine o_sub [4, 5, 6] rfl ?_
        exact h
      · replace h := h.2 q
        refine o_iconst (n := 1) (v := 1) (by decide +kernel) (by decide) ?_
        refine o_goto (off := 4) 119 (by decide +kernel) (by decide) ?_
        refine o_sub [4, 5, 6] rfl ?_
        exact h
    replace h := h.2 c4
    by_cases c5 : y4 = 5
    · replace h := h.1 c5
      refine o_tableIn (off := 61) (tgt := 124) (d_X12_played_63) (by rw [c5]; decide) (by rw [c5]; decide) (by rw [c5]; rfl) (by decide) ?_
      refine o_aload_n (k := 0) 4 (by decide +kernel) rfl ?_
      refine o_iload (k := 4) 2 (by decide +kernel) rfl ?_
      refine o_iload (k := 5) 1 (by decide +kernel) rfl ?_
      refine o_aload_n (k := 0) 4 (by decide +kernel) rfl ?_
      refine f_getR (r := 354) (t := 12) (k := 11) (i := 42) (by decide +kernel) sh_345 rfl (by decide) lk_1372 (by simp [x_ty, tyX12]) (gr_12_11 sh_345) ?_
      refine o_iload_n (k := 3) 3 (by decide +kernel) rfl ?_
      obtain ⟨hi, h⟩ := h
      refine f_iald (by decide +kernel) sh_354 hi rfl ?_
      refine f_callVI (μ' := mX12_lane) (i := 433) (vs := [.int y2, .int y3, .int (τ.1 354 y1.toNatClampNeg)]) (by decide +kernel) lk_1832 (vok_mX12_lane) sh_345 rfl rfl rfl rfl (Nat.le_of_ble_eq_true rfl) ?_
      refine x_CI.mono h (fun t7 a8 h => ?_)
      refine o_istore (k := 6) (L' := [(6, .int a8), (5, .int y3), (4, .int y2), (3, .int y1), (0, .ref 345), (1, .int v1), (2, .int v2)]) (by decide +kernel) (by decide) rfl ?_
      refine o_goto (off := 74) 214 (by decide +kernel) (by decide) ?_
      refine o_sub [4, 5, 6, 0] rfl ?_
      exact h
    replace h := h.2 c5
    by_cases c6 : y4 = 6
    · replace h := h.1 c6
      refine o_tableIn (off := 80) (tgt := 143) (d_X12_played_63) (by rw [c6]; decide) (by rw [c6]; decide) (by rw [c6]; rfl) (by decide) ?_
      refine o_aload_n (k := 0) 4 (by decide +kernel) rfl ?_
      refine o_iload (k := 4) 2 (by decide +kernel) rfl ?_
      refine f_callVI (μ' := mX12_pusher) (i := 436) (vs := [.int y2]) (by decide +kernel) lk_1833 (vok_mX12_pusher) sh_345 rfl rfl rfl rfl (Nat.le_of_ble_eq_true rfl) ?_
      refine x_CI.mono h (fun t9 a10 h => ?_)
      refine o_iconst (n := -1) (v := (-1)) (by decide +kernel) (by decide) ?_
      refine o_icmp_eq (off := 7) 157 (by decide +kernel) (by decide) (fun q => ?_) (fun q => ?_)
      · replace h := h.1 q
        refine o_iconst (n := 0) (v := 0) (by decide +kernel) (by decide) ?_
        refine o_sub [4, 5, 6] rfl ?_
        exact h
      · replace h := h.2 q
        refine o_iconst (n := 1) (v := 1) (by decide +kernel) (by decide) ?_
        refine o_goto (off := 4) 158 (by decide +kernel) (by decide) ?_
        refine o_sub [4, 5, 6] rfl ?_
        exact h
    replace h := h.2 c6
    by_cases c7 : y4 = 7
    · replace h := h.1 c7
      refine o_tableIn (off := 100) (tgt := 163) (d_X12_played_63) (by rw [c7]; decide) (by rw [c7]; decide) (by rw [c7]; rfl) (by decide) ?_
      refine o_aload_n (k := 0) 4 (by decide +kernel) rfl ?_
      refine o_iload (k := 4) 2 (by decide +kernel) rfl ?_
      refine o_iload (k := 5) 1 (by decide +kernel) rfl ?_
      refine f_callVI (μ' := mX12_push) (i := 439) (vs := [.int y2, .int y3]) (by decide +kernel) lk_1834 (vok_mX12_push) sh_345 rfl rfl rfl rfl (Nat.le_of_ble_eq_true rfl) ?_
      refine x_CI.mono h (fun t11 a12 h => ?_)
      refine o_iconst (n := -1) (v := (-1)) (by decide +kernel) (by decide) ?_
      refine o_icmp_eq (off := 7) 179 (by decide +kernel) (by decide) (fun q => ?_) (fun q => ?_)
      · replace h := h.1 q
        refine o_iconst (n := 0) (v := 0) (by decide +kernel) (by decide) ?_
        refine o_sub [4, 5, 6] rfl ?_
        exact h
      · replace h := h.2 q
        refine o_iconst (n := 1) (v := 1) (by decide +kernel) (by decide) ?_
        refine o_goto (off := 4) 180 (by decide +kernel) (by decide) ?_
        refine o_sub [4, 5, 6] rfl ?_
        exact h
    replace h := h.2 c7
    by_cases c8 : y4 = 8
    · replace h := h.1 c8
      refine o_tableIn (off := 122) (tgt := 185) (d_X12_played_63) (by rw [c8]; decide) (by rw [c8]; decide) (by rw [c8]; rfl) (by decide) ?_
      refine o_aload_n (k := 0) 4 (by decide +kernel) rfl ?_
      refine f_callVI (μ' := mX12_tip) (i := 442) (vs := []) (by decide +kernel) lk_1835 (vok_mX12_tip) sh_345 rfl rfl rfl rfl (Nat.le_of_ble_eq_true rfl) ?_
      refine x_CI.mono h (fun t13 a14 h => ?_)
      refine o_istore (k := 6) (L' := [(6, .int a14), (5, .int y3), (4, .int y2), (3, .int y1), (0, .ref 345), (1, .int v1), (2, .int v2)]) (by decide +kernel) (by decide) rfl ?_
      refine o_goto (off := 23) 214 (by decide +kernel) (by decide) ?_
      refine o_sub [4, 5, 6, 0] rfl ?_
      exact h
    replace h := h.2 c8
    by_cases c9 : y4 = 9
    · replace h := h.1 c9
      refine o_tableIn (off := 131) (tgt := 194) (d_X12_played_63) (by rw [c9]; decide) (by rw [c9]; decide) (by rw [c9]; rfl) (by decide) ?_
      refine o_aload_n (k := 0) 4 (by decide +kernel) rfl ?_
      refine f_callVI (μ' := mX12_mend) (i := 445) (vs := []) (by decide +kernel) lk_1836 (vok_mX12_mend) sh_345 rfl rfl rfl rfl (Nat.le_of_ble_eq_true rfl) ?_
      refine x_CI.mono h (fun t15 a16 h => ?_)
      refine o_istore (k := 6) (L' := [(6, .int a16), (5, .int y3), (4, .int y2), (3, .int y1), (0, .ref 345), (1, .int v1), (2, .int v2)]) (by decide +kernel) (by decide) rfl ?_
      refine o_goto (off := 14) 214 (by decide +kernel) (by decide) ?_
      refine o_sub [4, 5, 6, 0] rfl ?_
      exact h
    replace h := h.2 c9
    by_cases c10 : y4 = 10
    · replace h := h.1 c10
      refine o_tableIn (off := 140) (tgt := 203) (d_X12_played_63) (by rw [c10]; decide) (by rw [c10]; decide) (by rw [c10]; rfl) (by decide) ?_
      refine o_aload_n (k := 0) 4 (by decide +kernel) rfl ?_
      refine o_iload (k := 4) 2 (by decide +kernel) rfl ?_
      refine f_callVI (μ' := mX12_minutes) (i := 448) (vs := [.int y2]) (by decide +kernel) lk_1837 (vok_mX12_minutes) sh_345 rfl rfl rfl rfl (Nat.le_of_ble_eq_true rfl) ?_
      refine x_CI.mono h (fun t17 a18 h => ?_)
      refine o_istore (k := 6) (L' := [(6, .int a18), (5, .int y3), (4, .int y2), (3, .int y1), (0, .ref 345), (1, .int v1), (2, .int v2)]) (by decide +kernel) (by decide) rfl ?_
      refine o_goto (off := 3) 214 (by decide +kernel) (by decide) ?_
      refine o_sub [4, 5, 6, 0] rfl ?_
      exact h
    replace h := h.2 c10
    refine o_tableOut (tgt := 214) (d_X12_played_63) (by have := x_ne (z := 4) (by decide) c4; have := x_ne (z := 5) (by decide) c5; have := x_ne (z := 6) (by decide) c6; have := x_ne (z := 7) (by decide) c7; have := x_ne (z := 8) (by decide) c8; have := x_ne (z := 9) (by decide) c9; have := x_ne (z := 10) (by decide) c10; omega) (by decide) ?_
    refine o_sub [4, 5, 6, 0] rfl ?_
    exact h
set_option maxRecDepth 20000 in
theorem k_X12_played_119 {d : Nat} {K : x_T → Int32 → Prop} {v1 : Int32} {v2 : Int32} {s0 : Int32} {τ : x_T} (h : x_WI (d + 1) mX12_played K 214 [(0, .ref 345), (1, .int v1), (2, .int v2), (6, .int s0)] [] τ) : x_WI (d + 1) mX12_played K 119 [(0, .ref 345), (1, .int v1), (2, .int v2)] [.int s0] τ := by
  refine o_istore (k := 6) (L' := [(6, .int s0), (0, .ref 345), (1, .int v1), (2, .int v2)]) (by decide +kernel) (by decide) rfl ?_
  refine o_goto (off := 93) 214 (by decide +kernel) (by decide) ?_
  refine o_sub [1, 2, 3, 0] rfl ?_
  exact h
set_option maxRecDepth 20000 in
theorem k_X12_played_158 {d : Nat} {K : x_T → Int32 → Prop} {v1 : Int32} {v2 : Int32} {s0 : Int32} {τ : x_T} (h : x_WI (d + 1) mX12_played K 214 [(0, .ref 345), (1, .int v1), (2, .int v2), (6, .int s0)] [] τ) : x_WI (d + 1) mX12_played K 158 [(0, .ref 345), (1, .int v1), (2, .int v2)] [.int s0] τ := by
  refine o_istore (k := 6) (L' := [(6, .int s0), (0, .ref 345), (1, .int v1), (2, .int v2)]) (by decide +kernel) (by decide) rfl ?_
  refine o_goto (off := 54) 214 (by decide +kernel) (by decide) ?_
  refine o_sub [1, 2, 3, 0] rfl ?_
  exact h
set_option maxRecDepth 20000 in
theorem k_X12_played_180 {d : Nat} {K : x_T → Int32 → Prop} {v1 : Int32} {v2 : Int32} {s0 : Int32} {τ : x_T} (h : x_WI (d + 1) mX12_played K 214 [(0, .ref 345), (1, .int v1), (2, .int v2), (6, .int s0)] [] τ) : x_WI (d + 1) mX12_played K 180 [(0, .ref 345), (1, .int v1), (2, .int v2)] [.int s0] τ := by
  refine o_istore (k := 6) (L' := [(6, .int s0), (0, .ref 345), (1, .int v1), (2, .int v2)]) (by decide +kernel) (by decide) rfl ?_
  refine o_goto (off := 32) 214 (by decide +kernel) (by decide) ?_
  refine o_sub [1, 2, 3, 0] rfl ?_
  exact h
set_option maxRecDepth 20000 in
theorem k_X12_played_214 {d : Nat} {K : x_T → Int32 → Prop} {v1 : Int32} {v2 : Int32} {v6 : Int32} {τ : x_T} (h : (¬ v6 = 0 → ∀ y1, y1 = v2 + 1 → (x_WI (d + 1) mX12_played K 21 [(0, .ref 345), (1, .int v1), (2, .int y1)] [] τ)) ∧ (v6 = 0 → K τ v2)) : x_WI (d + 1) mX12_played K 214 [(0, .ref 345), (1, .int v1), (2, .int v2), (6, .int v6)] [] τ := by
  refine o_iload (k := 6) 3 (by decide +kernel) rfl ?_
  refine o_if_ne (off := 5) 221 (by decide +kernel) (by decide) (fun q => ?_) (fun q => ?_)
  · replace h := h.1 q
    obtain ⟨y1, ey1⟩ : ∃ y : Int32, y = v2 + 1 := ⟨_, rfl⟩
    replace h := h y1 ey1
    refine o_iinc (i := 2) (n := 1) (v := y1) (L' := [(2, .int y1), (0, .ref 345), (1, .int v1), (6, .int v6)]) 2 (by decide +kernel) rfl (by rw [ey1]; rfl) (by decide) rfl ?_
    refine o_goto (off := -203) 21 (by decide +kernel) (by decide) ?_
    refine o_sub [1, 2, 0] rfl ?_
    exact h
  · replace h := h.2 q
    refine o_iload_n (k := 2) 2 (by decide +kernel) rfl ?_
    exact f_iret (ty := .int) rfl rfl (by decide +kernel) rfl h
theorem d_X12_of_17 : decode mX12_of.2.1 17 = .ok (.tableswitch (83) (0) (4) #[(35), (45), (55), (65), (77)], 35) := by decide +kernel
set_option maxRecDepth 20000 in
theorem e_X12_of {d : Nat} {K : x_T → Int32 → Prop} {v1 : Int32} {v2 : Int32} {τ : x_T} (h : x_CI d mX12_isHouse [.ref 345, .int v1] τ (fun t1 a2 => (¬ a2 = 0 → x_CV d mX12_laysNow [.ref 345] t1 (fun t3 => ((v2 = 0 → vp_in (10 + v1) 3670 ∧ (K t3 (t3.1 346 (10 + v1).toNatClampNeg))) ∧ (¬ v2 = 0 → (v2 = 1 → vp_in (7 + v1) 114 ∧ (K t3 (t3.1 370 (7 + v1).toNatClampNeg))) ∧ (¬ v2 = 1 → (v2 = 2 → vp_in (15 + v1) 114 ∧ (K t3 (t3.1 370 (15 + v1).toNatClampNeg))) ∧ (¬ v2 = 2 → (v2 = 3 → x_CI d mX12_hourAt [.ref 345, .int v1, .int (t3.1 370 0)] t3 (fun t5 a6 => K t5 a6)) ∧ (¬ v2 = 3 → (v2 = 4 → x_CI d mX12_earnsOf [.ref 345, .int v1] t3 (fun t7 a8 => K t7 a8)) ∧ (¬ v2 = 4 → (K t3 (-1000)))))))))) ∧ (a2 = 0 → K t1 (-1000)))) : x_CI (d + 1) mX12_of [.ref 345, .int v1, .int v2] τ K := by
  refine x_CI_of (by decide) (Nat.le_of_ble_eq_true rfl) ?_
  show x_WI (d + 1) mX12_of K 0 [(0, .ref 345), (1, .int v1), (2, .int v2)] [] τ
  refine o_aload_n (k := 0) 0 (by decide +kernel) rfl ?_
  refine o_iload_n (k := 1) 1 (by decide +kernel) rfl ?_
  refine f_callVI (μ' := mX12_isHouse) (i := 117) (vs := [.int v1]) (by decide +kernel) lk_1515 (vok_mX12_isHouse) sh_345 rfl rfl rfl rfl (Nat.le_of_ble_eq_true rfl) ?_
  refine x_CI.mono h (fun t1 a2 h => ?_)
  refine o_if_ne (off := 7) 12 (by decide +kernel) (by decide) (fun q => ?_) (fun q => ?_)
  · replace h := h.1 q
    refine o_aload_n (k := 0) 0 (by decide +kernel) rfl ?_
    refine f_callVV (μ' := mX12_laysNow) (i := 396) (vs := []) (by decide +kernel) lk_1704 (vok_mX12_laysNow) sh_345 rfl rfl rfl rfl (Nat.le_of_ble_eq_true rfl) ?_
    refine x_CV.mono h (fun t3 h => ?_)
    refine o_iload_n (k := 2) 2 (by decide +kernel) rfl ?_
    by_cases c0 : v2 = 0
    · replace h := h.1 c0
      refine o_tableIn (off := 35) (tgt := 52) (d_X12_of_17) (by rw [c0]; decide) (by rw [c0]; decide) (by rw [c0]; rfl) (by decide) ?_
      refine o_aload_n (k := 0) 0 (by decide +kernel) rfl ?_
      refine f_getR (r := 346) (t := 12) (k := 0) (i := 7) (by decide +kernel) sh_345 rfl (by decide) lk_1361 (by simp [x_ty, tyX12]) (gr_12_0 sh_345) ?_
      refine o_bipush (n := 10) (v := 10) (by decide +kernel) (by decide) ?_
      refine o_iload_n (k := 1) 1 (by decide +kernel) rfl ?_
      refine o_iadd (by decide +kernel) ?_
      obtain ⟨hi, h⟩ := h
      refine f_iald (by decide +kernel) sh_346 hi rfl ?_
      exact f_iret (ty := .int) rfl rfl (by decide +kernel) rfl h
    replace h := h.2 c0
    by_cases c1 : v2 = 1
    · replace h := h.1 c1
      refine o_tableIn (off := 45) (tgt := 62) (d_X12_of_17) (by rw [c1]; decide) (by rw [c1]; decide) (by rw [c1]; rfl) (by decide) ?_
      refine o_aload_n (k := 0) 0 (by decide +kernel) rfl ?_
      refine f_getR (r := 370) (t := 12) (k := 41) (i := 90) (by decide +kernel) sh_345 rfl (by decide) lk_1402 (by simp [x_ty, tyX12]) (gr_12_41 sh_345) ?_
      refine o_bipush (n := 7) (v := 7) (by decide +kernel) (by decide) ?_
      refine o_iload_n (k := 1) 1 (by decide +kernel) rfl ?_
      refine o_iadd (by decide +kernel) ?_
      obtain ⟨hi, h⟩ := h
      refine f_iald (by decide +kernel) sh_370 hi rfl ?_
      exact f_iret (ty := .int) rfl rfl (by decide +kernel) rfl h
    replace h := h.2 c1
    by_cases c2 : v2 = 2
    · replace h := h.1 c2
      refine o_tableIn (off := 55) (tgt := 72) (d_X12_of_17) (by rw [c2]; decide) (by rw [c2]; decide) (by rw [c2]; rfl) (by decide) ?_
      refine o_aload_n (k := 0) 0 (by decide +kernel) rfl ?_
      refine f_getR (r := 370) (t := 12) (k := 41) (i := 90) (by decide +kernel) sh_345 rfl (by decide) lk_1402 (by simp [x_ty, tyX12]) (gr_12_41 sh_345) ?_
      refine o_bipush (n := 15) (v := 15) (by decide +kernel) (by decide) ?_
      refine o_iload_n (k := 1) 1 (by decide +kernel) rfl ?_
      refine o_iadd (by decide +kernel) ?_
      obtain ⟨hi, h⟩ := h
      refine f_iald (by decide +kernel) sh_370 hi rfl ?_
      exact f_iret (ty := .int) rfl rfl (by decide +kernel) rfl h
    replace h := h.2 c2
    by_cases c3 : v2 = 3
    · replace h := h.1 c3
      refine o_tableIn (off := 65) (tgt := 82) (d_X12_of_17) (by rw [c3]; decide) (by rw [c3]; decide) (by rw [c3]; rfl) (by decide) ?_
      refine o_aload_n (k := 0) 0 (by decide +kernel) rfl ?_
      refine o_iload_n (k := 1) 1 (by decide +kernel) rfl ?_
      refine o_aload_n (k := 0) 0 (by decide +kernel) rfl ?_
      refine f_getR (r := 370) (t := 12) (k := 41) (i := 90) (by decide +kernel) sh_345 rfl (by decide) lk_1402 (by simp [x_ty, tyX12]) (gr_12_41 sh_345) ?_
      refine o_iconst (n := 0) (v := 0) (by decide +kernel) (by decide) ?_
      refine f_iald (k := 0) (by decide +kernel) sh_370 (by unfold vp_in; decide) (by decide) ?_
      refine f_callVI (μ' := mX12_hourAt) (i := 372) (vs := [.int v1, .int (t3.1 370 0)]) (by decide +kernel) lk_1797 (vok_mX12_hourAt) sh_345 rfl rfl rfl rfl (Nat.le_of_ble_eq_true rfl) ?_
      refine x_CI.mono h (fun t5 a6 h => ?_)
      exact f_iret (ty := .int) rfl rfl (by decide +kernel) rfl h
    replace h := h.2 c3
    by_cases c4 : v2 = 4
    · replace h := h.1 c4
      refine o_tableIn (off := 77) (tgt := 94) (d_X12_of_17) (by rw [c4]; decide) (by rw [c4]; decide) (by rw [c4]; rfl) (by decide) ?_
      refine o_aload_n (k := 0) 0 (by decide +kernel) rfl ?_
      refine o_iload_n (k := 1) 1 (by decide +kernel) rfl ?_
      refine f_callVI (μ' := mX12_earnsOf) (i := 390) (vs := [.int v1]) (by decide +kernel) lk_1793 (vok_mX12_earnsOf) sh_345 rfl rfl rfl rfl (Nat.le_of_ble_eq_true rfl) ?_
      refine x_CI.mono h (fun t7 a8 h => ?_)
      exact f_iret (ty := .int) rfl rfl (by decide +kernel) rfl h
    replace h := h.2 c4
    refine o_tableOut (tgt := 100) (d_X12_of_17) (by have := x_ne (z := 0) (by decide) c0; have := x_ne (z := 1) (by decide) c1; have := x_ne (z := 2) (by decide) c2; have := x_ne (z := 3) (by decide) c3; have := x_ne (z := 4) (by decide) c4; omega) (by decide) ?_
    refine o_sipush (n := -1000) (v := (-1000)) (by decide +kernel) (by decide) ?_
    exact f_iret (ty := .int) rfl rfl (by decide +kernel) rfl h
  · replace h := h.2 q
    refine o_sipush (n := -1000) (v := (-1000)) (by decide +kernel) (by decide) ?_
    exact f_iret (ty := .int) rfl rfl (by decide +kernel) rfl h
