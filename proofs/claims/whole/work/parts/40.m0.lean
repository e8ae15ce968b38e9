set_option maxRecDepth 20000 in
theorem e_X12_in {d : Nat} {K : x_T → Int32 → Prop} {v0 : Int32} {v1 : Int32} {v2 : Int32} {τ : x_T} (h : (v0 < v1 → K τ 0) ∧ (¬ v0 < v1 → (v2 < v0 → K τ 0) ∧ (¬ v2 < v0 → K τ 1))) : x_CI d mX12_in [.int v0, .int v1, .int v2] τ K := by
  refine x_CI_of (by decide) (Nat.le_of_ble_eq_true rfl) ?_
  show x_WI d mX12_in K 0 [(0, .int v0), (1, .int v1), (2, .int v2)] [] τ
  refine o_iload_n (k := 0) 0 (by decide +kernel) rfl ?_
  refine o_iload_n (k := 1) 1 (by decide +kernel) rfl ?_
  refine o_icmp_lt (off := 12) 14 (by decide +kernel) (by decide) (fun q => ?_) (fun q => ?_)
  · replace h := h.1 q
    refine o_iconst (n := 0) (v := 0) (by decide +kernel) (by decide) ?_
    exact f_iret (ty := .boolean) rfl (by decide) (by decide +kernel) rfl h
  · replace h := h.2 q
    refine o_iload_n (k := 0) 0 (by decide +kernel) rfl ?_
    refine o_iload_n (k := 2) 2 (by decide +kernel) rfl ?_
    refine o_icmp_gt (off := 7) 14 (by decide +kernel) (by decide) (fun q => ?_) (fun q => ?_)
    · replace h := h.1 q
      refine o_iconst (n := 0) (v := 0) (by decide +kernel) (by decide) ?_
      exact f_iret (ty := .boolean) rfl (by decide) (by decide +kernel) rfl h
    · replace h := h.2 q
      refine o_iconst (n := 1) (v := 1) (by decide +kernel) (by decide) ?_
      refine o_goto (off := 4) 15 (by decide +kernel) (by decide) ?_
      exact f_iret (ty := .boolean) rfl (by decide) (by decide +kernel) rfl h
set_option maxRecDepth 20000 in
theorem e_X12_has {d : Nat} {K : x_T → Int32 → Prop} {v0 : Int32} {v1 : Int32} {τ : x_T} (h : (¬ (v0 >>> (v1 &&& 31)) &&& 1 = 1 → K τ 0) ∧ ((v0 >>> (v1 &&& 31)) &&& 1 = 1 → K τ 1)) : x_CI d mX12_has [.int v0, .int v1] τ K := by
  refine x_CI_of (by decide) (Nat.le_of_ble_eq_true rfl) ?_
  show x_WI d mX12_has K 0 [(0, .int v0), (1, .int v1)] [] τ
  refine o_iload_n (k := 0) 0 (by decide +kernel) rfl ?_
  refine o_iload_n (k := 1) 1 (by decide +kernel) rfl ?_
  refine o_ishr (by decide +kernel) ?_
  refine o_iconst (n := 1) (v := 1) (by decide +kernel) (by decide) ?_
  refine o_iand (by decide +kernel) ?_
  refine o_iconst (n := 1) (v := 1) (by decide +kernel) (by decide) ?_
  refine o_icmp_ne (off := 7) 13 (by decide +kernel) (by decide) (fun q => ?_) (fun q => ?_)
  · replace h := h.1 q
    refine o_iconst (n := 0) (v := 0) (by decide +kernel) (by decide) ?_
    exact f_iret (ty := .boolean) rfl (by decide) (by decide +kernel) rfl h
  · replace h := h.2 q
    refine o_iconst (n := 1) (v := 1) (by decide +kernel) (by decide) ?_
    refine o_goto (off := 4) 14 (by decide +kernel) (by decide) ?_
    exact f_iret (ty := .boolean) rfl (by decide) (by decide +kernel) rfl h
set_option maxRecDepth 20000 in
theorem e_X12_many {d : Nat} {K : x_T → Int32 → Prop} {v0 : Int32} {τ : x_T} (h : x_WI d mX12_many K 4 [(1, .int 0), (2, .int v0)] [] τ) : x_CI d mX12_many [.int v0] τ K := by
  refine x_CI_of (by decide) (Nat.le_of_ble_eq_true rfl) ?_
  show x_WI d mX12_many K 0 [(0, .int v0)] [] τ
  refine o_iconst (n := 0) (v := 0) (by decide +kernel) (by decide) ?_
  refine o_istore_n (k := 1) (L' := [(1, .int 0), (0, .int v0)]) (by decide +kernel) (by decide) rfl ?_
  refine o_iload_n (k := 0) 1 (by decide +kernel) rfl ?_
  refine o_istore_n (k := 2) (L' := [(2, .int v0), (1, .int 0), (0, .int v0)]) (by decide +kernel) (by decide) rfl ?_
  refine o_sub [1, 0] rfl ?_
  exact h
set_option maxRecDepth 20000 in
theorem k_X12_many_4 {d : Nat} {K : x_T → Int32 → Prop} {v1 : Int32} {v2 : Int32} {τ : x_T} (h : (v2 = 0 → K τ v1) ∧ (¬ v2 = 0 → ∀ y1, y1 = v1 + (v2 &&& 1) → (∀ y2, y2 = v2 >>> (1 &&& 31) → (x_WI d mX12_many K 4 [(1, .int y1), (2, .int y2)] [] τ)))) : x_WI d mX12_many K 4 [(1, .int v1), (2, .int v2)] [] τ := by
  refine o_iload_n (k := 2) 1 (by decide +kernel) rfl ?_
  refine o_if_eq (off := 16) 21 (by decide +kernel) (by decide) (fun q => ?_) (fun q => ?_)
  · replace h := h.1 q
    refine o_iload_n (k := 1) 0 (by decide +kernel) rfl ?_
    exact f_iret (ty := .int) rfl rfl (by decide +kernel) rfl h
  · replace h := h.2 q
    refine o_iload_n (k := 1) 0 (by decide +kernel) rfl ?_
    refine o_iload_n (k := 2) 1 (by decide +kernel) rfl ?_
    refine o_iconst (n := 1) (v := 1) (by decide +kernel) (by decide) ?_
    refine o_iand (by decide +kernel) ?_
    refine o_iadd (by decide +kernel) ?_
    refine o_name (fun y1 ey1 => ?_)
    replace h := h y1 ey1
    refine o_istore_n (k := 1) (L' := [(1, .int y1), (2, .int v2)]) (by decide +kernel) (by decide) rfl ?_
    refine o_iload_n (k := 2) 1 (by decide +kernel) rfl ?_
    refine o_iconst (n := 1) (v := 1) (by decide +kernel) (by decide) ?_
    refine o_ishr (by decide +kernel) ?_
    refine o_name (fun y2 ey2 => ?_)
    replace h := h y2 ey2
    refine o_istore_n (k := 2) (L' := [(2, .int y2), (1, .int y1)]) (by decide +kernel) (by decide) rfl ?_
    refine o_goto (off := -14) 4 (by decide +kernel) (by decide) ?_
    refine o_sub [1, 0] rfl ?_
    exact h
set_option maxRecDepth 20000 in
theorem e_X12_held {d : Nat} {K : x_T → Int32 → Prop} {w0 : Int64} {v2 : Int32} {v3 : Int32} {τ : x_T} (h : (0 ≤ lg_cmp w0 v2.toInt64 → (lg_cmp w0 v3.toInt64 ≤ 0 → K τ w0.toInt32) ∧ (¬ lg_cmp w0 v3.toInt64 ≤ 0 → K τ v3)) ∧ (¬ 0 ≤ lg_cmp w0 v2.toInt64 → K τ v2)) : x_CI d mX12_held [.long w0, .int v2, .int v3] τ K := by
  refine x_CI_of (by decide) (Nat.le_of_ble_eq_true rfl) ?_
  show x_WI d mX12_held K 0 [(0, .long w0), (2, .int v2), (3, .int v3)] [] τ
  refine o_lload_n (k := 0) 0 (by decide +kernel) rfl ?_
  refine o_iload_n (k := 2) 1 (by decide +kernel) rfl ?_
  refine o_i2l (by decide +kernel) ?_
  refine o_lcmp (by decide +kernel) ?_
  refine o_if_ge (off := 7) 11 (by decide +kernel) (by decide) (fun q => ?_) (fun q => ?_)
  · replace h := h.1 q
    refine o_lload_n (k := 0) 0 (by decide +kernel) rfl ?_
    refine o_iload_n (k := 3) 2 (by decide +kernel) rfl ?_
    refine o_i2l (by decide +kernel) ?_
    refine o_lcmp (by decide +kernel) ?_
    refine o_if_le (off := 7) 22 (by decide +kernel) (by decide) (fun q => ?_) (fun q => ?_)
    · replace h := h.1 q
      refine o_lload_n (k := 0) 0 (by decide +kernel) rfl ?_
      refine o_l2i (by decide +kernel) ?_
      exact f_iret (ty := .int) rfl rfl (by decide +kernel) rfl h
    · replace h := h.2 q
      refine o_iload_n (k := 3) 2 (by decide +kernel) rfl ?_
      refine o_goto (off := 5) 24 (by decide +kernel) (by decide) ?_
      exact f_iret (ty := .int) rfl rfl (by decide +kernel) rfl h
  · replace h := h.2 q
    refine o_iload_n (k := 2) 1 (by decide +kernel) rfl ?_
    refine o_goto (off := 16) 24 (by decide +kernel) (by decide) ?_
    exact f_iret (ty := .int) rfl rfl (by decide +kernel) rfl h
set_option maxRecDepth 20000 in
theorem e_X12_away {d : Nat} {K : x_T → Int32 → Prop} {v0 : Int32} {v1 : Int32} {τ : x_T} (h : (v1 ≤ v0 → K τ (v0 - v1)) ∧ (¬ v1 ≤ v0 → K τ (v1 - v0))) : x_CI d mX12_away [.int v0, .int v1] τ K := by
  refine x_CI_of (by decide) (Nat.le_of_ble_eq_true rfl) ?_
  show x_WI d mX12_away K 0 [(0, .int v0), (1, .int v1)] [] τ
  refine o_iload_n (k := 0) 0 (by decide +kernel) rfl ?_
  refine o_iload_n (k := 1) 1 (by decide +kernel) rfl ?_
  refine o_icmp_ge (off := 9) 11 (by decide +kernel) (by decide) (fun q => ?_) (fun q => ?_)
  · replace h := h.1 q
    refine o_iload_n (k := 0) 0 (by decide +kernel) rfl ?_
    refine o_iload_n (k := 1) 1 (by decide +kernel) rfl ?_
    refine o_isub (by decide +kernel) ?_
    exact f_iret (ty := .int) rfl rfl (by decide +kernel) rfl h
  · replace h := h.2 q
    refine o_iload_n (k := 1) 1 (by decide +kernel) rfl ?_
    refine o_iload_n (k := 0) 0 (by decide +kernel) rfl ?_
    refine o_isub (by decide +kernel) ?_
    refine o_goto (off := 6) 14 (by decide +kernel) (by decide) ?_
    exact f_iret (ty := .int) rfl rfl (by decide +kernel) rfl h
set_option maxRecDepth 20000 in
theorem e_X12_copies {d : Nat} {K : x_T → Prop} {v1 : Int32} {τ : x_T} (h : x_WV d mX12_copies K 2 [(0, .ref 345), (1, .int v1), (2, .int 0)] [] τ) : x_CV d mX12_copies [.ref 345, .int v1] τ K := by
  refine x_CV_of (by decide) (Nat.le_of_ble_eq_true rfl) ?_
  show x_WV d mX12_copies K 0 [(0, .ref 345), (1, .int v1)] [] τ
  refine o_iconst (n := 0) (v := 0) (by decide +kernel) (by decide) ?_
  refine o_istore_n (k := 2) (L' := [(2, .int 0), (0, .ref 345), (1, .int v1)]) (by decide +kernel) (by decide) rfl ?_
  refine o_sub [1, 2, 0] rfl ?_
  exact h
set_option maxRecDepth 20000 in
theorem k_X12_copies_2 {d : Nat} {K : x_T → Prop} {v1 : Int32} {v2 : Int32} {τ : x_T} (h : (3670 ≤ v2 → K τ) ∧ (¬ 3670 ≤ v2 → (v1 = 0 → vp_in v2 3670 ∧ (vp_in v2 3670 ∧ (∀ t1, t1 = x_w1 τ 346 v2.toNatClampNeg (τ.1 347 v2.toNatClampNeg) → (x_WV d mX12_copies K 40 [(0, .ref 345), (1, .int v1), (2, .int v2)] [] t1)))) ∧ (¬ v1 = 0 → vp_in v2 3670 ∧ (vp_in v2 3670 ∧ (∀ t2, t2 = x_w1 τ 347 v2.toNatClampNeg (τ.1 346 v2.toNatClampNeg) → (x_WV d mX12_copies K 40 [(0, .ref 345), (1, .int v1), (2, .int v2)] [] t2)))))) : x_WV d mX12_copies K 2 [(0, .ref 345), (1, .int v1), (2, .int v2)] [] τ := by
  refine o_iload_n (k := 2) 2 (by decide +kernel) rfl ?_
  refine o_sipush (n := 3670) (v := 3670) (by decide +kernel) (by decide) ?_
  refine o_icmp_ge (off := 40) 46 (by decide +kernel) (by decide) (fun q => ?_) (fun q => ?_)
  · replace h := h.1 q
    exact f_vret rfl (by decide +kernel) rfl h
  · replace h := h.2 q
    refine o_iload_n (k := 1) 1 (by decide +kernel) rfl ?_
    refine o_if_eq (off := 18) 28 (by decide +kernel) (by decide) (fun q => ?_) (fun q => ?_)
    · replace h := h.1 q
      refine o_aload_n (k := 0) 0 (by decide +kernel) rfl ?_
      refine f_getR (r := 346) (t := 12) (k := 0) (i := 7) (by decide +kernel) sh_345 rfl (by decide) lk_1361 (by simp [x_ty, tyX12]) (gr_12_0 sh_345) ?_
      refine o_iload_n (k := 2) 2 (by decide +kernel) rfl ?_
      refine o_aload_n (k := 0) 0 (by decide +kernel) rfl ?_
      refine f_getR (r := 347) (t := 12) (k := 1) (i := 13) (by decide +kernel) sh_345 rfl (by decide) lk_1362 (by simp [x_ty, tyX12]) (gr_12_1 sh_345) ?_
      refine o_iload_n (k := 2) 2 (by decide +kernel) rfl ?_
      obtain ⟨hi, h⟩ := h
      refine f_iald (by decide +kernel) sh_347 hi rfl ?_
      obtain ⟨hi, h⟩ := h
      refine f_iast (by decide +kernel) sh_346 hi rfl ?_
      refine f_name (fun t1 et1 => ?_)
      replace h := h t1 et1
      exact h
    · replace h := h.2 q
      refine o_aload_n (k := 0) 0 (by decide +kernel) rfl ?_
      refine f_getR (r := 347) (t := 12) (k := 1) (i := 13) (by decide +kernel) sh_345 rfl (by decide) lk_1362 (by simp [x_ty, tyX12]) (gr_12_1 sh_345) ?_
      refine o_iload_n (k := 2) 2 (by decide +kernel) rfl ?_
      refine o_aload_n (k := 0) 0 (by decide +kernel) rfl ?_
      refine f_getR (r := 346) (t := 12) (k := 0) (i := 7) (by decide +kernel) sh_345 rfl (by decide) lk_1361 (by simp [x_ty, tyX12]) (gr_12_0 sh_345) ?_
      refine o_iload_n (k := 2) 2 (by decide +kernel) rfl ?_
      obtain ⟨hi, h⟩ := h
      refine f_iald (by decide +kernel) sh_346 hi rfl ?_
      obtain ⟨hi, h⟩ := h
      refine f_iast (by decide +kernel) sh_347 hi rfl ?_
      refine f_name (fun t2 et2 => ?_)
      replace h := h t2 et2
      refine o_goto (off := 15) 40 (by decide +kernel) (by decide) ?_
      exact h
set_option maxRecDepth 20000 in
theorem k_X12_copies_40 {d : Nat} {K : x_T → Prop} {v1 : Int32} {v2 : Int32} {τ : x_T} (h : ∀ y1, y1 = v2 + 1 → (x_WV d mX12_copies K 2 [(0, .ref 345), (1, .int v1), (2, .int y1)] [] τ)) : x_WV d mX12_copies K 40 [(0, .ref 345), (1, .int v1), (2, .int v2)] [] τ := by
  obtain ⟨y1, ey1⟩ : ∃ y : Int32, y = v2 + 1 := ⟨_, rfl⟩
  replace h := h y1 ey1
  refine o_iinc (i := 2) (n := 1) (v := y1) (L' := [(2, .int y1), (0, .ref 345), (1, .int v1)]) 2 (by decide +kernel) rfl (by rw [ey1]; rfl) (by decide) rfl ?_
  refine o_goto (off := -41) 2 (by decide +kernel) (by decide) ?_
  refine o_sub [1, 2, 0] rfl ?_
  exact h
set_option maxRecDepth 20000 in
theorem e_X12_isHouse {d : Nat} {K : x_T → Int32 → Prop} {v1 : Int32} {τ : x_T} (h : x_CI d mX12_in [.int v1, .int 0, .int ((τ.1 346 0) - 1)] τ (fun t1 a2 => (narrow .boolean (.int a2) = .int a2 ∧ K t1 a2))) : x_CI (d + 1) mX12_isHouse [.ref 345, .int v1] τ K := by
  refine x_CI_of (by decide) (Nat.le_of_ble_eq_true rfl) ?_
  show x_WI (d + 1) mX12_isHouse K 0 [(0, .ref 345), (1, .int v1)] [] τ
  refine o_iload_n (k := 1) 1 (by decide +kernel) rfl ?_
  refine o_iconst (n := 0) (v := 0) (by decide +kernel) (by decide) ?_
  refine o_aload_n (k := 0) 0 (by decide +kernel) rfl ?_
  refine f_getR (r := 346) (t := 12) (k := 0) (i := 7) (by decide +kernel) sh_345 rfl (by decide) lk_1361 (by simp [x_ty, tyX12]) (gr_12_0 sh_345) ?_
  refine o_iconst (n := 0) (v := 0) (by decide +kernel) (by decide) ?_
  refine f_iald (k := 0) (by decide +kernel) sh_346 (by unfold vp_in; decide) (by decide) ?_
  refine o_iconst (n := 1) (v := 1) (by decide +kernel) (by decide) ?_
  refine o_isub (by decide +kernel) ?_
  refine f_callSI (μ' := mX12_in) (i := 113) (vs := [.int v1, .int 0, .int ((τ.1 346 0) - 1)]) (by decide +kernel) lk_1508 (cok_mX12_in) rfl (stt_mX12_in) rfl rfl (Nat.le_of_ble_eq_true rfl) ?_
  refine x_CI.mono h (fun t1 a2 h => ?_)
  exact f_iret (ty := .boolean) rfl h.1 (by decide +kernel) rfl h.2
set_option maxRecDepth 20000 in
theorem e_X12_house {d : Nat} {K : x_T → Int32 → Prop} {v1 : Int32} {τ : x_T} (h : ∀ y1, y1 = τ.1 346 0 → (x_CI d mX12_in [.int v1, .int 0, .int 9] τ (fun t2 a3 => (a3 = 0 → K t2 (-1)) ∧ (¬ a3 = 0 → (¬ y1 = 8 → vp_in (10 + y1) 3670 ∧ (∀ t4, t4 = x_w1 t2 346 ((10 + y1).toNatClampNeg) v1 → (∀ t5, t5 = x_w1 t4 346 0 ((t4.1 346 0) + 1) → (K t5 y1)))) ∧ (y1 = 8 → K t2 (-1)))))) : x_CI (d + 1) mX12_house [.ref 345, .int v1] τ K := by
  refine x_CI_of (by decide) (Nat.le_of_ble_eq_true rfl) ?_
  show x_WI (d + 1) mX12_house K 0 [(0, .ref 345), (1, .int v1)] [] τ
  refine o_aload_n (k := 0) 0 (by decide +kernel) rfl ?_
  refine f_getR (r := 346) (t := 12) (k := 0) (i := 7) (by decide +kernel) sh_345 rfl (by decide) lk_1361 (by simp [x_ty, tyX12]) (gr_12_0 sh_345) ?_
  refine o_iconst (n := 0) (v := 0) (by decide +kernel) (by decide) ?_
  refine f_iald (k := 0) (by decide +kernel) sh_346 (by unfold vp_in; decide) (by decide) ?_
  refine o_name (fun y1 ey1 => ?_)
  replace h := h y1 ey1
  refine o_istore_n (k := 2) (L' := [(2, .int y1), (0, .ref 345), (1, .int v1)]) (by decide +kernel) (by decide) rfl ?_
  refine o_iload_n (k := 1) 2 (by decide +kernel) rfl ?_
  refine o_iconst (n := 0) (v := 0) (by decide +kernel) (by decide) ?_
  refine o_bipush (n := 9) (v := 9) (by decide +kernel) (by decide) ?_
  refine f_callSI (μ' := mX12_in) (i := 113) (vs := [.int v1, .int 0, .int 9]) (by decide +kernel) lk_1508 (cok_mX12_in) rfl (stt_mX12_in) rfl rfl (Nat.le_of_ble_eq_true rfl) ?_
  refine x_CI.mono h (fun t2 a3 h => ?_)
  refine o_if_eq (off := 9) 23 (by decide +kernel) (by decide) (fun q => ?_) (fun q => ?_)
  · replace h := h.1 q
    refine o_iconst (n := -1) (v := (-1)) (by decide +kernel) (by decide) ?_
    exact f_iret (ty := .int) rfl rfl (by decide +kernel) rfl h
  · replace h := h.2 q
    refine o_iload_n (k := 2) 0 (by decide +kernel) rfl ?_
    refine o_bipush (n := 8) (v := 8) (by decide +kernel) (by decide) ?_
    refine o_icmp_ne (off := 5) 25 (by decide +kernel) (by decide) (fun q => ?_) (fun q => ?_)
    · replace h := h.1 q
      refine o_aload_n (k := 0) 1 (by decide +kernel) rfl ?_
      refine f_getR (r := 346) (t := 12) (k := 0) (i := 7) (by decide +kernel) sh_345 rfl (by decide) lk_1361 (by simp [x_ty, tyX12]) (gr_12_0 sh_345) ?_
      refine o_bipush (n := 10) (v := 10) (by decide +kernel) (by decide) ?_
      refine o_iload_n (k := 2) 0 (by decide +kernel) rfl ?_
      refine o_iadd (by decide +kernel) ?_
      refine o_iload_n (k := 1) 2 (by decide +kernel) rfl ?_
      obtain ⟨hi, h⟩ := h
      refine f_iast (by decide +kernel) sh_346 hi rfl ?_
      refine f_name (fun t4 et4 => ?_)
      replace h := h t4 et4
      refine o_aload_n (k := 0) 1 (by decide +kernel) rfl ?_
      refine f_getR (r := 346) (t := 12) (k := 0) (i := 7) (by decide +kernel) sh_345 rfl (by decide) lk_1361 (by simp [x_ty, tyX12]) (gr_12_0 sh_345) ?_
      refine o_iconst (n := 0) (v := 0) (by decide +kernel) (by decide) ?_
      refine o_dup2 (by decide +kernel) rfl rfl ?_
      refine f_iald (k := 0) (by decide +kernel) sh_346 (by unfold vp_in; decide) (by decide) ?_
      refine o_iconst (n := 1) (v := 1) (by decide +kernel) (by decide) ?_
      refine o_iadd (by decide +kernel) ?_
      refine f_iast (k := 0) (by decide +kernel) sh_346 (by unfold vp_in; decide) (by decide) ?_
      refine f_name (fun t5 et5 => ?_)
      replace h := h t5 et5
      refine o_iload_n (k := 2) 0 (by decide +kernel) rfl ?_
      exact f_iret (ty := .int) rfl rfl (by decide +kernel) rfl h
    · replace h := h.2 q
      refine o_iconst (n := -1) (v := (-1)) (by decide +kernel) (by decide) ?_
      exact f_iret (ty := .int) rfl rfl (by decide +kernel) rfl h
set_option maxRecDepth 20000 in
theorem e_X12_lane {d : Nat} {K : x_T → Int32 → Prop} {v1 : Int32} {v2 : Int32} {v3 : Int32} {τ : x_T} (h : x_CI d mX12_isHouse [.ref 345, .int v1] τ (fun t1 a2 => (a2 = 0 → K t1 0) ∧ (¬ a2 = 0 → x_CI d mX12_isHouse [.ref 345, .int v2] t1 (fun t3 a4 => (a4 = 0 → K t3 0) ∧ (¬ a4 = 0 → (v1 = v2 → K t3 0) ∧ (¬ v1 = v2 → x_CI d mX12_in [.int v3, .int 0, .int 9] t3 (fun t5 a6 => (¬ a6 = 0 → vp_in ((30 + (8 * v1)) + v2) 3670 ∧ (∀ t7, t7 = x_w1 t5 346 (((30 + (8 * v1)) + v2).toNatClampNeg) v3 → (vp_in ((30 + (8 * v2)) + v1) 3670 ∧ (∀ t8, t8 = x_w1 t7 346 (((30 + (8 * v2)) + v1).toNatClampNeg) v3 → (K t8 1))))) ∧ (a6 = 0 → K t5 0)))))))) : x_CI (d + 1) mX12_lane [.ref 345, .int v1, .int v2, .int v3] τ K := by
  refine x_CI_of (by decide) (Nat.le_of_ble_eq_true rfl) ?_
  show x_WI (d + 1) mX12_lane K 0 [(0, .ref 345), (1, .int v1), (2, .int v2), (3, .int v3)] [] τ
  refine o_aload_n (k := 0) 0 (by decide +kernel) rfl ?_
  refine o_iload_n (k := 1) 1 (by decide +kernel) rfl ?_
  refine f_callVI (μ' := mX12_isHouse) (i := 117) (vs := [.int v1]) (by decide +kernel) lk_1515 (vok_mX12_isHouse) sh_345 rfl rfl rfl rfl (Nat.le_of_ble_eq_true rfl) ?_
  refine x_CI.mono h (fun t1 a2 h => ?_)
  refine o_if_eq (off := 26) 31 (by decide +kernel) (by decide) (fun q => ?_) (fun q => ?_)
  · replace h := h.1 q
    refine o_iconst (n := 0) (v := 0) (by decide +kernel) (by decide) ?_
    exact f_iret (ty := .boolean) rfl (by decide) (by decide +kernel) rfl h
  · replace h := h.2 q
    refine o_aload_n (k := 0) 0 (by decide +kernel) rfl ?_
    refine o_iload_n (k := 2) 2 (by decide +kernel) rfl ?_
    refine f_callVI (μ' := mX12_isHouse) (i := 117) (vs := [.int v2]) (by decide +kernel) lk_1515 (vok_mX12_isHouse) sh_345 rfl rfl rfl rfl (Nat.le_of_ble_eq_true rfl) ?_
    refine x_CI.mono h (fun t3 a4 h => ?_)
    refine o_if_eq (off := 18) 31 (by decide +kernel) (by decide) (fun q => ?_) (fun q => ?_)
    · replace h := h.1 q
      refine o_iconst (n := 0) (v := 0) (by decide +kernel) (by decide) ?_
      exact f_iret (ty := .boolean) rfl (by decide) (by decide +kernel) rfl h
    · replace h := h.2 q
      refine o_iload_n (k := 1) 1 (by decide +kernel) rfl ?_
      refine o_iload_n (k := 2) 2 (by decide +kernel) rfl ?_
      refine o_icmp_eq (off := 13) 31 (by decide +kernel) (by decide) (fun q => ?_) (fun q => ?_)
      · replace h := h.1 q
        refine o_iconst (n := 0) (v := 0) (by decide +kernel) (by decide) ?_
        exact f_iret (ty := .boolean) rfl (by decide) (by decide +kernel) rfl h
      · replace h := h.2 q
        refine o_iload_n (k := 3) 3 (by decide +kernel) rfl ?_
        refine o_iconst (n := 0) (v := 0) (by decide +kernel) (by decide) ?_
        refine o_bipush (n := 9) (v := 9) (by decide +kernel) (by decide) ?_
        refine f_callSI (μ' := mX12_in) (i := 113) (vs := [.int v3, .int 0, .int 9]) (by decide +kernel) lk_1508 (cok_mX12_in) rfl (stt_mX12_in) rfl rfl (Nat.le_of_ble_eq_true rfl) ?_
        refine x_CI.mono h (fun t5 a6 h => ?_)
        refine o_if_ne (off := 5) 33 (by decide +kernel) (by decide) (fun q => ?_) (fun q => ?_)
        · replace h := h.1 q
          refine o_aload_n (k := 0) 0 (by decide +kernel) rfl ?_
          refine f_getR (r := 346) (t := 12) (k := 0) (i := 7) (by decide +kernel) sh_345 rfl (by decide) lk_1361 (by simp [x_ty, tyX12]) (gr_12_0 sh_345) ?_
          refine o_bipush (n := 30) (v := 30) (by decide +kernel) (by decide) ?_
          refine o_bipush (n := 8) (v := 8) (by decide +kernel) (by decide) ?_
          refine o_iload_n (k := 1) 1 (by decide +kernel) rfl ?_
          refine o_imul (by decide +kernel) ?_
          refine o_iadd (by decide +kernel) ?_
          refine o_iload_n (k := 2) 2 (by decide +kernel) rfl ?_
          refine o_iadd (by decide +kernel) ?_
          refine o_iload_n (k := 3) 3 (by decide +kernel) rfl ?_
          obtain ⟨hi, h⟩ := h
          refine f_iast (by decide +kernel) sh_346 hi rfl ?_
          refine f_name (fun t7 et7 => ?_)
          replace h := h t7 et7
          refine o_aload_n (k := 0) 0 (by decide +kernel) rfl ?_
          refine f_getR (r := 346) (t := 12) (k := 0) (i := 7) (by decide +kernel) sh_345 rfl (by decide) lk_1361 (by simp [x_ty, tyX12]) (gr_12_0 sh_345) ?_
          refine o_bipush (n := 30) (v := 30) (by decide +kernel) (by decide) ?_
          refine o_bipush (n := 8) (v := 8) (by decide +kernel) (by decide) ?_
          refine o_iload_n (k := 2) 2 (by decide +kernel) rfl ?_
          refine o_imul (by decide +kernel) ?_
          refine o_iadd (by decide +kernel) ?_
          refine o_iload_n (k := 1) 1 (by decide +kernel) rfl ?_
          refine o_iadd (by decide +kernel) ?_
          refine o_iload_n (k := 3) 3 (by decide +kernel) rfl ?_
          obtain ⟨hi, h⟩ := h
          refine f_iast (by decide +kernel) sh_346 hi rfl ?_
          refine f_name (fun t8 et8 => ?_)
          replace h := h t8 et8
          refine o_iconst (n := 1) (v := 1) (by decide +kernel) (by decide) ?_
          exact f_iret (ty := .boolean) rfl (by decide) (by decide +kernel) rfl h
        · replace h := h.2 q
          refine o_iconst (n := 0) (v := 0) (by decide +kernel) (by decide) ?_
          exact f_iret (ty := .boolean) rfl (by decide) (by decide +kernel) rfl h
set_option maxRecDepth 20000 in
theorem e_X12_pusher {d : Nat} {K : x_T → Int32 → Prop} {v1 : Int32} {τ : x_T} (h : ∀ y1, y1 = τ.1 346 1 → (x_CI d mX12_in [.int v1, .int 1, .int 9] τ (fun t2 a3 => (a3 = 0 → K t2 (-1)) ∧ (¬ a3 = 0 → (¬ y1 = 4 → vp_in (18 + y1) 3670 ∧ (∀ t4, t4 = x_w1 t2 346 ((18 + y1).toNatClampNeg) v1 → (∀ t5, t5 = x_w1 t4 346 1 ((t4.1 346 1) + 1) → (K t5 y1)))) ∧ (y1 = 4 → K t2 (-1)))))) : x_CI (d + 1) mX12_pusher [.ref 345, .int v1] τ K := by
  refine x_CI_of (by decide) (Nat.le_of_ble_eq_true rfl) ?_
  show x_WI (d + 1) mX12_pusher K 0 [(0, .ref 345), (1, .int v1)] [] τ
  refine o_aload_n (k := 0) 0 (by decide +kernel) rfl ?_
  refine f_getR (r := 346) (t := 12) (k := 0) (i := 7) (by decide +kernel) sh_345 rfl (by decide) lk_1361 (by simp [x_ty, tyX12]) (gr_12_0 sh_345) ?_
  refine o_iconst (n := 1) (v := 1) (by decide +kernel) (by decide) ?_
  refine f_iald (k := 1) (by decide +kernel) sh_346 (by unfold vp_in; decide) (by decide) ?_
  refine o_name (fun y1 ey1 => ?_)
  replace h := h y1 ey1
  refine o_istore_n (k := 2) (L' := [(2, .int y1), (0, .ref 345), (1, .int v1)]) (by decide +kernel) (by decide) rfl ?_
  refine o_iload_n (k := 1) 2 (by decide +kernel) rfl ?_
  refine o_iconst (n := 1) (v := 1) (by decide +kernel) (by decide) ?_
  refine o_bipush (n := 9) (v := 9) (by decide +kernel) (by decide) ?_
  refine f_callSI (μ' := mX12_in) (i := 113) (vs := [.int v1, .int 1, .int 9]) (by decide +kernel) lk_1508 (cok_mX12_in) rfl (stt_mX12_in) rfl rfl (Nat.le_of_ble_eq_true rfl) ?_
  refine x_CI.mono h (fun t2 a3 h => ?_)
  refine o_if_eq (off := 8) 22 (by decide +kernel) (by decide) (fun q => ?_) (fun q => ?_)
  · replace h := h.1 q
    refine o_iconst (n := -1) (v := (-1)) (by decide +kernel) (by decide) ?_
    exact f_iret (ty := .int) rfl rfl (by decide +kernel) rfl h
  · replace h := h.2 q
    refine o_iload_n (k := 2) 0 (by decide +kernel) rfl ?_
    refine o_iconst (n := 4) (v := 4) (by decide +kernel) (by decide) ?_
    refine o_icmp_ne (off := 5) 24 (by decide +kernel) (by decide) (fun q => ?_) (fun q => ?_)
    · replace h := h.1 q
      refine o_aload_n (k := 0) 1 (by decide +kernel) rfl ?_
      refine f_getR (r := 346) (t := 12) (k := 0) (i := 7) (by decide +kernel) sh_345 rfl (by decide) lk_1361 (by simp [x_ty, tyX12]) (gr_12_0 sh_345) ?_
      refine o_bipush (n := 18) (v := 18) (by decide +kernel) (by decide) ?_
      refine o_iload_n (k := 2) 0 (by decide +kernel) rfl ?_
      refine o_iadd (by decide +kernel) ?_
      refine o_iload_n (k := 1) 2 (by decide +kernel) rfl ?_
      obtain ⟨hi, h⟩ := h
      refine f_iast (by decide +kernel) sh_346 hi rfl ?_
      refine f_name (fun t4 et4 => ?_)
      replace h := h t4 et4
      refine o_aload_n (k := 0) 1 (by decide +kernel) rfl ?_
      refine f_getR (r := 346) (t := 12) (k := 0) (i := 7) (by decide +kernel) sh_345 rfl (by decide) lk_1361 (by simp [x_ty, tyX12]) (gr_12_0 sh_345) ?_
      refine o_iconst (n := 1) (v := 1) (by decide +kernel) (by decide) ?_
      refine o_dup2 (by decide +kernel) rfl rfl ?_
      refine f_iald (k := 1) (by decide +kernel) sh_346 (by unfold vp_in; decide) (by decide) ?_
      refine o_iconst (n := 1) (v := 1) (by decide +kernel) (by decide) ?_
      refine o_iadd (by decide +kernel) ?_
      refine f_iast (k := 1) (by decide +kernel) sh_346 (by unfold vp_in; decide) (by decide) ?_
      refine f_name (fun t5 et5 => ?_)
      replace h := h t5 et5
      refine o_iload_n (k := 2) 0 (by decide +kernel) rfl ?_
      exact f_iret (ty := .int) rfl rfl (by decide +kernel) rfl h
    · replace h := h.2 q
      refine o_iconst (n := -1) (v := (-1)) (by decide +kernel) (by decide) ?_
      exact f_iret (ty := .int) rfl rfl (by decide +kernel) rfl h
set_option maxRecDepth 20000 in
theorem e_X12_keepsStep {d : Nat} {K : x_T → Prop}  {τ : x_T} (h : (¬ τ.1 346 4 = 30 → x_WV d mX12_keepsStep K 51 [(0, .ref 345)] [] τ) ∧ (τ.1 346 4 = 30 → x_WV d mX12_keepsStep K 15 [(0, .ref 345), (1, .int 250)] [] τ)) : x_CV d mX12_keepsStep [.ref 345] τ K := by
  refine x_CV_of (by decide) (Nat.le_of_ble_eq_true rfl) ?_
  show x_WV d mX12_keepsStep K 0 [(0, .ref 345)] [] τ
  refine o_aload_n (k := 0) 0 (by decide +kernel) rfl ?_
  refine f_getR (r := 346) (t := 12) (k := 0) (i := 7) (by decide +kernel) sh_345 rfl (by decide) lk_1361 (by simp [x_ty, tyX12]) (gr_12_0 sh_345) ?_
  refine o_iconst (n := 4) (v := 4) (by decide +kernel) (by decide) ?_
  refine f_iald (k := 4) (by decide +kernel) sh_346 (by unfold vp_in; decide) (by decide) ?_
  refine o_bipush (n := 30) (v := 30) (by decide +kernel) (by decide) ?_
  refine o_icmp_ne (off := 43) 51 (by decide +kernel) (by decide) (fun q => ?_) (fun q => ?_)
  · replace h := h.1 q
    exact h
  · replace h := h.2 q
    refine o_sipush (n := 250) (v := 250) (by decide +kernel) (by decide) ?_
    refine o_istore_n (k := 1) (L' := [(1, .int 250), (0, .ref 345)]) (by decide +kernel) (by decide) rfl ?_
    refine o_sub [1, 0] rfl ?_
    exact h
set_option maxRecDepth 20000 in
theorem k_X12_keepsStep_15 {d : Nat} {K : x_T → Prop} {v1 : Int32} {τ : x_T} (h : (3556 ≤ v1 → ∀ t1, t1 = x_w1 τ 346 4 29 → (x_WV d mX12_keepsStep K 51 [(0, .ref 345)] [] t1)) ∧ (¬ 3556 ≤ v1 → vp_in (v1 + 114) 3670 ∧ (vp_in v1 3670 ∧ (∀ t2, t2 = x_w1 τ 346 v1.toNatClampNeg (τ.1 346 (v1 + 114).toNatClampNeg) → (∀ y3, y3 = v1 + 1 → (x_WV d mX12_keepsStep K 15 [(0, .ref 345), (1, .int y3)] [] t2)))))) : x_WV d mX12_keepsStep K 15 [(0, .ref 345), (1, .int v1)] [] τ := by
  refine o_iload_n (k := 1) 1 (by decide +kernel) rfl ?_
  refine o_sipush (n := 3556) (v := 3556) (by decide +kernel) (by decide) ?_
  refine o_icmp_ge (off := 24) 43 (by decide +kernel) (by decide) (fun q => ?_) (fun q => ?_)
  · replace h := h.1 q
    refine o_aload_n (k := 0) 0 (by decide +kernel) rfl ?_
    refine f_getR (r := 346) (t := 12) (k := 0) (i := 7) (by decide +kernel) sh_345 rfl (by decide) lk_1361 (by simp [x_ty, tyX12]) (gr_12_0 sh_345) ?_
    refine o_iconst (n := 4) (v := 4) (by decide +kernel) (by decide) ?_
    refine o_bipush (n := 29) (v := 29) (by decide +kernel) (by decide) ?_
    refine f_iast (k := 4) (by decide +kernel) sh_346 (by unfold vp_in; decide) (by decide) ?_
    refine f_name (fun t1 et1 => ?_)
    replace h := h t1 et1
    refine o_sub [0] rfl ?_
    exact h
  · replace h := h.2 q
    refine o_aload_n (k := 0) 0 (by decide +kernel) rfl ?_
    refine f_getR (r := 346) (t := 12) (k := 0) (i := 7) (by decide +kernel) sh_345 rfl (by decide) lk_1361 (by simp [x_ty, tyX12]) (gr_12_0 sh_345) ?_
    refine o_iload_n (k := 1) 1 (by decide +kernel) rfl ?_
    refine o_aload_n (k := 0) 0 (by decide +kernel) rfl ?_
    refine f_getR (r := 346) (t := 12) (k := 0) (i := 7) (by decide +kernel) sh_345 rfl (by decide) lk_1361 (by simp [x_ty, tyX12]) (gr_12_0 sh_345) ?_
    refine o_iload_n (k := 1) 1 (by decide +kernel) rfl ?_
    refine o_bipush (n := 114) (v := 114) (by decide +kernel) (by decide) ?_
    refine o_iadd (by decide +kernel) ?_
    obtain ⟨hi, h⟩ := h
    refine f_iald (by decide +kernel) sh_346 hi rfl ?_
    obtain ⟨hi, h⟩ := h
    refine f_iast (by decide +kernel) sh_346 hi rfl ?_
    refine f_name (fun t2 et2 => ?_)
    replace h := h t2 et2
    obtain ⟨y3, ey3⟩ : ∃ y : Int32, y = v1 + 1 := ⟨_, rfl⟩
    replace h := h y3 ey3
    refine o_iinc (i := 1) (n := 1) (v := y3) (L' := [(1, .int y3), (0, .ref 345)]) 1 (by decide +kernel) rfl (by rw [ey3]; rfl) (by decide) rfl ?_
    refine o_goto (off := -25) 15 (by decide +kernel) (by decide) ?_
    refine o_sub [1, 0] rfl ?_
    exact h
set_option maxRecDepth 20000 in
theorem k_X12_keepsStep_51 {d : Nat} {K : x_T → Prop}  {τ : x_T} (h : x_WV d mX12_keepsStep K 53 [(0, .ref 345), (1, .int 0)] [] τ) : x_WV d mX12_keepsStep K 51 [(0, .ref 345)] [] τ := by
  refine o_iconst (n := 0) (v := 0) (by decide +kernel) (by decide) ?_
  refine o_istore_n (k := 1) (L' := [(1, .int 0), (0, .ref 345)]) (by decide +kernel) (by decide) rfl ?_
  refine o_sub [1, 0] rfl ?_
  exact h
set_option maxRecDepth 20000 in
theorem k_X12_keepsStep_53 {d : Nat} {K : x_T → Prop} {v1 : Int32} {τ : x_T} (h : (114 ≤ v1 → ∀ t1, t1 = x_w1 τ 346 4 ((τ.1 346 4) + 1) → (K t1)) ∧ (¬ 114 ≤ v1 → vp_in (130 + v1) 3670 ∧ (vp_in ((250 + (114 * (τ.1 346 4))) + v1) 3670 ∧ (∀ t2, t2 = x_w1 τ 346 (((250 + (114 * (τ.1 346 4))) + v1).toNatClampNeg) (τ.1 346 (130 + v1).toNatClampNeg) → (∀ y3, y3 = v1 + 1 → (x_WV d mX12_keepsStep K 53 [(0, .ref 345), (1, .int y3)] [] t2)))))) : x_WV d mX12_keepsStep K 53 [(0, .ref 345), (1, .int v1)] [] τ := by
  refine o_iload_n (k := 1) 1 (by decide +kernel) rfl ?_
  refine o_bipush (n := 114) (v := 114) (by decide +kernel) (by decide) ?_
  refine o_icmp_ge (off := 39) 95 (by decide +kernel) (by decide) (fun q => ?_) (fun q => ?_)
  · replace h := h.1 q
    refine o_aload_n (k := 0) 0 (by decide +kernel) rfl ?_
    refine f_getR (r := 346) (t := 12) (k := 0) (i := 7) (by decide +kernel) sh_345 rfl (by decide) lk_1361 (by simp [x_ty, tyX12]) (gr_12_0 sh_345) ?_
    refine o_iconst (n := 4) (v := 4) (by decide +kernel) (by decide) ?_
    refine o_dup2 (by decide +kernel) rfl rfl ?_
    refine f_iald (k := 4) (by decide +kernel) sh_346 (by unfold vp_in; decide) (by decide) ?_
    refine o_iconst (n := 1) (v := 1) (by decide +kernel) (by decide) ?_
    refine o_iadd (by decide +kernel) ?_
    refine f_iast (k := 4) (by decide +kernel) sh_346 (by unfold vp_in; decide) (by decide) ?_
    refine f_name (fun t1 et1 => ?_)
    replace h := h t1 et1
    exact f_vret rfl (by decide +kernel) rfl h
  · replace h := h.2 q
    refine o_aload_n (k := 0) 0 (by decide +kernel) rfl ?_
    refine f_getR (r := 346) (t := 12) (k := 0) (i := 7) (by decide +kernel) sh_345 rfl (by decide) lk_1361 (by simp [x_ty, tyX12]) (gr_12_0 sh_345) ?_
    refine o_sipush (n := 250) (v := 250) (by decide +kernel) (by decide) ?_
    refine o_bipush (n := 114) (v := 114) (by decide +kernel) (by decide) ?_
    refine o_aload_n (k := 0) 0 (by decide +kernel) rfl ?_
    refine f_getR (r := 346) (t := 12) (k := 0) (i := 7) (by decide +kernel) sh_345 rfl (by decide) lk_1361 (by simp [x_ty, tyX12]) (gr_12_0 sh_345) ?_
    refine o_iconst (n := 4) (v := 4) (by decide +kernel) (by decide) ?_
    refine f_iald (k := 4) (by decide +kernel) sh_346 (by unfold vp_in; decide) (by decide) ?_
    refine o_imul (by decide +kernel) ?_
    refine o_iadd (by decide +kernel) ?_
    refine o_iload_n (k := 1) 1 (by decide +kernel) rfl ?_
    refine o_iadd (by decide +kernel) ?_
    refine o_aload_n (k := 0) 0 (by decide +kernel) rfl ?_
    refine f_getR (r := 346) (t := 12) (k := 0) (i := 7) (by decide +kernel) sh_345 rfl (by decide) lk_1361 (by simp [x_ty, tyX12]) (gr_12_0 sh_345) ?_
    refine o_sipush (n := 130) (v := 130) (by decide +kernel) (by decide) ?_
    refine o_iload_n (k := 1) 1 (by decide +kernel) rfl ?_
    refine o_iadd (by decide +kernel) ?_
    obtain ⟨hi, h⟩ := h
    refine f_iald (by decide +kernel) sh_346 hi rfl ?_
    obtain ⟨hi, h⟩ := h
    refine f_iast (by decide +kernel) sh_346 hi rfl ?_
    refine f_name (fun t2 et2 => ?_)
    replace h := h t2 et2
    obtain ⟨y3, ey3⟩ : ∃ y : Int32, y = v1 + 1 := ⟨_, rfl⟩
    replace h := h y3 ey3
    refine o_iinc (i := 1) (n := 1) (v := y3) (L' := [(1, .int y3), (0, .ref 345)]) 1 (by decide +kernel) rfl (by rw [ey3]; rfl) (by decide) rfl ?_
    refine o_goto (off := -39) 53 (by decide +kernel) (by decide) ?_
    refine o_sub [1, 0] rfl ?_
    exact h
set_option maxRecDepth 20000 in
theorem e_X12_undo {d : Nat} {K : x_T → Int32 → Prop}  {τ : x_T} (h : (¬ τ.1 346 4 = 0 → ∀ t1, t1 = x_w1 τ 346 4 ((τ.1 346 4) - 1) → (x_WI d mX12_undo K 23 [(0, .ref 345), (1, .int 0)] [] t1)) ∧ (τ.1 346 4 = 0 → K τ (-1))) : x_CI d mX12_undo [.ref 345] τ K := by
  refine x_CI_of (by decide) (Nat.le_of_ble_eq_true rfl) ?_
  show x_WI d mX12_undo K 0 [(0, .ref 345)] [] τ
  refine o_aload_n (k := 0) 0 (by decide +kernel) rfl ?_
  refine f_getR (r := 346) (t := 12) (k := 0) (i := 7) (by decide +kernel) sh_345 rfl (by decide) lk_1361 (by simp [x_ty, tyX12]) (gr_12_0 sh_345) ?_
  refine o_iconst (n := 4) (v := 4) (by decide +kernel) (by decide) ?_
  refine f_iald (k := 4) (by decide +kernel) sh_346 (by unfold vp_in; decide) (by decide) ?_
  refine o_if_ne (off := 5) 11 (by decide +kernel) (by decide) (fun q => ?_) (fun q => ?_)
  · replace h := h.1 q
    refine o_aload_n (k := 0) 0 (by decide +kernel) rfl ?_
    refine f_getR (r := 346) (t := 12) (k := 0) (i := 7) (by decide +kernel) sh_345 rfl (by decide) lk_1361 (by simp [x_ty, tyX12]) (gr_12_0 sh_345) ?_
    refine o_iconst (n := 4) (v := 4) (by decide +kernel) (by decide) ?_
    refine o_dup2 (by decide +kernel) rfl rfl ?_
    refine f_iald (k := 4) (by decide +kernel) sh_346 (by unfold vp_in; decide) (by decide) ?_
    refine o_iconst (n := 1) (v := 1) (by decide +kernel) (by decide) ?_
    refine o_isub (by decide +kernel) ?_
    refine f_iast (k := 4) (by decide +kernel) sh_346 (by unfold vp_in; decide) (by decide) ?_
    refine f_name (fun t1 et1 => ?_)
    replace h := h t1 et1
    refine o_iconst (n := 0) (v := 0) (by decide +kernel) (by decide) ?_
    refine o_istore_n (k := 1) (L' := [(1, .int 0), (0, .ref 345)]) (by decide +kernel) (by decide) rfl ?_
    refine o_sub [1, 0] rfl ?_
    exact h
  · replace h := h.2 q
    refine o_iconst (n := -1) (v := (-1)) (by decide +kernel) (by decide) ?_
    exact f_iret (ty := .int) rfl rfl (by decide +kernel) rfl h
set_option maxRecDepth 20000 in
theorem k_X12_undo_23 {d : Nat} {K : x_T → Int32 → Prop} {v1 : Int32} {τ : x_T} (h : (114 ≤ v1 → K τ (τ.1 346 4)) ∧ (¬ 114 ≤ v1 → vp_in ((250 + (114 * (τ.1 346 4))) + v1) 3670 ∧ (vp_in (130 + v1) 3670 ∧ (∀ t1, t1 = x_w1 τ 346 ((130 + v1).toNatClampNeg) (τ.1 346 ((250 + (114 * (τ.1 346 4))) + v1).toNatClampNeg) → (∀ y2, y2 = v1 + 1 → (x_WI d mX12_undo K 23 [(0, .ref 345), (1, .int y2)] [] t1)))))) : x_WI d mX12_undo K 23 [(0, .ref 345), (1, .int v1)] [] τ := by
  refine o_iload_n (k := 1) 1 (by decide +kernel) rfl ?_
  refine o_bipush (n := 114) (v := 114) (by decide +kernel) (by decide) ?_
  refine o_icmp_ge (off := 39) 65 (by decide +kernel) (by decide) (fun q => ?_) (fun q => ?_)
  · replace h := h.1 q
    refine o_aload_n (k := 0) 0 (by decide +kernel) rfl ?_
    refine f_getR (r := 346) (t := 12) (k := 0) (i := 7) (by decide +kernel) sh_345 rfl (by decide) lk_1361 (by simp [x_ty, tyX12]) (gr_12_0 sh_345) ?_
    refine o_iconst (n := 4) (v := 4) (by decide +kernel) (by decide) ?_
    refine f_iald (k := 4) (by decide +kernel) sh_346 (by unfold vp_in; decide) (by decide) ?_
    exact f_iret (ty := .int) rfl rfl (by decide +kernel) rfl h
  · replace h := h.2 q
    refine o_aload_n (k := 0) 0 (by decide +kernel) rfl ?_
    refine f_getR (r := 346) (t := 12) (k := 0) (i := 7) (by decide +kernel) sh_345 rfl (by decide) lk_1361 (by simp [x_ty, tyX12]) (gr_12_0 sh_345) ?_
    refine o_sipush (n := 130) (v := 130) (by decide +kernel) (by decide) ?_
    refine o_iload_n (k := 1) 1 (by decide +kernel) rfl ?_
    refine o_iadd (by decide +kernel) ?_
    refine o_aload_n (k := 0) 0 (by decide +kernel) rfl ?_
    refine f_getR (r := 346) (t := 12) (k := 0) (i := 7) (by decide +kernel) sh_345 rfl (by decide) lk_1361 (by simp [x_ty, tyX12]) (gr_12_0 sh_345) ?_
    refine o_sipush (n := 250) (v := 250) (by decide +kernel) (by decide) ?_
    refine o_bipush (n := 114) (v := 114) (by decide +kernel) (by decide) ?_
    refine o_aload_n (k := 0) 0 (by decide +kernel) rfl ?_
    refine f_getR (r := 346) (t := 12) (k := 0) (i := 7) (by decide +kernel) sh_345 rfl (by decide) lk_1361 (by simp [x_ty, tyX12]) (gr_12_0 sh_345) ?_
    refine o_iconst (n := 4) (v := 4) (by decide +kernel) (by decide) ?_
    refine f_iald (k := 4) (by decide +kernel) sh_346 (by unfold vp_in; decide) (by decide) ?_
    refine o_imul (by decide +kernel) ?_
    refine o_iadd (by decide +kernel) ?_
    refine o_iload_n (k := 1) 1 (by decide +kernel) rfl ?_
    refine o_iadd (by decide +kernel) ?_
    obtain ⟨hi, h⟩ := h
    refine f_iald (by decide +kernel) sh_346 hi rfl ?_
    obtain ⟨hi, h⟩ := h
    refine f_iast (by decide +kernel) sh_346 hi rfl ?_
    refine f_name (fun t1 et1 => ?_)
    replace h := h t1 et1
    obtain ⟨y2, ey2⟩ : ∃ y : Int32, y = v1 + 1 := ⟨_, rfl⟩
    replace h := h y2 ey2
    refine o_iinc (i := 1) (n := 1) (v := y2) (L' := [(1, .int y2), (0, .ref 345)]) 1 (by decide +kernel) rfl (by rw [ey2]; rfl) (by decide) rfl ?_
    refine o_goto (off := -39) 23 (by decide +kernel) (by decide) ?_
    refine o_sub [1, 0] rfl ?_
    exact h
set_option maxRecDepth 20000 in
theorem e_X12_put {d : Nat} {K : x_T → Prop} {v1 : Int32} {τ : x_T} (h : x_WV d mX12_put K 3 [(0, .ref 345), (1, .int v1), (2, .int 24)] [] τ) : x_CV d mX12_put [.ref 345, .int v1] τ K := by
  refine x_CV_of (by decide) (Nat.le_of_ble_eq_true rfl) ?_
  show x_WV d mX12_put K 0 [(0, .ref 345), (1, .int v1)] [] τ
  refine o_bipush (n := 24) (v := 24) (by decide +kernel) (by decide) ?_
  refine o_istore_n (k := 2) (L' := [(2, .int 24), (0, .ref 345), (1, .int v1)]) (by decide +kernel) (by decide) rfl ?_
  refine o_sub [1, 2, 0] rfl ?_
  exact h
set_option maxRecDepth 20000 in
theorem k_X12_put_3 {d : Nat} {K : x_T → Prop} {v1 : Int32} {v2 : Int32} {τ : x_T} (h : (v2 < 0 → K τ) ∧ (¬ v2 < 0 → vp_in (τ.1 345 3) 300 ∧ (∀ t1, t1 = x_w1 τ 348 ((τ.1 345 3).toNatClampNeg) (vp_nar .byte ((v1 >>> (v2 &&& 31)).toInt8.toInt32)) → (∀ t2, t2 = x_w1 t1 345 3 ((t1.1 345 3) + 1) → (∀ y3, y3 = v2 - 8 → (x_WV d mX12_put K 3 [(0, .ref 345), (1, .int v1), (2, .int y3)] [] t2)))))) : x_WV d mX12_put K 3 [(0, .ref 345), (1, .int v1), (2, .int v2)] [] τ := by
  refine o_iload_n (k := 2) 2 (by decide +kernel) rfl ?_
  refine o_if_lt (off := 34) 38 (by decide +kernel) (by decide) (fun q => ?_) (fun q => ?_)
  · replace h := h.1 q
    exact f_vret rfl (by decide +kernel) rfl h
  · replace h := h.2 q
    refine o_aload_n (k := 0) 0 (by decide +kernel) rfl ?_
    refine f_getR (r := 348) (t := 12) (k := 2) (i := 16) (by decide +kernel) sh_345 rfl (by decide) lk_1363 (by simp [x_ty, tyX12]) (gr_12_2 sh_345) ?_
    refine o_aload_n (k := 0) 0 (by decide +kernel) rfl ?_
    refine f_getI (t := 12) (k := 3) (i := 121) (by decide +kernel) sh_345 rfl (by decide) lk_1364 rfl ?_
    refine o_iload_n (k := 1) 1 (by decide +kernel) rfl ?_
    refine o_iload_n (k := 2) 2 (by decide +kernel) rfl ?_
    refine o_ishr (by decide +kernel) ?_
    refine o_i2b (by decide +kernel) ?_
    obtain ⟨hi, h⟩ := h
    refine f_bast (by decide +kernel) sh_348 hi rfl ?_
    refine f_name (fun t1 et1 => ?_)
    replace h := h t1 et1
    refine o_aload_n (k := 0) 0 (by decide +kernel) rfl ?_
    refine o_dup (by decide +kernel) rfl ?_
    refine f_getI (t := 12) (k := 3) (i := 121) (by decide +kernel) sh_345 rfl (by decide) lk_1364 rfl ?_
    refine o_iconst (n := 1) (v := 1) (by decide +kernel) (by decide) ?_
    refine o_iadd (by decide +kernel) ?_
    refine f_putI (t := 12) (k := 3) (i := 121) (by decide +kernel) sh_345 rfl (by decide) lk_1364 rfl rfl ?_
    refine f_name (fun t2 et2 => ?_)
    replace h := h t2 et2
    refine o_iload_n (k := 2) 2 (by decide +kernel) rfl ?_
    refine o_bipush (n := 8) (v := 8) (by decide +kernel) (by decide) ?_
    refine o_isub (by decide +kernel) ?_
    refine o_name (fun y3 ey3 => ?_)
    replace h := h y3 ey3
    refine o_istore_n (k := 2) (L' := [(2, .int y3), (0, .ref 345), (1, .int v1)]) (by decide +kernel) (by decide) rfl ?_
    refine o_goto (off := -32) 3 (by decide +kernel) (by decide) ?_
    refine o_sub [1, 2, 0] rfl ?_
    exact h
set_option maxRecDepth 20000 in
theorem e_X12_feed {d : Nat} {K : x_T → Int32 → Prop} {v1 : Int32} {v2 : Int32} {v3 : Int32} {v4 : Int32} {v5 : Int32} {τ : x_T} (h : ((τ.1 345 3) + 20 ≤ 300 → x_CV d mX12_put [.ref 345, .int v1] τ (fun t1 => x_CV d mX12_put [.ref 345, .int v2] t1 (fun t3 => x_CV d mX12_put [.ref 345, .int v3] t3 (fun t5 => x_CV d mX12_put [.ref 345, .int v4] t5 (fun t7 => x_CV d mX12_put [.ref 345, .int v5] t7 (fun t9 => K t9 (t9.1 345 3))))))) ∧ (¬ (τ.1 345 3) + 20 ≤ 300 → K τ (-1))) : x_CI (d + 1) mX12_feed [.ref 345, .int v1, .int v2, .int v3, .int v4, .int v5] τ K := by
  refine x_CI_of (by decide) (Nat.le_of_ble_eq_true rfl) ?_
  show x_WI (d + 1) mX12_feed K 0 [(0, .ref 345), (1, .int v1), (2, .int v2), (3, .int v3), (4, .int v4), (5, .int v5)] [] τ
  refine o_aload_n (k := 0) 0 (by decide +kernel) rfl ?_
  refine f_getI (t := 12) (k := 3) (i := 121) (by decide +kernel) sh_345 rfl (by decide) lk_1364 rfl ?_
  refine o_bipush (n := 20) (v := 20) (by decide +kernel) (by decide) ?_
  refine o_iadd (by decide +kernel) ?_
  refine o_sipush (n := 300) (v := 300) (by decide +kernel) (by decide) ?_
  refine o_icmp_le (off := 5) 15 (by decide +kernel) (by decide) (fun q => ?_) (fun q => ?_)
  · replace h := h.1 q
    refine o_aload_n (k := 0) 0 (by decide +kernel) rfl ?_
    refine o_iload_n (k := 1) 1 (by decide +kernel) rfl ?_
    refine f_callVV (μ' := mX12_put) (i := 124) (vs := [.int v1]) (by decide +kernel) lk_1531 (vok_mX12_put) sh_345 rfl rfl rfl rfl (Nat.le_of_ble_eq_true rfl) ?_
    refine x_CV.mono h (fun t1 h => ?_)
    refine o_aload_n (k := 0) 0 (by decide +kernel) rfl ?_
    refine o_iload_n (k := 2) 2 (by decide +kernel) rfl ?_
    refine f_callVV (μ' := mX12_put) (i := 124) (vs := [.int v2]) (by decide +kernel) lk_1531 (vok_mX12_put) sh_345 rfl rfl rfl rfl (Nat.le_of_ble_eq_true rfl) ?_
    refine x_CV.mono h (fun t3 h => ?_)
    refine o_aload_n (k := 0) 0 (by decide +kernel) rfl ?_
    refine o_iload_n (k := 3) 3 (by decide +kernel) rfl ?_
    refine f_callVV (μ' := mX12_put) (i := 124) (vs := [.int v3]) (by decide +kernel) lk_1531 (vok_mX12_put) sh_345 rfl rfl rfl rfl (Nat.le_of_ble_eq_true rfl) ?_
    refine x_CV.mono h (fun t5 h => ?_)
    refine o_aload_n (k := 0) 0 (by decide +kernel) rfl ?_
    refine o_iload (k := 4) 4 (by decide +kernel) rfl ?_
    refine f_callVV (μ' := mX12_put) (i := 124) (vs := [.int v4]) (by decide +kernel) lk_1531 (vok_mX12_put) sh_345 rfl rfl rfl rfl (Nat.le_of_ble_eq_true rfl) ?_
    refine x_CV.mono h (fun t7 h => ?_)
    refine o_aload_n (k := 0) 0 (by decide +kernel) rfl ?_
    refine o_iload (k := 5) 5 (by decide +kernel) rfl ?_
    refine f_callVV (μ' := mX12_put) (i := 124) (vs := [.int v5]) (by decide +kernel) lk_1531 (vok_mX12_put) sh_345 rfl rfl rfl rfl (Nat.le_of_ble_eq_true rfl) ?_
    refine x_CV.mono h (fun t9 h => ?_)
    refine o_aload_n (k := 0) 0 (by decide +kernel) rfl ?_
    refine f_getI (t := 12) (k := 3) (i := 121) (by decide +kernel) sh_345 rfl (by decide) lk_1364 rfl ?_
    exact f_iret (ty := .int) rfl rfl (by decide +kernel) rfl h
  · replace h := h.2 q
    refine o_iconst (n := -1) (v := (-1)) (by decide +kernel) (by decide) ?_
    exact f_iret (ty := .int) rfl rfl (by decide +kernel) rfl h
set_option maxRecDepth 20000 in
theorem e_X12_end {d : Nat} {K : x_T → Int32 → Prop} {v1 : Int32} {τ : x_T} (h : x_CI d mX12_in [.int v1, .int 0, .int (τ.1 345 3)] τ (fun t1 a2 => (¬ a2 = 0 → ∀ t3, t3 = x_w1 t1 345 3 v1 → (K t3 v1)) ∧ (a2 = 0 → K t1 (-1)))) : x_CI (d + 1) mX12_end [.ref 345, .int v1] τ K := by
  refine x_CI_of (by decide) (Nat.le_of_ble_eq_true rfl) ?_
  show x_WI (d + 1) mX12_end K 0 [(0, .ref 345), (1, .int v1)] [] τ
  refine o_iload_n (k := 1) 1 (by decide +kernel) rfl ?_
  refine o_iconst (n := 0) (v := 0) (by decide +kernel) (by decide) ?_
  refine o_aload_n (k := 0) 0 (by decide +kernel) rfl ?_
  refine f_getI (t := 12) (k := 3) (i := 121) (by decide +kernel) sh_345 rfl (by decide) lk_1364 rfl ?_
  refine f_callSI (μ' := mX12_in) (i := 113) (vs := [.int v1, .int 0, .int (τ.1 345 3)]) (by decide +kernel) lk_1508 (cok_mX12_in) rfl (stt_mX12_in) rfl rfl (Nat.le_of_ble_eq_true rfl) ?_
  refine x_CI.mono h (fun t1 a2 h => ?_)
  refine o_if_ne (off := 5) 14 (by decide +kernel) (by decide) (fun q => ?_) (fun q => ?_)
  · replace h := h.1 q
    refine o_aload_n (k := 0) 0 (by decide +kernel) rfl ?_
    refine o_iload_n (k := 1) 1 (by decide +kernel) rfl ?_
    refine f_putI (t := 12) (k := 3) (i := 121) (by decide +kernel) sh_345 rfl (by decide) lk_1364 rfl rfl ?_
    refine f_name (fun t3 et3 => ?_)
    replace h := h t3 et3
    refine o_iload_n (k := 1) 1 (by decide +kernel) rfl ?_
    exact f_iret (ty := .int) rfl rfl (by decide +kernel) rfl h
  · replace h := h.2 q
    refine o_iconst (n := -1) (v := (-1)) (by decide +kernel) (by decide) ?_
    exact f_iret (ty := .int) rfl rfl (by decide +kernel) rfl h
set_option maxRecDepth 20000 in
theorem e_X12_isLetter {d : Nat} {K : x_T → Int32 → Prop} {v0 : Int32} {τ : x_T} (h : x_CI d mX12_in [.int v0, .int 97, .int 122] τ (fun t1 a2 => (¬ a2 = 0 → K t1 1) ∧ (a2 = 0 → x_CI d mX12_in [.int v0, .int 65, .int 90] t1 (fun t3 a4 => (a4 = 0 → K t3 0) ∧ (¬ a4 = 0 → K t3 1))))) : x_CI (d + 1) mX12_isLetter [.int v0] τ K := by
  refine x_CI_of (by decide) (Nat.le_of_ble_eq_true rfl) ?_
  show x_WI (d + 1) mX12_isLetter K 0 [(0, .int v0)] [] τ
  refine o_iload_n (k := 0) 0 (by decide +kernel) rfl ?_
  refine o_bipush (n := 97) (v := 97) (by decide +kernel) (by decide) ?_
  refine o_bipush (n := 122) (v := 122) (by decide +kernel) (by decide) ?_
  refine f_callSI (μ' := mX12_in) (i := 113) (vs := [.int v0, .int 97, .int 122]) (by decide +kernel) lk_1508 (cok_mX12_in) rfl (stt_mX12_in) rfl rfl (Nat.le_of_ble_eq_true rfl) ?_
  refine x_CI.mono h (fun t1 a2 h => ?_)
  refine o_if_ne (off := 14) 22 (by decide +kernel) (by decide) (fun q => ?_) (fun q => ?_)
  · replace h := h.1 q
    refine o_iconst (n := 1) (v := 1) (by decide +kernel) (by decide) ?_
    refine o_goto (off := 4) 27 (by decide +kernel) (by decide) ?_
    exact f_iret (ty := .boolean) rfl (by decide) (by decide +kernel) rfl h
  · replace h := h.2 q
    refine o_iload_n (k := 0) 0 (by decide +kernel) rfl ?_
    refine o_bipush (n := 65) (v := 65) (by decide +kernel) (by decide) ?_
    refine o_bipush (n := 90) (v := 90) (by decide +kernel) (by decide) ?_
    refine f_callSI (μ' := mX12_in) (i := 113) (vs := [.int v0, .int 65, .int 90]) (by decide +kernel) lk_1508 (cok_mX12_in) rfl (stt_mX12_in) rfl rfl (Nat.le_of_ble_eq_true rfl) ?_
    refine x_CI.mono h (fun t3 a4 h => ?_)
    refine o_if_eq (off := 7) 26 (by decide +kernel) (by decide) (fun q => ?_) (fun q => ?_)
    · replace h := h.1 q
      refine o_iconst (n := 0) (v := 0) (by decide +kernel) (by decide) ?_
      exact f_iret (ty := .boolean) rfl (by decide) (by decide +kernel) rfl h
    · replace h := h.2 q
      refine o_iconst (n := 1) (v := 1) (by decide +kernel) (by decide) ?_
      refine o_goto (off := 4) 27 (by decide +kernel) (by decide) ?_
      exact f_iret (ty := .boolean) rfl (by decide) (by decide +kernel) rfl h
set_option maxRecDepth 20000 in
theorem e_X12_wordOf {d : Nat} {K : x_T → Int32 → Prop} {w0 : Int64} {τ : x_T} (h : (¬ lg_cmp w0 10624164 = 0 → (¬ lg_cmp w0 932584627 = 0 → (¬ lg_cmp w0 629615539 = 0 → (¬ lg_cmp w0 14556333 = 0 → (¬ lg_cmp w0 683629797 = 0 → (¬ lg_cmp w0 11672485 = 0 → (¬ lg_cmp w0 52442335602 = 0 → (¬ lg_cmp w0 12803304 = 0 → (¬ lg_cmp w0 215664 = 0 → (¬ lg_cmp w0 11951012 = 0 → (¬ lg_cmp w0 49018527013 = 0 → (¬ lg_cmp w0 3375 = 0 → (¬ lg_cmp w0 3046 = 0 → (¬ lg_cmp w0 2233 = 0 → (¬ lg_cmp w0 157810 = 0 → (¬ lg_cmp w0 2662 = 0 → (¬ lg_cmp w0 13797742 = 0 → (¬ lg_cmp w0 9882853 = 0 → (¬ lg_cmp w0 154532 = 0 → (¬ lg_cmp w0 3058 = 0 → (¬ lg_cmp w0 138148 = 0 → (¬ lg_cmp w0 191476 = 0 → (¬ lg_cmp w0 10640549 = 0 → (¬ lg_cmp w0 10656556 = 0 → (¬ lg_cmp w0 10681714 = 0 → (¬ lg_cmp w0 12720933 = 0 → (¬ lg_cmp w0 819408101 = 0 → (¬ lg_cmp w0 883055781 = 0 → (¬ lg_cmp w0 227928104926504 = 0 → (¬ lg_cmp w0 59736742707 = 0 → (¬ lg_cmp w0 11688372 = 0 → (¬ lg_cmp w0 12254190 = 0 → K τ (-1)) ∧ (lg_cmp w0 12254190 = 0 → K τ 31)) ∧ (lg_cmp w0 11688372 = 0 → K τ 30)) ∧ (lg_cmp w0 59736742707 = 0 → K τ 29)) ∧ (lg_cmp w0 227928104926504 = 0 → K τ 28)) ∧ (lg_cmp w0 883055781 = 0 → K τ 27)) ∧ (lg_cmp w0 819408101 = 0 → K τ 26)) ∧ (lg_cmp w0 12720933 = 0 → K τ 25)) ∧ (lg_cmp w0 10681714 = 0 → K τ 24)) ∧ (lg_cmp w0 10656556 = 0 → K τ 23)) ∧ (lg_cmp w0 10640549 = 0 → K τ 22)) ∧ (lg_cmp w0 191476 = 0 → K τ 21)) ∧ (lg_cmp w0 138148 = 0 → K τ 20)) ∧ (lg_cmp w0 3058 = 0 → K τ 19)) ∧ (lg_cmp w0 154532 = 0 → K τ 18)) ∧ (lg_cmp w0 9882853 = 0 → K τ 17)) ∧ (lg_cmp w0 13797742 = 0 → K τ 16)) ∧ (lg_cmp w0 2662 = 0 → K τ 15)) ∧ (lg_cmp w0 157810 = 0 → K τ 14)) ∧ (lg_cmp w0 2233 = 0 → K τ 13)) ∧ (lg_cmp w0 3046 = 0 → K τ 12)) ∧ (lg_cmp w0 3375 = 0 → K τ 11)) ∧ (lg_cmp w0 49018527013 = 0 → K τ 10)) ∧ (lg_cmp w0 11951012 = 0 → K τ 9)) ∧ (lg_cmp w0 215664 = 0 → K τ 8)) ∧ (lg_cmp w0 12803304 = 0 → K τ 7)) ∧ (lg_cmp w0 52442335602 = 0 → K τ 6)) ∧ (lg_cmp w0 11672485 = 0 → K τ 5)) ∧ (lg_cmp w0 683629797 = 0 → K τ 4)) ∧ (lg_cmp w0 14556333 = 0 → K τ 3)) ∧ (lg_cmp w0 629615539 = 0 → K τ 2)) ∧ (lg_cmp w0 932584627 = 0 → K τ 1)) ∧ (lg_cmp w0 10624164 = 0 → K τ 0)) : x_CI d mX12_wordOf [.long w0] τ K := by
  refine x_CI_of (by decide) (Nat.le_of_ble_eq_true rfl) ?_
  show x_WI d mX12_wordOf K 0 [(0, .long w0)] [] τ
  refine o_lload_n (k := 0) 0 (by decide +kernel) rfl ?_
  refine o_ldc2 (i := 128) (v := 10624164) (by decide +kernel) lk_1554 ?_
  refine o_lcmp (by decide +kernel) ?_
  refine o_if_ne (off := 7) 12 (by decide +kernel) (by decide) (fun q => ?_) (fun q => ?_)
  · replace h := h.1 q
    refine o_lload_n (k := 0) 0 (by decide +kernel) rfl ?_
    refine o_ldc2 (i := 130) (v := 932584627) (by decide +kernel) lk_1555 ?_
    refine o_lcmp (by decide +kernel) ?_
    refine o_if_ne (off := 7) 24 (by decide +kernel) (by decide) (fun q => ?_) (fun q => ?_)
    · replace h := h.1 q
      refine o_lload_n (k := 0) 0 (by decide +kernel) rfl ?_
      refine o_ldc2 (i := 132) (v := 629615539) (by decide +kernel) lk_1556 ?_
      refine o_lcmp (by decide +kernel) ?_
      refine o_if_ne (off := 7) 36 (by decide +kernel) (by decide) (fun q => ?_) (fun q => ?_)
      · replace h := h.1 q
        refine o_lload_n (k := 0) 0 (by decide +kernel) rfl ?_
        refine o_ldc2 (i := 134) (v := 14556333) (by decide +kernel) lk_1557 ?_
        refine o_lcmp (by decide +kernel) ?_
        refine o_if_ne (off := 7) 48 (by decide +kernel) (by decide) (fun q => ?_) (fun q => ?_)
        · replace h := h.1 q
          refine o_lload_n (k := 0) 0 (by decide +kernel) rfl ?_
          refine o_ldc2 (i := 136) (v := 683629797) (by decide +kernel) lk_1558 ?_
          refine o_lcmp (by decide +kernel) ?_
          refine o_if_ne (off := 7) 60 (by decide +kernel) (by decide) (fun q => ?_) (fun q => ?_)
          · replace h := h.1 q
            refine o_lload_n (k := 0) 0 (by decide +kernel) rfl ?_
            refine o_ldc2 (i := 138) (v := 11672485) (by decide +kernel) lk_1559 ?_
            refine o_lcmp (by decide +kernel) ?_
            refine o_if_ne (off := 7) 72 (by decide +kernel) (by decide) (fun q => ?_) (fun q => ?_)
            · replace h := h.1 q
              refine o_lload_n (k := 0) 0 (by decide +kernel) rfl ?_
              refine o_ldc2 (i := 140) (v := 52442335602) (by decide +kernel) lk_1560 ?_
              refine o_lcmp (by decide +kernel) ?_
              refine o_if_ne (off := 8) 85 (by decide +kernel) (by decide) (fun q => ?_) (fun q => ?_)
              · replace h := h.1 q
                refine o_lload_n (k := 0) 0 (by decide +kernel) rfl ?_
                refine o_ldc2 (i := 142) (v := 12803304) (by decide +kernel) lk_1561 ?_
                refine o_lcmp (by decide +kernel) ?_
                refine o_if_ne (off := 8) 98 (by decide +kernel) (by decide) (fun q => ?_) (fun q => ?_)
                · replace h := h.1 q
                  refine o_lload_n (k := 0) 0 (by decide +kernel) rfl ?_
                  refine o_ldc2 (i := 144) (v := 215664) (by decide +kernel) lk_1562 ?_
                  refine o_lcmp (by decide +kernel) ?_
                  refine o_if_ne (off := 8) 111 (by decide +kernel) (by decide) (fun q => ?_) (fun q => ?_)
                  · replace h := h.1 q
                    refine o_lload_n (k := 0) 0 (by decide +kernel) rfl ?_
                    refine o_ldc2 (i := 146) (v := 11951012) (by decide +kernel) lk_1563 ?_
                    refine o_lcmp (by decide +kernel) ?_
                    refine o_if_ne (off := 8) 124 (by decide +kernel) (by decide) (fun q => ?_) (fun q => ?_)
                    · replace h := h.1 q
                      refine o_lload_n (k := 0) 0 (by decide +kernel) rfl ?_
                      refine o_ldc2 (i := 148) (v := 49018527013) (by decide +kernel) lk_1564 ?_
                      refine o_lcmp (by decide +kernel) ?_
                      refine o_if_ne (off := 8) 137 (by decide +kernel) (by decide) (fun q => ?_) (fun q => ?_)
                      · replace h := h.1 q
                        refine o_lload_n (k := 0) 0 (by decide +kernel) rfl ?_
                        refine o_ldc2 (i := 150) (v := 3375) (by decide +kernel) lk_1565 ?_
                        refine o_lcmp (by decide +kernel) ?_
                        refine o_if_ne (off := 8) 150 (by decide +kernel) (by decide) (fun q => ?_) (fun q => ?_)
                        · replace h := h.1 q
                          refine o_lload_n (k := 0) 0 (by decide +kernel) rfl ?_
                          refine o_ldc2 (i := 152) (v := 3046) (by decide +kernel) lk_1566 ?_
                          refine o_lcmp (by decide +kernel) ?_
                          refine o_if_ne (off := 8) 163 (by decide +kernel) (by decide) (fun q => ?_) (fun q => ?_)
                          · replace h := h.1 q
                            refine o_lload_n (k := 0) 0 (by decide +kernel) rfl ?_
                            refine o_ldc2 (i := 154) (v := 2233) (by decide +kernel) lk_1567 ?_
                            refine o_lcmp (by decide +kernel) ?_
                            refine o_if_ne (off := 8) 176 (by decide +kernel) (by decide) (fun q => ?_) (fun q => ?_)
                            · replace h := h.1 q
                              refine o_lload_n (k := 0) 0 (by decide +kernel) rfl ?_
                              refine o_ldc2 (i := 156) (v := 157810) (by decide +kernel) lk_1568 ?_
                              refine o_lcmp (by decide +kernel) ?_
                              refine o_if_ne (off := 8) 189 (by decide +kernel) (by decide) (fun q => ?_) (fun q => ?_)
                              · replace h := h.1 q
                                refine o_lload_n (k := 0) 0 (by decide +kernel) rfl ?_
                                refine o_ldc2 (i := 158) (v := 2662) (by decide +kernel) lk_1569 ?_
                                refine o_lcmp (by decide +kernel) ?_
                                refine o_if_ne (off := 8) 202 (by decide +kernel) (by decide) (fun q => ?_) (fun q => ?_)
                                · replace h := h.1 q
                                  refine o_lload_n (k := 0) 0 (by decide +kernel) rfl ?_
                                  refine o_ldc2 (i := 160) (v := 13797742) (by decide +kernel) lk_1570 ?_
                                  refine o_lcmp (by decide +kernel) ?_
                                  refine o_if_ne (off := 8) 215 (by decide +kernel) (by decide) (fun q => ?_) (fun q => ?_)
                                  · replace h := h.1 q
                                    refine o_lload_n (k := 0) 0 (by decide +kernel) rfl ?_
                                    refine o_ldc2 (i := 162) (v := 9882853) (by decide +kernel) lk_1571 ?_
                                    refine o_lcmp (by decide +kernel) ?_
                                    refine o_if_ne (off := 8) 228 (by decide +kernel) (by decide) (fun q => ?_) (fun q => ?_)
                                    · replace h := h.1 q
                                      refine o_lload_n (k := 0) 0 (by decide +kernel) rfl ?_
                                      refine o_ldc2 (i := 164) (v := 154532) (by decide +kernel) lk_1572 ?_
                                      refine o_lcmp (by decide +kernel) ?_
                                      refine o_if_ne (off := 8) 241 (by decide +kernel) (by decide) (fun q => ?_) (fun q => ?_)
                                      · replace h := h.1 q
                                        refine o_lload_n (k := 0) 0 (by decide +kernel) rfl ?_
                                        refine o_ldc2 (i := 166) (v := 3058) (by decide +kernel) lk_1573 ?_
                                        refine o_lcmp (by decide +kernel) ?_
                                        refine o_if_ne (off := 8) 254 (by decide +kernel) (by decide) (fun q => ?_) (fun q => ?_)
                                        · replace h := h.1 q
                                          refine o_lload_n (k := 0) 0 (by decide +kernel) rfl ?_
                                          refine o_ldc2 (i := 168) (v := 138148) (by decide +kernel) lk_1574 ?_
                                          refine o_lcmp (by decide +kernel) ?_
                                          refine o_if_ne (off := 8) 267 (by decide +kernel) (by decide) (fun q => ?_) (fun q => ?_)
                                          · replace h := h.1 q
                                            refine o_lload_n (k := 0) 0 (by decide +kernel) rfl ?_
                                            refine o_ldc2 (i := 170) (v := 191476) (by decide +kernel) lk_1575 ?_
                                            refine o_lcmp (by decide +kernel) ?_
                                            refine o_if_ne (off := 8) 280 (by decide +kernel) (by decide) (fun q => ?_) (fun q => ?_)
                                            · replace h := h.1 q
                                              refine o_lload_n (k := 0) 0 (by decide +kernel) rfl ?_
                                              refine o_ldc2 (i := 172) (v := 10640549) (by decide +kernel) lk_1576 ?_
                                              refine o_lcmp (by decide +kernel) ?_
                                              refine o_if_ne (off := 8) 293 (by decide +kernel) (by decide) (fun q => ?_) (fun q => ?_)
                                              · replace h := h.1 q
                                                refine o_lload_n (k := 0) 0 (by decide +kernel) rfl ?_
                                                refine o_ldc2 (i := 174) (v := 10656556) (by decide +kernel) lk_1577 ?_
                                                refine o_lcmp (by decide +kernel) ?_
                                                refine o_if_ne (off := 8) 306 (by decide +kernel) (by decide) (fun q => ?_) (fun q => ?_)
                                                · replace h := h.1 q
                                                  refine o_lload_n (k := 0) 0 (by decide +kernel) rfl ?_
                                                  refine o_ldc2 (i := 176) (v := 10681714) (by decide +kernel) lk_1578 ?_
                                                  refine o_lcmp (by decide +kernel) ?_
                                                  refine o_if_ne (off := 8) 319 (by decide +kernel) (by decide) (fun q => ?_) (fun q => ?_)
                                                  · replace h := h.1 q
                                                    refine o_lload_n (k := 0) 0 (by decide +kernel) rfl ?_
                                                    refine o_ldc2 (i := 178) (v := 12720933) (by decide +kernel) lk_1579 ?_
                                                    refine o_lcmp (by decide +kernel) ?_
                                                    refine o_if_ne (off := 8) 332 (by decide +kernel) (by decide) (fun q => ?_) (fun q => ?_)
                                                    · replace h := h.1 q
                                                      refine o_lload_n (k := 0) 0 (by decide +kernel) rfl ?_
                                                      refine o_ldc2 (i := 180) (v := 819408101) (by decide +kernel) lk_1580 ?_
                                                      refine o_lcmp (by decide +kernel) ?_
                                                      refine o_if_ne (off := 8) 345 (by decide +kernel) (by decide) (fun q => ?_) (fun q => ?_)
                                                      · replace h := h.1 q
                                                        refine o_lload_n (k := 0) 0 (by decide +kernel) rfl ?_
                                                        refine o_ldc2 (i := 182) (v := 883055781) (by decide +kernel) lk_1581 ?_
                                                        refine o_lcmp (by decide +kernel) ?_
                                                        refine o_if_ne (off := 8) 358 (by decide +kernel) (by decide) (fun q => ?_) (fun q => ?_)
                                                        · replace h := h.1 q
                                                          refine o_lload_n (k := 0) 0 (by decide +kernel) rfl ?_
                                                          refine o_ldc2 (i := 184) (v := 227928104926504) (by decide +kernel) lk_1582 ?_
                                                          refine o_lcmp (by decide +kernel) ?_
                                                          refine o_if_ne (off := 8) 371 (by decide +kernel) (by decide) (fun q => ?_) (fun q => ?_)
                                                          · replace h := h.1 q
                                                            refine o_lload_n (k := 0) 0 (by decide +kernel) rfl ?_
                                                            refine o_ldc2 (i := 186) (v := 59736742707) (by decide +kernel) lk_1583 ?_
                                                            refine o_lcmp (by decide +kernel) ?_
                                                            refine o_if_ne (off := 8) 384 (by decide +kernel) (by decide) (fun q => ?_) (fun q => ?_)
                                                            · replace h := h.1 q
                                                              refine o_lload_n (k := 0) 0 (by decide +kernel) rfl ?_
                                                              refine o_ldc2 (i := 188) (v := 11688372) (by decide +kernel) lk_1584 ?_
                                                              refine o_lcmp (by decide +kernel) ?_
                                                              refine o_if_ne (off := 8) 397 (by decide +kernel) (by decide) (fun q => ?_) (fun q => ?_)
                                                              · replace h := h.1 q
                                                                refine o_lload_n (k := 0) 0 (by decide +kernel) rfl ?_
                                                                refine o_ldc2 (i := 190) (v := 12254190) (by decide +kernel) lk_1585 ?_
                                                                refine o_lcmp (by decide +kernel) ?_
                                                                refine o_if_ne (off := 8) 410 (by decide +kernel) (by decide) (fun q => ?_) (fun q => ?_)
                                                                · replace h := h.1 q
                                                                  refine o_iconst (n := -1) (v := (-1)) (by decide +kernel) (by decide) ?_
                                                                  exact f_iret (ty := .int) rfl rfl (by decide +kernel) rfl h
                                                                · replace h := h.2 q
                                                                  refine o_bipush (n := 31) (v := 31) (by decide +kernel) (by decide) ?_
                                                                  refine o_goto (off := 4) 411 (by decide +kernel) (by decide) ?_
                                                                  exact f_iret (ty := .int) rfl rfl (by decide +kernel) rfl h
                                                              · replace h := h.2 q
                                                                refine o_bipush (n := 30) (v := 30) (by decide +kernel) (by decide) ?_
                                                                refine o_goto (off := 17) 411 (by decide +kernel) (by decide) ?_
                                                                exact f_iret (ty := .int) rfl rfl (by decide +kernel) rfl h
                                                            · replace h := h.2 q
                                                              refine o_bipush (n := 29) (v := 29) (by decide +kernel) (by decide) ?_
                                                              refine o_goto (off := 30) 411 (by decide +kernel) (by decide) ?_
                                                              exact f_iret (ty := .int) rfl rfl (by decide +kernel) rfl h
                                                          · replace h := h.2 q
                                                            refine o_bipush (n := 28) (v := 28) (by decide +kernel) (by decide) ?_
                                                            refine o_goto (off := 43) 411 (by decide +kernel) (by decide) ?_
                                                            exact f_iret (ty := .int) rfl rfl (by decide +kernel) rfl h
                                                        · replace h := h.2 q
                                                          refine o_bipush (n := 27) (v := 27) (by decide +kernel) (by decide) ?_
                                                          refine o_goto (off := 56) 411 (by decide +kernel) (by decide) ?_
                                                          exact f_iret (ty := .int) rfl rfl (by decide +kernel) rfl h
                                                      · replace h := h.2 q
                                                        refine o_bipush (n := 26) (v := 26) (by decide +kernel) (by decide) ?_
                                                        refine o_goto (off := 69) 411 (by decide +kernel) (by decide) ?_
                                                        exact f_iret (ty := .int) rfl rfl (by decide +kernel) rfl h
                                                    · replace h := h.2 q
                                                      refine o_bipush (n := 25) (v := 25) (by decide +kernel) (by decide) ?_
                                                      refine o_goto (off := 82) 411 (by decide +kernel) (by decide) ?_
                                                      exact f_iret (ty := .int) rfl rfl (by decide +kernel) rfl h
                                                  · replace h := h.2 q
                                                    refine o_bipush (n := 24) (v := 24) (by decide +kernel) (by decide) ?_
                                                    refine o_goto (off := 95) 411 (by decide +kernel) (by decide) ?_
                                                    exact f_iret (ty := .int) rfl rfl (by decide +kernel) rfl h
                                                · replace h := h.2 q
                                                  refine o_bipush (n := 23) (v := 23) (by decide +kernel) (by decide) ?_
                                                  refine o_goto (off := 108) 411 (by decide +kernel) (by decide) ?_
                                                  exact f_iret (ty := .int) rfl rfl (by decide +kernel) rfl h
                                              · replace h := h.2 q
                                                refine o_bipush (n := 22) (v := 22) (by decide +kernel) (by decide) ?_
                                                refine o_goto (off := 121) 411 (by decide +kernel) (by decide) ?_
                                                exact f_iret (ty := .int) rfl rfl (by decide +kernel) rfl h
                                            · replace h := h.2 q
                                              refine o_bipush (n := 21) (v := 21) (by decide +kernel) (by decide) ?_
                                              refine o_goto (off := 134) 411 (by decide +kernel) (by decide) ?_
                                              exact f_iret (ty := .int) rfl rfl (by decide +kernel) rfl h
                                          · replace h := h.2 q
                                            refine o_bipush (n := 20) (v := 20) (by decide +kernel) (by decide) ?_
                                            refine o_goto (off := 147) 411 (by decide +kernel) (by decide) ?_
                                            exact f_iret (ty := .int) rfl rfl (by decide +kernel) rfl h
                                        · replace h := h.2 q
                                          refine o_bipush (n := 19) (v := 19) (by decide +kernel) (by decide) ?_
                                          refine o_goto (off := 160) 411 (by decide +kernel) (by decide) ?_
                                          exact f_iret (ty := .int) rfl rfl (by decide +kernel) rfl h
                                      · replace h := h.2 q
                                        refine o_bipush (n := 18) (v := 18) (by decide +kernel) (by decide) ?_
                                        refine o_goto (off := 173) 411 (by decide +kernel) (by decide) ?_
                                        exact f_iret (ty := .int) rfl rfl (by decide +kernel) rfl h
                                    · replace h := h.2 q
                                      refine o_bipush (n := 17) (v := 17) (by decide +kernel) (by decide) ?_
                                      refine o_goto (off := 186) 411 (by decide +kernel) (by decide) ?_
                                      exact f_iret (ty := .int) rfl rfl (by decide +kernel) rfl h
                                  · replace h := h.2 q
                                    refine o_bipush (n := 16) (v := 16) (by decide +kernel) (by decide) ?_
                                    refine o_goto (off := 199) 411 (by decide +kernel) (by decide) ?_
                                    exact f_iret (ty := .int) rfl rfl (by decide +kernel) rfl h
                                · replace h := h.2 q
                                  refine o_bipush (n := 15) (v := 15) (by decide +kernel) (by decide) ?_
                                  refine o_goto (off := 212) 411 (by decide +kernel) (by decide) ?_
                                  exact f_iret (ty := .int) rfl rfl (by decide +kernel) rfl h
                              · replace h := h.2 q
                                refine o_bipush (n := 14) (v := 14) (by decide +kernel) (by decide) ?_
                                refine o_goto (off := 225) 411 (by decide +kernel) (by decide) ?_
                                exact f_iret (ty := .int) rfl rfl (by decide +kernel) rfl h
                            · replace h := h.2 q
                              refine o_bipush (n := 13) (v := 13) (by decide +kernel) (by decide) ?_
                              refine o_goto (off := 238) 411 (by decide +kernel) (by decide) ?_
                              exact f_iret (ty := .int) rfl rfl (by decide +kernel) rfl h
                          · replace h := h.2 q
                            refine o_bipush (n := 12) (v := 12) (by decide +kernel) (by decide) ?_
                            refine o_goto (off := 251) 411 (by decide +kernel) (by decide) ?_
                            exact f_iret (ty := .int) rfl rfl (by decide +kernel) rfl h
                        · replace h := h.2 q
                          refine o_bipush (n := 11) (v := 11) (by decide +kernel) (by decide) ?_
                          refine o_goto (off := 264) 411 (by decide +kernel) (by decide) ?_
                          exact f_iret (ty := .int) rfl rfl (by decide +kernel) rfl h
                      · replace h := h.2 q
                        refine o_bipush (n := 10) (v := 10) (by decide +kernel) (by decide) ?_
                        refine o_goto (off := 277) 411 (by decide +kernel) (by decide) ?_
                        exact f_iret (ty := .int) rfl rfl (by decide +kernel) rfl h
                    · replace h := h.2 q
                      refine o_bipush (n := 9) (v := 9) (by decide +kernel) (by decide) ?_
                      refine o_goto (off := 290) 411 (by decide +kernel) (by decide) ?_
                      exact f_iret (ty := .int) rfl rfl (by decide +kernel) rfl h
                  · replace h := h.2 q
                    refine o_bipush (n := 8) (v := 8) (by decide +kernel) (by decide) ?_
                    refine o_goto (off := 303) 411 (by decide +kernel) (by decide) ?_
                    exact f_iret (ty := .int) rfl rfl (by decide +kernel) rfl h
                · replace h := h.2 q
                  refine o_bipush (n := 7) (v := 7) (by decide +kernel) (by decide) ?_
                  refine o_goto (off := 316) 411 (by decide +kernel) (by decide) ?_
                  exact f_iret (ty := .int) rfl rfl (by decide +kernel) rfl h
              · replace h := h.2 q
                refine o_bipush (n := 6) (v := 6) (by decide +kernel) (by decide) ?_
                refine o_goto (off := 329) 411 (by decide +kernel) (by decide) ?_
                exact f_iret (ty := .int) rfl rfl (by decide +kernel) rfl h
            · replace h := h.2 q
              refine o_iconst (n := 5) (v := 5) (by decide +kernel) (by decide) ?_
              refine o_goto (off := 342) 411 (by decide +kernel) (by decide) ?_
              exact f_iret (ty := .int) rfl rfl (by decide +kernel) rfl h
          · replace h := h.2 q
            refine o_iconst (n := 4) (v := 4) (by decide +kernel) (by decide) ?_
            refine o_goto (off := 354) 411 (by decide +kernel) (by decide) ?_
            exact f_iret (ty := .int) rfl rfl (by decide +kernel) rfl h
        · replace h := h.2 q
          refine o_iconst (n := 3) (v := 3) (by decide +kernel) (by decide) ?_
          refine o_goto (off := 366) 411 (by decide +kernel) (by decide) ?_
          exact f_iret (ty := .int) rfl rfl (by decide +kernel) rfl h
      · replace h := h.2 q
        refine o_iconst (n := 2) (v := 2) (by decide +kernel) (by decide) ?_
        refine o_goto (off := 378) 411 (by decide +kernel) (by decide) ?_
        exact f_iret (ty := .int) rfl rfl (by decide +kernel) rfl h
    · replace h := h.2 q
      refine o_iconst (n := 1) (v := 1) (by decide +kernel) (by decide) ?_
      refine o_goto (off := 390) 411 (by decide +kernel) (by decide) ?_
      exact f_iret (ty := .int) rfl rfl (by decide +kernel) rfl h
  · replace h := h.2 q
    refine o_iconst (n := 0) (v := 0) (by decide +kernel) (by decide) ?_
    refine o_goto (off := 402) 411 (by decide +kernel) (by decide) ?_
    exact f_iret (ty := .int) rfl rfl (by decide +kernel) rfl h
