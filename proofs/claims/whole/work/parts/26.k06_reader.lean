set_option maxRecDepth 20000 in
theorem e_X6_read {d : Nat} {K : x_T → Prop} {r1 : Nat} (h1 : x_sh r1 = (9, 10)) {τ : x_T} (h : ∀ t1, t1 = (τ.1, τ.2.1, r1, τ.2.2.2) → (∀ t2, t2 = x_w1 t1 319 2 0 → (∀ t3, t3 = x_w1 t2 319 4 0 → (∀ t4, t4 = x_w1 t3 319 5 (-1) → (x_sh t4.2.2.1 = (9, 10) ∧ (x_CV d mX9_empty [.ref t4.2.2.1] t4 (fun t6 => x_CV d mX8_cut [.ref 314] t6 (fun t8 => x_WV (d + 1) mX6_read K 36 [(0, .ref 319), (2, .int 0)] [] t8)))))))) : x_CV (d + 1) mX6_read [.ref 319, .ref r1] τ K := by
  refine x_CV_of (by decide) (Nat.le_of_ble_eq_true rfl) ?_
  show x_WV (d + 1) mX6_read K 0 [(0, .ref 319), (1, .ref r1)] [] τ
  refine o_aload_n (k := 0) 0 (by decide +kernel) rfl ?_
  refine o_aload_n (k := 1) 1 (by decide +kernel) rfl ?_
  refine f_putRt (i := 25) (by decide +kernel) lk_380 ?_
  refine f_name (fun t1 et1 => ?_)
  replace h := h t1 et1
  refine o_aload_n (k := 0) 0 (by decide +kernel) rfl ?_
  refine o_iconst (n := 0) (v := 0) (by decide +kernel) (by decide) ?_
  refine f_putI (t := 6) (k := 2) (i := 29) (by decide +kernel) sh_319 rfl (by decide) lk_381 rfl rfl ?_
  refine f_name (fun t2 et2 => ?_)
  replace h := h t2 et2
  refine o_aload_n (k := 0) 0 (by decide +kernel) rfl ?_
  refine o_iconst (n := 0) (v := 0) (by decide +kernel) (by decide) ?_
  refine f_putI (t := 6) (k := 4) (i := 9) (by decide +kernel) sh_319 rfl (by decide) lk_383 rfl rfl ?_
  refine f_name (fun t3 et3 => ?_)
  replace h := h t3 et3
  refine o_aload_n (k := 0) 0 (by decide +kernel) rfl ?_
  refine o_iconst (n := -1) (v := (-1)) (by decide +kernel) (by decide) ?_
  refine f_putI (t := 6) (k := 5) (i := 15) (by decide +kernel) sh_319 rfl (by decide) lk_385 rfl rfl ?_
  refine f_name (fun t4 et4 => ?_)
  replace h := h t4 et4
  refine o_aload_n (k := 0) 0 (by decide +kernel) rfl ?_
  obtain ⟨hsc5, h⟩ := h
  refine f_getR (r := t4.2.2.1) (t := 6) (k := 1) (i := 25) (by decide +kernel) sh_319 rfl (by decide) lk_380 (by simp [x_ty, tyX6]) rfl ?_
  refine f_callVV (μ' := mX9_empty) (i := 32) (vs := []) (by decide +kernel) lk_800 (vok_mX9_empty) hsc5 rfl rfl rfl rfl (Nat.le_of_ble_eq_true rfl) ?_
  refine x_CV.mono h (fun t6 h => ?_)
  refine o_aload_n (k := 0) 0 (by decide +kernel) rfl ?_
  refine f_getR (r := 314) (t := 6) (k := 0) (i := 18) (by decide +kernel) sh_319 rfl (by decide) lk_379 (by simp [x_ty, tyX6]) (gr_6_0 sh_319) ?_
  refine f_callVV (μ' := mX8_cut) (i := 35) (vs := []) (by decide +kernel) lk_804 (vok_mX8_cut) sh_314 rfl rfl rfl rfl (Nat.le_of_ble_eq_true rfl) ?_
  refine x_CV.mono h (fun t8 h => ?_)
  refine o_iconst (n := 0) (v := 0) (by decide +kernel) (by decide) ?_
  refine o_istore_n (k := 2) (L' := [(2, .int 0), (0, .ref 319), (1, .ref r1)]) (by decide +kernel) (by decide) rfl ?_
  refine o_sub [1, 0] rfl ?_
  exact h
set_option maxRecDepth 20000 in
theorem k_X6_read_36 {d : Nat} {K : x_T → Prop} {v2 : Int32} {τ : x_T} (h : (24 < v2 → K τ) ∧ (¬ 24 < v2 → (¬ τ.1 319 4 = 0 → K τ) ∧ (τ.1 319 4 = 0 → x_CI d mX8_kindAt [.ref 314, .int (τ.1 319 2)] τ (fun t1 a2 => (a2 = 46 → K t1) ∧ (¬ a2 = 46 → x_CV d mX6_readClause [.ref 319] t1 (fun t3 => ∀ y5, y5 = v2 + 1 → (x_WV (d + 1) mX6_read K 36 [(0, .ref 319), (2, .int y5)] [] t3))))))) : x_WV (d + 1) mX6_read K 36 [(0, .ref 319), (2, .int v2)] [] τ := by
  refine o_iload_n (k := 2) 1 (by decide +kernel) rfl ?_
  refine o_bipush (n := 24) (v := 24) (by decide +kernel) (by decide) ?_
  refine o_icmp_gt (off := 36) 75 (by decide +kernel) (by decide) (fun q => ?_) (fun q => ?_)
  · replace h := h.1 q
    exact f_vret rfl (by decide +kernel) rfl h
  · replace h := h.2 q
    refine o_aload_n (k := 0) 0 (by decide +kernel) rfl ?_
    refine f_getI (t := 6) (k := 4) (i := 9) (by decide +kernel) sh_319 rfl (by decide) lk_383 rfl ?_
    refine o_if_ne (off := 29) 75 (by decide +kernel) (by decide) (fun q => ?_) (fun q => ?_)
    · replace h := h.1 q
      exact f_vret rfl (by decide +kernel) rfl h
    · replace h := h.2 q
      refine o_aload_n (k := 0) 0 (by decide +kernel) rfl ?_
      refine f_getR (r := 314) (t := 6) (k := 0) (i := 18) (by decide +kernel) sh_319 rfl (by decide) lk_379 (by simp [x_ty, tyX6]) (gr_6_0 sh_319) ?_
      refine o_aload_n (k := 0) 0 (by decide +kernel) rfl ?_
      refine f_getI (t := 6) (k := 2) (i := 29) (by decide +kernel) sh_319 rfl (by decide) lk_381 rfl ?_
      refine f_callVI (μ' := mX8_kindAt) (i := 40) (vs := [.int (τ.1 319 2)]) (by decide +kernel) lk_944 (vok_mX8_kindAt) sh_314 rfl rfl rfl rfl (Nat.le_of_ble_eq_true rfl) ?_
      refine x_CI.mono h (fun t1 a2 h => ?_)
      refine o_bipush (n := 46) (v := 46) (by decide +kernel) (by decide) ?_
      refine o_icmp_eq (off := 13) 75 (by decide +kernel) (by decide) (fun q => ?_) (fun q => ?_)
      · replace h := h.1 q
        exact f_vret rfl (by decide +kernel) rfl h
      · replace h := h.2 q
        refine o_aload_n (k := 0) 0 (by decide +kernel) rfl ?_
        refine f_callVV (μ' := mX6_readClause) (i := 44) (vs := []) (by decide +kernel) lk_948 (vok_mX6_readClause) sh_319 rfl rfl rfl rfl (Nat.le_of_ble_eq_true rfl) ?_
        refine x_CV.mono h (fun t3 h => ?_)
        obtain ⟨y5, ey5⟩ : ∃ y : Int32, y = v2 + 1 := ⟨_, rfl⟩
        replace h := h y5 ey5
        refine o_iinc (i := 2) (n := 1) (v := y5) (L' := [(2, .int y5), (0, .ref 319)]) 1 (by decide +kernel) rfl (by rw [ey5]; rfl) (by decide) rfl ?_
        refine o_goto (off := -36) 36 (by decide +kernel) (by decide) ?_
        refine o_sub [1, 0] rfl ?_
        exact h
set_option maxRecDepth 20000 in
theorem e_X6_refuse {d : Nat} {K : x_T → Prop} {v1 : Int32} {τ : x_T} (h : (¬ τ.1 319 4 = 0 → K τ) ∧ (τ.1 319 4 = 0 → ∀ t1, t1 = x_w1 τ 319 4 v1 → (x_CI d mX8_placeAt [.ref 314, .int (t1.1 319 2)] t1 (fun t2 a3 => ∀ t4, t4 = x_w1 t2 319 5 a3 → (K t4))))) : x_CV (d + 1) mX6_refuse [.ref 319, .int v1] τ K := by
  refine x_CV_of (by decide) (Nat.le_of_ble_eq_true rfl) ?_
  show x_WV (d + 1) mX6_refuse K 0 [(0, .ref 319), (1, .int v1)] [] τ
  refine o_aload_n (k := 0) 0 (by decide +kernel) rfl ?_
  refine f_getI (t := 6) (k := 4) (i := 9) (by decide +kernel) sh_319 rfl (by decide) lk_383 rfl ?_
  refine o_if_ne (off := 23) 27 (by decide +kernel) (by decide) (fun q => ?_) (fun q => ?_)
  · replace h := h.1 q
    exact f_vret rfl (by decide +kernel) rfl h
  · replace h := h.2 q
    refine o_aload_n (k := 0) 0 (by decide +kernel) rfl ?_
    refine o_iload_n (k := 1) 1 (by decide +kernel) rfl ?_
    refine f_putI (t := 6) (k := 4) (i := 9) (by decide +kernel) sh_319 rfl (by decide) lk_383 rfl rfl ?_
    refine f_name (fun t1 et1 => ?_)
    replace h := h t1 et1
    refine o_aload_n (k := 0) 0 (by decide +kernel) rfl ?_
    refine o_aload_n (k := 0) 0 (by decide +kernel) rfl ?_
    refine f_getR (r := 314) (t := 6) (k := 0) (i := 18) (by decide +kernel) sh_319 rfl (by decide) lk_379 (by simp [x_ty, tyX6]) (gr_6_0 sh_319) ?_
    refine o_aload_n (k := 0) 0 (by decide +kernel) rfl ?_
    refine f_getI (t := 6) (k := 2) (i := 29) (by decide +kernel) sh_319 rfl (by decide) lk_381 rfl ?_
    refine f_callVI (μ' := mX8_placeAt) (i := 47) (vs := [.int (t1.1 319 2)]) (by decide +kernel) lk_956 (vok_mX8_placeAt) sh_314 rfl rfl rfl rfl (Nat.le_of_ble_eq_true rfl) ?_
    refine x_CI.mono h (fun t2 a3 h => ?_)
    refine f_putI (t := 6) (k := 5) (i := 15) (by decide +kernel) sh_319 rfl (by decide) lk_385 rfl rfl ?_
    refine f_name (fun t4 et4 => ?_)
    replace h := h t4 et4
    exact f_vret rfl (by decide +kernel) rfl h
set_option maxRecDepth 20000 in
theorem e_X6_isNext {d : Nat} {K : x_T → Int32 → Prop} {v1 : Int32} {τ : x_T} (h : (¬ τ.1 319 4 = 0 → K τ 0) ∧ (τ.1 319 4 = 0 → x_CI d mX8_kindAt [.ref 314, .int (τ.1 319 2)] τ (fun t1 a2 => (¬ a2 = v1 → K t1 0) ∧ (a2 = v1 → K t1 1)))) : x_CI (d + 1) mX6_isNext [.ref 319, .int v1] τ K := by
  refine x_CI_of (by decide) (Nat.le_of_ble_eq_true rfl) ?_
  show x_WI (d + 1) mX6_isNext K 0 [(0, .ref 319), (1, .int v1)] [] τ
  refine o_aload_n (k := 0) 0 (by decide +kernel) rfl ?_
  refine f_getI (t := 6) (k := 4) (i := 9) (by decide +kernel) sh_319 rfl (by decide) lk_383 rfl ?_
  refine o_if_ne (off := 22) 26 (by decide +kernel) (by decide) (fun q => ?_) (fun q => ?_)
  · replace h := h.1 q
    refine o_iconst (n := 0) (v := 0) (by decide +kernel) (by decide) ?_
    exact f_iret (ty := .boolean) rfl (by decide) (by decide +kernel) rfl h
  · replace h := h.2 q
    refine o_aload_n (k := 0) 0 (by decide +kernel) rfl ?_
    refine f_getR (r := 314) (t := 6) (k := 0) (i := 18) (by decide +kernel) sh_319 rfl (by decide) lk_379 (by simp [x_ty, tyX6]) (gr_6_0 sh_319) ?_
    refine o_aload_n (k := 0) 0 (by decide +kernel) rfl ?_
    refine f_getI (t := 6) (k := 2) (i := 29) (by decide +kernel) sh_319 rfl (by decide) lk_381 rfl ?_
    refine f_callVI (μ' := mX8_kindAt) (i := 40) (vs := [.int (τ.1 319 2)]) (by decide +kernel) lk_944 (vok_mX8_kindAt) sh_314 rfl rfl rfl rfl (Nat.le_of_ble_eq_true rfl) ?_
    refine x_CI.mono h (fun t1 a2 h => ?_)
    refine o_iload_n (k := 1) 1 (by decide +kernel) rfl ?_
    refine o_icmp_ne (off := 7) 26 (by decide +kernel) (by decide) (fun q => ?_) (fun q => ?_)
    · replace h := h.1 q
      refine o_iconst (n := 0) (v := 0) (by decide +kernel) (by decide) ?_
      exact f_iret (ty := .boolean) rfl (by decide) (by decide +kernel) rfl h
    · replace h := h.2 q
      refine o_iconst (n := 1) (v := 1) (by decide +kernel) (by decide) ?_
      refine o_goto (off := 4) 27 (by decide +kernel) (by decide) ?_
      exact f_iret (ty := .boolean) rfl (by decide) (by decide +kernel) rfl h
set_option maxRecDepth 20000 in
theorem e_X6_expect {d : Nat} {K : x_T → Prop} {v1 : Int32} {τ : x_T} (h : x_CI d mX6_isNext [.ref 319, .int v1] τ (fun t1 a2 => (a2 = 0 → x_CV d mX6_refuse [.ref 319, .int 1] t1 (fun t3 => K t3)) ∧ (¬ a2 = 0 → ∀ t5, t5 = x_w1 t1 319 2 ((t1.1 319 2) + 1) → (K t5)))) : x_CV (d + 1) mX6_expect [.ref 319, .int v1] τ K := by
  refine x_CV_of (by decide) (Nat.le_of_ble_eq_true rfl) ?_
  show x_WV (d + 1) mX6_expect K 0 [(0, .ref 319), (1, .int v1)] [] τ
  refine o_aload_n (k := 0) 0 (by decide +kernel) rfl ?_
  refine o_iload_n (k := 1) 1 (by decide +kernel) rfl ?_
  refine f_callVI (μ' := mX6_isNext) (i := 50) (vs := [.int v1]) (by decide +kernel) lk_981 (vok_mX6_isNext) sh_319 rfl rfl rfl rfl (Nat.le_of_ble_eq_true rfl) ?_
  refine x_CI.mono h (fun t1 a2 h => ?_)
  refine o_if_eq (off := 16) 21 (by decide +kernel) (by decide) (fun q => ?_) (fun q => ?_)
  · replace h := h.1 q
    refine o_aload_n (k := 0) 0 (by decide +kernel) rfl ?_
    refine o_iconst (n := 1) (v := 1) (by decide +kernel) (by decide) ?_
    refine f_callVV (μ' := mX6_refuse) (i := 54) (vs := [.int 1]) (by decide +kernel) lk_952 (vok_mX6_refuse) sh_319 rfl rfl rfl rfl (Nat.le_of_ble_eq_true rfl) ?_
    refine x_CV.mono h (fun t3 h => ?_)
    exact f_vret rfl (by decide +kernel) rfl h
  · replace h := h.2 q
    refine o_aload_n (k := 0) 0 (by decide +kernel) rfl ?_
    refine o_dup (by decide +kernel) rfl ?_
    refine f_getI (t := 6) (k := 2) (i := 29) (by decide +kernel) sh_319 rfl (by decide) lk_381 rfl ?_
    refine o_iconst (n := 1) (v := 1) (by decide +kernel) (by decide) ?_
    refine o_iadd (by decide +kernel) ?_
    refine f_putI (t := 6) (k := 2) (i := 29) (by decide +kernel) sh_319 rfl (by decide) lk_381 rfl rfl ?_
    refine f_name (fun t5 et5 => ?_)
    replace h := h t5 et5
    refine o_goto (off := 8) 26 (by decide +kernel) (by decide) ?_
    exact f_vret rfl (by decide +kernel) rfl h
set_option maxRecDepth 20000 in
theorem e_X6_expectNumber {d : Nat} {K : x_T → Int32 → Prop} {v1 : Int32} {v2 : Int32} {τ : x_T} (h : x_CI d mX8_valueAt [.ref 314, .int (τ.1 319 2)] τ (fun t1 a2 => x_CI d mX6_isNext [.ref 319, .int 45] t1 (fun t3 a4 => (¬ a4 = 0 → (a2 < v1 → x_WI (d + 1) mX6_expectNumber K 39 [(0, .ref 319), (3, .int a2)] [] t3) ∧ (¬ a2 < v1 → (a2 ≤ v2 → ∀ t5, t5 = x_w1 t3 319 2 ((t3.1 319 2) + 1) → (K t5 a2)) ∧ (¬ a2 ≤ v2 → x_WI (d + 1) mX6_expectNumber K 39 [(0, .ref 319), (3, .int a2)] [] t3))) ∧ (a4 = 0 → x_CV d mX6_refuse [.ref 319, .int 1] t3 (fun t6 => K t6 a2))))) : x_CI (d + 1) mX6_expectNumber [.ref 319, .int v1, .int v2] τ K := by
  refine x_CI_of (by decide) (Nat.le_of_ble_eq_true rfl) ?_
  show x_WI (d + 1) mX6_expectNumber K 0 [(0, .ref 319), (1, .int v1), (2, .int v2)] [] τ
  refine o_aload_n (k := 0) 0 (by decide +kernel) rfl ?_
  refine f_getR (r := 314) (t := 6) (k := 0) (i := 18) (by decide +kernel) sh_319 rfl (by decide) lk_379 (by simp [x_ty, tyX6]) (gr_6_0 sh_319) ?_
  refine o_aload_n (k := 0) 0 (by decide +kernel) rfl ?_
  refine f_getI (t := 6) (k := 2) (i := 29) (by decide +kernel) sh_319 rfl (by decide) lk_381 rfl ?_
  refine f_callVI (μ' := mX8_valueAt) (i := 58) (vs := [.int (τ.1 319 2)]) (by decide +kernel) lk_977 (vok_mX8_valueAt) sh_314 rfl rfl rfl rfl (Nat.le_of_ble_eq_true rfl) ?_
  refine x_CI.mono h (fun t1 a2 h => ?_)
  refine o_istore_n (k := 3) (L' := [(3, .int a2), (0, .ref 319), (1, .int v1), (2, .int v2)]) (by decide +kernel) (by decide) rfl ?_
  refine o_aload_n (k := 0) 1 (by decide +kernel) rfl ?_
  refine o_bipush (n := 45) (v := 45) (by decide +kernel) (by decide) ?_
  refine f_callVI (μ' := mX6_isNext) (i := 50) (vs := [.int 45]) (by decide +kernel) lk_981 (vok_mX6_isNext) sh_319 rfl rfl rfl rfl (Nat.le_of_ble_eq_true rfl) ?_
  refine x_CI.mono h (fun t3 a4 h => ?_)
  refine o_if_ne (off := 11) 29 (by decide +kernel) (by decide) (fun q => ?_) (fun q => ?_)
  · replace h := h.1 q
    refine o_iload_n (k := 3) 0 (by decide +kernel) rfl ?_
    refine o_iload_n (k := 1) 2 (by decide +kernel) rfl ?_
    refine o_icmp_lt (off := 8) 39 (by decide +kernel) (by decide) (fun q => ?_) (fun q => ?_)
    · replace h := h.1 q
      refine o_sub [1, 0] rfl ?_
      exact h
    · replace h := h.2 q
      refine o_iload_n (k := 3) 0 (by decide +kernel) rfl ?_
      refine o_iload_n (k := 2) 3 (by decide +kernel) rfl ?_
      refine o_icmp_le (off := 11) 47 (by decide +kernel) (by decide) (fun q => ?_) (fun q => ?_)
      · replace h := h.1 q
        refine o_aload_n (k := 0) 1 (by decide +kernel) rfl ?_
        refine o_dup (by decide +kernel) rfl ?_
        refine f_getI (t := 6) (k := 2) (i := 29) (by decide +kernel) sh_319 rfl (by decide) lk_381 rfl ?_
        refine o_iconst (n := 1) (v := 1) (by decide +kernel) (by decide) ?_
        refine o_iadd (by decide +kernel) ?_
        refine f_putI (t := 6) (k := 2) (i := 29) (by decide +kernel) sh_319 rfl (by decide) lk_381 rfl rfl ?_
        refine f_name (fun t5 et5 => ?_)
        replace h := h t5 et5
        refine o_iload_n (k := 3) 0 (by decide +kernel) rfl ?_
        exact f_iret (ty := .int) rfl rfl (by decide +kernel) rfl h
      · replace h := h.2 q
        refine o_sub [1, 0] rfl ?_
        exact h
  · replace h := h.2 q
    refine o_aload_n (k := 0) 1 (by decide +kernel) rfl ?_
    refine o_iconst (n := 1) (v := 1) (by decide +kernel) (by decide) ?_
    refine f_callVV (μ' := mX6_refuse) (i := 54) (vs := [.int 1]) (by decide +kernel) lk_952 (vok_mX6_refuse) sh_319 rfl rfl rfl rfl (Nat.le_of_ble_eq_true rfl) ?_
    refine x_CV.mono h (fun t6 h => ?_)
    refine o_goto (off := 31) 57 (by decide +kernel) (by decide) ?_
    refine o_iload_n (k := 3) 0 (by decide +kernel) rfl ?_
    exact f_iret (ty := .int) rfl rfl (by decide +kernel) rfl h
set_option maxRecDepth 20000 in
theorem k_X6_expectNumber_39 {d : Nat} {K : x_T → Int32 → Prop} {v3 : Int32} {τ : x_T} (h : x_CV d mX6_refuse [.ref 319, .int 2] τ (fun t1 => K t1 v3)) : x_WI (d + 1) mX6_expectNumber K 39 [(0, .ref 319), (3, .int v3)] [] τ := by
  refine o_aload_n (k := 0) 0 (by decide +kernel) rfl ?_
  refine o_iconst (n := 2) (v := 2) (by decide +kernel) (by decide) ?_
  refine f_callVV (μ' := mX6_refuse) (i := 54) (vs := [.int 2]) (by decide +kernel) lk_952 (vok_mX6_refuse) sh_319 rfl rfl rfl rfl (Nat.le_of_ble_eq_true rfl) ?_
  refine x_CV.mono h (fun t1 h => ?_)
  refine o_goto (off := 13) 57 (by decide +kernel) (by decide) ?_
  refine o_iload_n (k := 3) 1 (by decide +kernel) rfl ?_
  exact f_iret (ty := .int) rfl rfl (by decide +kernel) rfl h
set_option maxRecDepth 20000 in
theorem e_X6_readClause {d : Nat} {K : x_T → Prop}  {τ : x_T} (h : x_CI d mX8_kindAt [.ref 314, .int (τ.1 319 2)] τ (fun t1 a2 => (a2 ≤ 10 → x_sh t1.2.2.1 = (9, 10) ∧ (x_CI d mX9_hasLaw [.ref t1.2.2.1, .int a2] t1 (fun t4 a5 => (a5 = 0 → x_sh t4.2.2.1 = (9, 10) ∧ ((t4.1 t4.2.2.1 4 < 24 → ∀ t7, t7 = x_w1 t4 319 2 ((t4.1 319 2) + 1) → ((4 ≤ a2 → x_CV d mX6_readDeed [.ref 319, .int a2] t7 (fun t8 => x_WV (d + 1) mX6_readClause K 127 [(0, .ref 319)] [] t8)) ∧ (¬ 4 ≤ a2 → x_sh t7.2.2.1 = (9, 10) ∧ (∀ y11, y11 = t7.1 t7.2.2.1 9 → (∀ t12, t12 = x_w1 t7 319 3 a2 → (x_CV d mX6_readSum [.ref 319, .int 0] t12 (fun t13 => x_sh t13.2.2.1 = (9, 10) ∧ (x_CV d mX9_setLaw [.ref t13.2.2.1, .int a2, .int y11] t13 (fun t16 => x_sh t16.2.2.1 = (9, 10) ∧ (x_CV d mX9_addClause [.ref t16.2.2.1, .int a2, .int 0, .int 0, .int 0] t16 (fun t19 => x_WV (d + 1) mX6_readClause K 127 [(0, .ref 319)] [] t19))))))))))) ∧ (¬ t4.1 t4.2.2.1 4 < 24 → x_CV d mX6_refuse [.ref 319, .int 6] t4 (fun t21 => K t21)))) ∧ (¬ a5 = 0 → x_CV d mX6_refuse [.ref 319, .int 4] t4 (fun t23 => K t23))))) ∧ (¬ a2 ≤ 10 → x_CV d mX6_refuse [.ref 319, .int 1] t1 (fun t25 => K t25)))) : x_CV (d + 1) mX6_readClause [.ref 319] τ K := by
  refine x_CV_of (by decide) (Nat.le_of_ble_eq_true rfl) ?_
  show x_WV (d + 1) mX6_readClause K 0 [(0, .ref 319)] [] τ
  refine o_aload_n (k := 0) 0 (by decide +kernel) rfl ?_
  refine f_getR (r := 314) (t := 6) (k := 0) (i := 18) (by decide +kernel) sh_319 rfl (by decide) lk_379 (by simp [x_ty, tyX6]) (gr_6_0 sh_319) ?_
  refine o_aload_n (k := 0) 0 (by decide +kernel) rfl ?_
  refine f_getI (t := 6) (k := 2) (i := 29) (by decide +kernel) sh_319 rfl (by decide) lk_381 rfl ?_
  refine f_callVI (μ' := mX8_kindAt) (i := 40) (vs := [.int (τ.1 319 2)]) (by decide +kernel) lk_944 (vok_mX8_kindAt) sh_314 rfl rfl rfl rfl (Nat.le_of_ble_eq_true rfl) ?_
  refine x_CI.mono h (fun t1 a2 h => ?_)
  refine o_istore_n (k := 1) (L' := [(1, .int a2), (0, .ref 319)]) (by decide +kernel) (by decide) rfl ?_
  refine o_iload_n (k := 1) 0 (by decide +kernel) rfl ?_
  refine o_bipush (n := 10) (v := 10) (by decide +kernel) (by decide) ?_
  refine o_icmp_le (off := 11) 26 (by decide +kernel) (by decide) (fun q => ?_) (fun q => ?_)
  · replace h := h.1 q
    refine o_aload_n (k := 0) 1 (by decide +kernel) rfl ?_
    obtain ⟨hsc3, h⟩ := h
    refine f_getR (r := t1.2.2.1) (t := 6) (k := 1) (i := 25) (by decide +kernel) sh_319 rfl (by decide) lk_380 (by simp [x_ty, tyX6]) rfl ?_
    refine o_iload_n (k := 1) 0 (by decide +kernel) rfl ?_
    refine f_callVI (μ' := mX9_hasLaw) (i := 61) (vs := [.int a2]) (by decide +kernel) lk_960 (vok_mX9_hasLaw) hsc3 rfl rfl rfl rfl (Nat.le_of_ble_eq_true rfl) ?_
    refine x_CI.mono h (fun t4 a5 h => ?_)
    refine o_if_eq (off := 11) 45 (by decide +kernel) (by decide) (fun q => ?_) (fun q => ?_)
    · replace h := h.1 q
      refine o_aload_n (k := 0) 1 (by decide +kernel) rfl ?_
      obtain ⟨hsc6, h⟩ := h
      refine f_getR (r := t4.2.2.1) (t := 6) (k := 1) (i := 25) (by decide +kernel) sh_319 rfl (by decide) lk_380 (by simp [x_ty, tyX6]) rfl ?_
      refine f_getI (t := 9) (k := 4) (i := 64) (by decide +kernel) hsc6 rfl (by decide) lk_316 rfl ?_
      refine o_bipush (n := 24) (v := 24) (by decide +kernel) (by decide) ?_
      refine o_icmp_lt (off := 12) 66 (by decide +kernel) (by decide) (fun q => ?_) (fun q => ?_)
      · replace h := h.1 q
        refine o_aload_n (k := 0) 1 (by decide +kernel) rfl ?_
        refine o_dup (by decide +kernel) rfl ?_
        refine f_getI (t := 6) (k := 2) (i := 29) (by decide +kernel) sh_319 rfl (by decide) lk_381 rfl ?_
        refine o_iconst (n := 1) (v := 1) (by decide +kernel) (by decide) ?_
        refine o_iadd (by decide +kernel) ?_
        refine f_putI (t := 6) (k := 2) (i := 29) (by decide +kernel) sh_319 rfl (by decide) lk_381 rfl rfl ?_
        refine f_name (fun t7 et7 => ?_)
        replace h := h t7 et7
        refine o_iload_n (k := 1) 0 (by decide +kernel) rfl ?_
        refine o_iconst (n := 4) (v := 4) (by decide +kernel) (by decide) ?_
        refine o_icmp_ge (off := 44) 122 (by decide +kernel) (by decide) (fun q => ?_) (fun q => ?_)
        · replace h := h.1 q
          refine o_aload_n (k := 0) 1 (by decide +kernel) rfl ?_
          refine o_iload_n (k := 1) 0 (by decide +kernel) rfl ?_
          refine f_callVV (μ' := mX6_readDeed) (i := 84) (vs := [.int a2]) (by decide +kernel) lk_1038 (vok_mX6_readDeed) sh_319 rfl rfl rfl rfl (Nat.le_of_ble_eq_true rfl) ?_
          refine x_CV.mono h (fun t8 h => ?_)
          refine o_sub [1] rfl ?_
          exact h
        · replace h := h.2 q
          refine o_aload_n (k := 0) 1 (by decide +kernel) rfl ?_
          obtain ⟨hsc10, h⟩ := h
          refine f_getR (r := t7.2.2.1) (t := 6) (k := 1) (i := 25) (by decide +kernel) sh_319 rfl (by decide) lk_380 (by simp [x_ty, tyX6]) rfl ?_
          refine f_getI (t := 9) (k := 9) (i := 67) (by decide +kernel) hsc10 rfl (by decide) lk_323 rfl ?_
          refine o_name (fun y11 ey11 => ?_)
          replace h := h y11 ey11
          refine o_istore_n (k := 2) (L' := [(2, .int y11), (1, .int a2), (0, .ref 319)]) (by decide +kernel) (by decide) rfl ?_
          refine o_aload_n (k := 0) 2 (by decide +kernel) rfl ?_
          refine o_iload_n (k := 1) 1 (by decide +kernel) rfl ?_
          refine f_putI (t := 6) (k := 3) (i := 70) (by decide +kernel) sh_319 rfl (by decide) lk_382 rfl rfl ?_
          refine f_name (fun t12 et12 => ?_)
          replace h := h t12 et12
          refine o_aload_n (k := 0) 2 (by decide +kernel) rfl ?_
          refine o_iconst (n := 0) (v := 0) (by decide +kernel) (by decide) ?_
          refine f_callVV (μ' := mX6_readSum) (i := 73) (vs := [.int 0]) (by decide +kernel) lk_961 (vok_mX6_readSum) sh_319 rfl rfl rfl rfl (Nat.le_of_ble_eq_true rfl) ?_
          refine x_CV.mono h (fun t13 h => ?_)
          refine o_aload_n (k := 0) 2 (by decide +kernel) rfl ?_
          obtain ⟨hsc15, h⟩ := h
          refine f_getR (r := t13.2.2.1) (t := 6) (k := 1) (i := 25) (by decide +kernel) sh_319 rfl (by decide) lk_380 (by simp [x_ty, tyX6]) rfl ?_
          refine o_iload_n (k := 1) 1 (by decide +kernel) rfl ?_
          refine o_iload_n (k := 2) 0 (by decide +kernel) rfl ?_
          refine f_callVV (μ' := mX9_setLaw) (i := 76) (vs := [.int a2, .int y11]) (by decide +kernel) lk_1030 (vok_mX9_setLaw) hsc15 rfl rfl rfl rfl (Nat.le_of_ble_eq_true rfl) ?_
          refine x_CV.mono h (fun t16 h => ?_)
          refine o_aload_n (k := 0) 2 (by decide +kernel) rfl ?_
          obtain ⟨hsc18, h⟩ := h
          refine f_getR (r := t16.2.2.1) (t := 6) (k := 1) (i := 25) (by decide +kernel) sh_319 rfl (by decide) lk_380 (by simp [x_ty, tyX6]) rfl ?_
          refine o_iload_n (k := 1) 1 (by decide +kernel) rfl ?_
          refine o_iconst (n := 0) (v := 0) (by decide +kernel) (by decide) ?_
          refine o_iconst (n := 0) (v := 0) (by decide +kernel) (by decide) ?_
          refine o_iconst (n := 0) (v := 0) (by decide +kernel) (by decide) ?_
          refine f_callVV (μ' := mX9_addClause) (i := 80) (vs := [.int a2, .int 0, .int 0, .int 0]) (by decide +kernel) lk_1034 (vok_mX9_addClause) hsc18 rfl rfl rfl rfl (Nat.le_of_ble_eq_true rfl) ?_
          refine x_CV.mono h (fun t19 h => ?_)
          refine o_goto (off := 8) 127 (by decide +kernel) (by decide) ?_
          refine o_sub [2] rfl ?_
          exact h
      · replace h := h.2 q
        refine o_aload_n (k := 0) 1 (by decide +kernel) rfl ?_
        refine o_bipush (n := 6) (v := 6) (by decide +kernel) (by decide) ?_
        refine f_callVV (μ' := mX6_refuse) (i := 54) (vs := [.int 6]) (by decide +kernel) lk_952 (vok_mX6_refuse) sh_319 rfl rfl rfl rfl (Nat.le_of_ble_eq_true rfl) ?_
        refine x_CV.mono h (fun t21 h => ?_)
        refine o_goto (off := 70) 133 (by decide +kernel) (by decide) ?_
        exact f_vret rfl (by decide +kernel) rfl h
    · replace h := h.2 q
      refine o_aload_n (k := 0) 1 (by decide +kernel) rfl ?_
      refine o_iconst (n := 4) (v := 4) (by decide +kernel) (by decide) ?_
      refine f_callVV (μ' := mX6_refuse) (i := 54) (vs := [.int 4]) (by decide +kernel) lk_952 (vok_mX6_refuse) sh_319 rfl rfl rfl rfl (Nat.le_of_ble_eq_true rfl) ?_
      refine x_CV.mono h (fun t23 h => ?_)
      refine o_goto (off := 91) 133 (by decide +kernel) (by decide) ?_
      exact f_vret rfl (by decide +kernel) rfl h
  · replace h := h.2 q
    refine o_aload_n (k := 0) 1 (by decide +kernel) rfl ?_
    refine o_iconst (n := 1) (v := 1) (by decide +kernel) (by decide) ?_
    refine f_callVV (μ' := mX6_refuse) (i := 54) (vs := [.int 1]) (by decide +kernel) lk_952 (vok_mX6_refuse) sh_319 rfl rfl rfl rfl (Nat.le_of_ble_eq_true rfl) ?_
    refine x_CV.mono h (fun t25 h => ?_)
    refine o_goto (off := 110) 133 (by decide +kernel) (by decide) ?_
    exact f_vret rfl (by decide +kernel) rfl h
set_option maxRecDepth 20000 in
theorem k_X6_readClause_127 {d : Nat} {K : x_T → Prop}  {τ : x_T} (h : x_CV d mX6_expect [.ref 319, .int 42] τ (fun t1 => K t1)) : x_WV (d + 1) mX6_readClause K 127 [(0, .ref 319)] [] τ := by
  refine o_aload_n (k := 0) 0 (by decide +kernel) rfl ?_
  refine o_bipush (n := 42) (v := 42) (by decide +kernel) (by decide) ?_
  refine f_callVV (μ' := mX6_expect) (i := 87) (vs := [.int 42]) (by decide +kernel) lk_993 (vok_mX6_expect) sh_319 rfl rfl rfl rfl (Nat.le_of_ble_eq_true rfl) ?_
  refine x_CV.mono h (fun t1 h => ?_)
  exact f_vret rfl (by decide +kernel) rfl h
theorem d_X6_readDeed_8 : decode mX6_readDeed.2.1 8 = .ok (.tableswitch (141) (4) (10) #[(44), (55), (95), (106), (141), (141), (130)], 44) := by decide +kernel
set_option maxRecDepth 20000 in
theorem e_X6_readDeed {d : Nat} {K : x_T → Prop} {v1 : Int32} {τ : x_T} (h : ((v1 = 4 → x_CI d mX6_expectNumber [.ref 319, .int 0, .int 9] τ (fun t1 a2 => x_WV (d + 1) mX6_readDeed K 149 [(0, .ref 319), (1, .int v1), (2, .int a2), (3, .int 0), (4, .int 0)] [] t1)) ∧ (¬ v1 = 4 → (v1 = 5 → x_CI d mX6_expectNumber [.ref 319, .int 0, .int 7] τ (fun t3 a4 => x_CV d mX6_expect [.ref 319, .int 11] t3 (fun t5 => x_CI d mX6_expectNumber [.ref 319, .int 0, .int 7] t5 (fun t7 a8 => x_CV d mX6_expect [.ref 319, .int 12] t7 (fun t9 => x_CI d mX6_expectNumber [.ref 319, .int 0, .int 9] t9 (fun t11 a12 => x_WV (d + 1) mX6_readDeed K 149 [(0, .ref 319), (1, .int v1), (2, .int a4), (3, .int a8), (4, .int a12)] [] t11)))))) ∧ (¬ v1 = 5 → (v1 = 6 → x_CI d mX6_expectNumber [.ref 319, .int 1, .int 9] τ (fun t13 a14 => x_WV (d + 1) mX6_readDeed K 149 [(0, .ref 319), (1, .int v1), (2, .int a14), (3, .int 0), (4, .int 0)] [] t13)) ∧ (¬ v1 = 6 → (v1 = 7 → x_CI d mX6_expectNumber [.ref 319, .int 0, .int 7] τ (fun t15 a16 => x_CV d mX6_expect [.ref 319, .int 13] t15 (fun t17 => x_CI d mX6_expectNumber [.ref 319, .int 0, .int 3] t17 (fun t19 a20 => x_WV (d + 1) mX6_readDeed K 149 [(0, .ref 319), (1, .int v1), (2, .int a16), (3, .int a20), (4, .int 0)] [] t19)))) ∧ (¬ v1 = 7 → (v1 = 8 → x_WV (d + 1) mX6_readDeed K 149 [(0, .ref 319), (1, .int v1), (2, .int 0), (3, .int 0), (4, .int 0)] [] τ) ∧ (¬ v1 = 8 → (v1 = 9 → x_WV (d + 1) mX6_readDeed K 149 [(0, .ref 319), (1, .int v1), (2, .int 0), (3, .int 0), (4, .int 0)] [] τ) ∧ (¬ v1 = 9 → (v1 = 10 → x_CI d mX6_expectNumber [.ref 319, .int 1, .int 60] τ (fun t21 a22 => x_WV (d + 1) mX6_readDeed K 149 [(0, .ref 319), (1, .int v1), (2, .int a22), (3, .int 0), (4, .int 0)] [] t21)) ∧ (¬ v1 = 10 → (x_WV (d + 1) mX6_readDeed K 149 [(0, .ref 319), (1, .int v1), (2, .int 0), (3, .int 0), (4, .int 0)] [] τ)))))))))) : x_CV (d + 1) mX6_readDeed [.ref 319, .int v1] τ K := by
  refine x_CV_of (by decide) (Nat.le_of_ble_eq_true rfl) ?_
  show x_WV (d + 1) mX6_readDeed K 0 [(0, .ref 319), (1, .int v1)] [] τ
  refine o_iconst (n := 0) (v := 0) (by decide +kernel) (by decide) ?_
  refine o_istore_n (k := 2) (L' := [(2, .int 0), (0, .ref 319), (1, .int v1)]) (by decide +kernel) (by decide) rfl ?_
  refine o_iconst (n := 0) (v := 0) (by decide +kernel) (by decide) ?_
  refine o_istore_n (k := 3) (L' := [(3, .int 0), (2, .int 0), (0, .ref 319), (1, .int v1)]) (by decide +kernel) (by decide) rfl ?_
  refine o_iconst (n := 0) (v := 0) (by decide +kernel) (by decide) ?_
  refine o_istore (k := 4) (L' := [(4, .int 0), (3, .int 0), (2, .int 0), (0, .ref 319), (1, .int v1)]) (by decide +kernel) (by decide) rfl ?_
  refine o_iload_n (k := 1) 4 (by decide +kernel) rfl ?_
  by_cases c4 : v1 = 4
  · replace h := h.1 c4
    refine o_tableIn (off := 44) (tgt := 52) (d_X6_readDeed_8) (by rw [c4]; decide) (by rw [c4]; decide) (by rw [c4]; rfl) (by decide) ?_
    refine o_aload_n (k := 0) 3 (by decide +kernel) rfl ?_
    refine o_iconst (n := 0) (v := 0) (by decide +kernel) (by decide) ?_
    refine o_bipush (n := 9) (v := 9) (by decide +kernel) (by decide) ?_
    refine f_callVI (μ' := mX6_expectNumber) (i := 90) (vs := [.int 0, .int 9]) (by decide +kernel) lk_973 (vok_mX6_expectNumber) sh_319 rfl rfl rfl rfl (Nat.le_of_ble_eq_true rfl) ?_
    refine x_CI.mono h (fun t1 a2 h => ?_)
    refine o_istore_n (k := 2) (L' := [(2, .int a2), (4, .int 0), (3, .int 0), (0, .ref 319), (1, .int v1)]) (by decide +kernel) (by decide) rfl ?_
    refine o_goto (off := 89) 149 (by decide +kernel) (by decide) ?_
    refine o_sub [3, 4, 0, 2, 1] rfl ?_
    exact h
  replace h := h.2 c4
  by_cases c5 : v1 = 5
  · replace h := h.1 c5
    refine o_tableIn (off := 55) (tgt := 63) (d_X6_readDeed_8) (by rw [c5]; decide) (by rw [c5]; decide) (by rw [c5]; rfl) (by decide) ?_
    refine o_aload_n (k := 0) 3 (by decide +kernel) rfl ?_
    refine o_iconst (n := 0) (v := 0) (by decide +kernel) (by decide) ?_
    refine o_bipush (n := 7) (v := 7) (by decide +kernel) (by decide) ?_
    refine f_callVI (μ' := mX6_expectNumber) (i := 90) (vs := [.int 0, .int 7]) (by decide +kernel) lk_973 (vok_mX6_expectNumber) sh_319 rfl rfl rfl rfl (Nat.le_of_ble_eq_true rfl) ?_
    refine x_CI.mono h (fun t3 a4 h => ?_)
    refine o_istore_n (k := 2) (L' := [(2, .int a4), (4, .int 0), (3, .int 0), (0, .ref 319), (1, .int v1)]) (by decide +kernel) (by decide) rfl ?_
    refine o_aload_n (k := 0) 3 (by decide +kernel) rfl ?_
    refine o_bipush (n := 11) (v := 11) (by decide +kernel) (by decide) ?_
    refine f_callVV (μ' := mX6_expect) (i := 87) (vs := [.int 11]) (by decide +kernel) lk_993 (vok_mX6_expect) sh_319 rfl rfl rfl rfl (Nat.le_of_ble_eq_true rfl) ?_
    refine x_CV.mono h (fun t5 h => ?_)
    refine o_aload_n (k := 0) 3 (by decide +kernel) rfl ?_
    refine o_iconst (n := 0) (v := 0) (by decide +kernel) (by decide) ?_
    refine o_bipush (n := 7) (v := 7) (by decide +kernel) (by decide) ?_
    refine f_callVI (μ' := mX6_expectNumber) (i := 90) (vs := [.int 0, .int 7]) (by decide +kernel) lk_973 (vok_mX6_expectNumber) sh_319 rfl rfl rfl rfl (Nat.le_of_ble_eq_true rfl) ?_
    refine x_CI.mono h (fun t7 a8 h => ?_)
    refine o_istore_n (k := 3) (L' := [(3, .int a8), (2, .int a4), (4, .int 0), (0, .ref 319), (1, .int v1)]) (by decide +kernel) (by decide) rfl ?_
    refine o_aload_n (k := 0) 3 (by decide +kernel) rfl ?_
    refine o_bipush (n := 12) (v := 12) (by decide +kernel) (by decide) ?_
    refine f_callVV (μ' := mX6_expect) (i := 87) (vs := [.int 12]) (by decide +kernel) lk_993 (vok_mX6_expect) sh_319 rfl rfl rfl rfl (Nat.le_of_ble_eq_true rfl) ?_
    refine x_CV.mono h (fun t9 h => ?_)
    refine o_aload_n (k := 0) 3 (by decide +kernel) rfl ?_
    refine o_iconst (n := 0) (v := 0) (by decide +kernel) (by decide) ?_
    refine o_bipush (n := 9) (v := 9) (by decide +kernel) (by decide) ?_
    refine f_callVI (μ' := mX6_expectNumber) (i := 90) (vs := [.int 0, .int 9]) (by decide +kernel) lk_973 (vok_mX6_expectNumber) sh_319 rfl rfl rfl rfl (Nat.le_of_ble_eq_true rfl) ?_
    refine x_CI.mono h (fun t11 a12 h => ?_)
    refine o_istore (k := 4) (L' := [(4, .int a12), (3, .int a8), (2, .int a4), (0, .ref 319), (1, .int v1)]) (by decide +kernel) (by decide) rfl ?_
    refine o_goto (off := 49) 149 (by decide +kernel) (by decide) ?_
    refine o_sub [3, 4, 2, 1, 0] rfl ?_
    exact h
  replace h := h.2 c5
  by_cases c6 : v1 = 6
  · replace h := h.1 c6
    refine o_tableIn (off := 95) (tgt := 103) (d_X6_readDeed_8) (by rw [c6]; decide) (by rw [c6]; decide) (by rw [c6]; rfl) (by decide) ?_
    refine o_aload_n (k := 0) 3 (by decide +kernel) rfl ?_
    refine o_iconst (n := 1) (v := 1) (by decide +kernel) (by decide) ?_
    refine o_bipush (n := 9) (v := 9) (by decide +kernel) (by decide) ?_
    refine f_callVI (μ' := mX6_expectNumber) (i := 90) (vs := [.int 1, .int 9]) (by decide +kernel) lk_973 (vok_mX6_expectNumber) sh_319 rfl rfl rfl rfl (Nat.le_of_ble_eq_true rfl) ?_
    refine x_CI.mono h (fun t13 a14 h => ?_)
    refine o_istore_n (k := 2) (L' := [(2, .int a14), (4, .int 0), (3, .int 0), (0, .ref 319), (1, .int v1)]) (by decide +kernel) (by decide) rfl ?_
    refine o_goto (off := 38) 149 (by decide +kernel) (by decide) ?_
    refine o_sub [3, 4, 0, 2, 1] rfl ?_
    exact h
  replace h := h.2 c6
  by_cases c7 : v1 = 7
  · replace h := h.1 c7
    refine o_tableIn (off := 106) (tgt := 114) (d_X6_readDeed_8) (by rw [c7]; decide) (by rw [c7]; decide) (by rw [c7]; rfl) (by decide) ?_
    refine o_aload_n (k := 0) 3 (by decide +kernel) rfl ?_
    refine o_iconst (n := 0) (v := 0) (by decide +kernel) (by decide) ?_
    refine o_bipush (n := 7) (v := 7) (by decide +kernel) (by decide) ?_
    refine f_callVI (μ' := mX6_expectNumber) (i := 90) (vs := [.int 0, .int 7]) (by decide +kernel) lk_973 (vok_mX6_expectNumber) sh_319 rfl rfl rfl rfl (Nat.le_of_ble_eq_true rfl) ?_
    refine x_CI.mono h (fun t15 a16 h => ?_)
    refine o_istore_n (k := 2) (L' := [(2, .int a16), (4, .int 0), (3, .int 0), (0, .ref 319), (1, .int v1)]) (by decide +kernel) (by decide) rfl ?_
    refine o_aload_n (k := 0) 3 (by decide +kernel) rfl ?_
    refine o_bipush (n := 13) (v := 13) (by decide +kernel) (by decide) ?_
    refine f_callVV (μ' := mX6_expect) (i := 87) (vs := [.int 13]) (by decide +kernel) lk_993 (vok_mX6_expect) sh_319 rfl rfl rfl rfl (Nat.le_of_ble_eq_true rfl) ?_
    refine x_CV.mono h (fun t17 h => ?_)
    refine o_aload_n (k := 0) 3 (by decide +kernel) rfl ?_
    refine o_iconst (n := 0) (v := 0) (by decide +kernel) (by decide) ?_
    refine o_iconst (n := 3) (v := 3) (by decide +kernel) (by decide) ?_
    refine f_callVI (μ' := mX6_expectNumber) (i := 90) (vs := [.int 0, .int 3]) (by decide +kernel) lk_973 (vok_mX6_expectNumber) sh_319 rfl rfl rfl rfl (Nat.le_of_ble_eq_true rfl) ?_
    refine x_CI.mono h (fun t19 a20 h => ?_)
    refine o_istore_n (k := 3) (L' := [(3, .int a20), (2, .int a16), (4, .int 0), (0, .ref 319), (1, .int v1)]) (by decide +kernel) (by decide) rfl ?_
    refine o_goto (off := 14) 149 (by decide +kernel) (by decide) ?_
    refine o_sub [3, 4, 1, 0, 2] rfl ?_
    exact h
  replace h := h.2 c7
  by_cases c8 : v1 = 8
  · replace h := h.1 c8
    refine o_tableIn (off := 141) (tgt := 149) (d_X6_readDeed_8) (by rw [c8]; decide) (by rw [c8]; decide) (by rw [c8]; rfl) (by decide) ?_
    refine o_sub [3, 4, 2, 1, 0] rfl ?_
    exact h
  replace h := h.2 c8
  by_cases c9 : v1 = 9
  · replace h := h.1 c9
    refine o_tableIn (off := 141) (tgt := 149) (d_X6_readDeed_8) (by rw [c9]; decide) (by rw [c9]; decide) (by rw [c9]; rfl) (by decide) ?_
    refine o_sub [3, 4, 2, 1, 0] rfl ?_
    exact h
  replace h := h.2 c9
  by_cases c10 : v1 = 10
  · replace h := h.1 c10
    refine o_tableIn (off := 130) (tgt := 138) (d_X6_readDeed_8) (by rw [c10]; decide) (by rw [c10]; decide) (by rw [c10]; rfl) (by decide) ?_
    refine o_aload_n (k := 0) 3 (by decide +kernel) rfl ?_
    refine o_iconst (n := 1) (v := 1) (by decide +kernel) (by decide) ?_
    refine o_bipush (n := 60) (v := 60) (by decide +kernel) (by decide) ?_
    refine f_callVI (μ' := mX6_expectNumber) (i := 90) (vs := [.int 1, .int 60]) (by decide +kernel) lk_973 (vok_mX6_expectNumber) sh_319 rfl rfl rfl rfl (Nat.le_of_ble_eq_true rfl) ?_
    refine x_CI.mono h (fun t21 a22 h => ?_)
    refine o_istore_n (k := 2) (L' := [(2, .int a22), (4, .int 0), (3, .int 0), (0, .ref 319), (1, .int v1)]) (by decide +kernel) (by decide) rfl ?_
    refine o_goto (off := 3) 149 (by decide +kernel) (by decide) ?_
    refine o_sub [3, 4, 0, 2, 1] rfl ?_
    exact h
  replace h := h.2 c10
  refine o_tableOut (tgt := 149) (d_X6_readDeed_8) (by have := x_ne (z := 4) (by decide) c4; have := x_ne (z := 5) (by decide) c5; have := x_ne (z := 6) (by decide) c6; have := x_ne (z := 7) (by decide) c7; have := x_ne (z := 8) (by decide) c8; have := x_ne (z := 9) (by decide) c9; have := x_ne (z := 10) (by decide) c10; omega) (by decide) ?_
  refine o_sub [3, 4, 2, 1, 0] rfl ?_
  exact h
set_option maxRecDepth 20000 in
theorem k_X6_readDeed_149 {d : Nat} {K : x_T → Prop} {v1 : Int32} {v2 : Int32} {v3 : Int32} {v4 : Int32} {τ : x_T} (h : x_sh τ.2.2.1 = (9, 10) ∧ (x_CV d mX9_addClause [.ref τ.2.2.1, .int v1, .int v2, .int v3, .int v4] τ (fun t2 => K t2))) : x_WV (d + 1) mX6_readDeed K 149 [(0, .ref 319), (1, .int v1), (2, .int v2), (3, .int v3), (4, .int v4)] [] τ := by
  refine o_aload_n (k := 0) 0 (by decide +kernel) rfl ?_
  obtain ⟨hsc1, h⟩ := h
  refine f_getR (r := τ.2.2.1) (t := 6) (k := 1) (i := 25) (by decide +kernel) sh_319 rfl (by decide) lk_380 (by simp [x_ty, tyX6]) rfl ?_
  refine o_iload_n (k := 1) 1 (by decide +kernel) rfl ?_
  refine o_iload_n (k := 2) 2 (by decide +kernel) rfl ?_
  refine o_iload_n (k := 3) 3 (by decide +kernel) rfl ?_
  refine o_iload (k := 4) 4 (by decide +kernel) rfl ?_
  refine f_callVV (μ' := mX9_addClause) (i := 80) (vs := [.int v1, .int v2, .int v3, .int v4]) (by decide +kernel) lk_1034 (vok_mX9_addClause) hsc1 rfl rfl rfl rfl (Nat.le_of_ble_eq_true rfl) ?_
  refine x_CV.mono h (fun t2 h => ?_)
  exact f_vret rfl (by decide +kernel) rfl h
set_option maxRecDepth 20000 in
theorem e_X6_readSum {d : Nat} {K : x_T → Prop} {v1 : Int32} {τ : x_T} (h : x_CV d mX6_readProduct [.ref 319, .int v1] τ (fun t1 => x_WV (d + 1) mX6_readSum K 7 [(0, .ref 319), (1, .int v1), (2, .int 0)] [] t1)) : x_CV (d + 1) mX6_readSum [.ref 319, .int v1] τ K := by
  refine x_CV_of (by decide) (Nat.le_of_ble_eq_true rfl) ?_
  show x_WV (d + 1) mX6_readSum K 0 [(0, .ref 319), (1, .int v1)] [] τ
  refine o_aload_n (k := 0) 0 (by decide +kernel) rfl ?_
  refine o_iload_n (k := 1) 1 (by decide +kernel) rfl ?_
  refine f_callVV (μ' := mX6_readProduct) (i := 94) (vs := [.int v1]) (by decide +kernel) lk_965 (vok_mX6_readProduct) sh_319 rfl rfl rfl rfl (Nat.le_of_ble_eq_true rfl) ?_
  refine x_CV.mono h (fun t1 h => ?_)
  refine o_iconst (n := 0) (v := 0) (by decide +kernel) (by decide) ?_
  refine o_istore_n (k := 2) (L' := [(2, .int 0), (0, .ref 319), (1, .int v1)]) (by decide +kernel) (by decide) rfl ?_
  refine o_sub [1, 2, 0] rfl ?_
  exact h
set_option maxRecDepth 20000 in
theorem k_X6_readSum_7 {d : Nat} {K : x_T → Prop} {v1 : Int32} {v2 : Int32} {τ : x_T} (h : (300 ≤ v2 → K τ) ∧ (¬ 300 ≤ v2 → x_CI d mX6_isNext [.ref 319, .int 36] τ (fun t1 a2 => (¬ a2 = 0 → x_WV (d + 1) mX6_readSum K 32 [(0, .ref 319), (1, .int v1), (2, .int v2)] [] t1) ∧ (a2 = 0 → x_CI d mX6_isNext [.ref 319, .int 37] t1 (fun t3 a4 => (a4 = 0 → K t3) ∧ (¬ a4 = 0 → x_WV (d + 1) mX6_readSum K 32 [(0, .ref 319), (1, .int v1), (2, .int v2)] [] t3)))))) : x_WV (d + 1) mX6_readSum K 7 [(0, .ref 319), (1, .int v1), (2, .int v2)] [] τ := by
  refine o_iload_n (k := 2) 2 (by decide +kernel) rfl ?_
  refine o_sipush (n := 300) (v := 300) (by decide +kernel) (by decide) ?_
  refine o_icmp_ge (off := 64) 75 (by decide +kernel) (by decide) (fun q => ?_) (fun q => ?_)
  · replace h := h.1 q
    exact f_vret rfl (by decide +kernel) rfl h
  · replace h := h.2 q
    refine o_aload_n (k := 0) 0 (by decide +kernel) rfl ?_
    refine o_bipush (n := 36) (v := 36) (by decide +kernel) (by decide) ?_
    refine f_callVI (μ' := mX6_isNext) (i := 50) (vs := [.int 36]) (by decide +kernel) lk_981 (vok_mX6_isNext) sh_319 rfl rfl rfl rfl (Nat.le_of_ble_eq_true rfl) ?_
    refine x_CI.mono h (fun t1 a2 h => ?_)
    refine o_if_ne (off := 12) 32 (by decide +kernel) (by decide) (fun q => ?_) (fun q => ?_)
    · replace h := h.1 q
      exact h
    · replace h := h.2 q
      refine o_aload_n (k := 0) 0 (by decide +kernel) rfl ?_
      refine o_bipush (n := 37) (v := 37) (by decide +kernel) (by decide) ?_
      refine f_callVI (μ' := mX6_isNext) (i := 50) (vs := [.int 37]) (by decide +kernel) lk_981 (vok_mX6_isNext) sh_319 rfl rfl rfl rfl (Nat.le_of_ble_eq_true rfl) ?_
      refine x_CI.mono h (fun t3 a4 h => ?_)
      refine o_if_eq (off := 46) 75 (by decide +kernel) (by decide) (fun q => ?_) (fun q => ?_)
      · replace h := h.1 q
        exact f_vret rfl (by decide +kernel) rfl h
      · replace h := h.2 q
        exact h
set_option maxRecDepth 20000 in
theorem k_X6_readSum_32 {d : Nat} {K : x_T → Prop} {v1 : Int32} {v2 : Int32} {τ : x_T} (h : x_CI d mX8_kindAt [.ref 314, .int (τ.1 319 2)] τ (fun t1 a2 => ∀ t3, t3 = x_w1 t1 319 2 ((t1.1 319 2) + 1) → (x_CV d mX6_readProduct [.ref 319, .int v1] t3 (fun t4 => x_sh t4.2.2.1 = (9, 10) ∧ (x_CI d mX9_ask [.ref t4.2.2.1, .int a2, .int 0] t4 (fun t7 a8 => ∀ y9, y9 = v2 + 1 → (x_WV (d + 1) mX6_readSum K 7 [(0, .ref 319), (1, .int v1), (2, .int y9)] [] t7))))))) : x_WV (d + 1) mX6_readSum K 32 [(0, .ref 319), (1, .int v1), (2, .int v2)] [] τ := by
  refine o_aload_n (k := 0) 0 (by decide +kernel) rfl ?_
  refine f_getR (r := 314) (t := 6) (k := 0) (i := 18) (by decide +kernel) sh_319 rfl (by decide) lk_379 (by simp [x_ty, tyX6]) (gr_6_0 sh_319) ?_
  refine o_aload_n (k := 0) 0 (by decide +kernel) rfl ?_
  refine f_getI (t := 6) (k := 2) (i := 29) (by decide +kernel) sh_319 rfl (by decide) lk_381 rfl ?_
  refine f_callVI (μ' := mX8_kindAt) (i := 40) (vs := [.int (τ.1 319 2)]) (by decide +kernel) lk_944 (vok_mX8_kindAt) sh_314 rfl rfl rfl rfl (Nat.le_of_ble_eq_true rfl) ?_
  refine x_CI.mono h (fun t1 a2 h => ?_)
  refine o_istore_n (k := 3) (L' := [(3, .int a2), (0, .ref 319), (1, .int v1), (2, .int v2)]) (by decide +kernel) (by decide) rfl ?_
  refine o_aload_n (k := 0) 1 (by decide +kernel) rfl ?_
  refine o_dup (by decide +kernel) rfl ?_
  refine f_getI (t := 6) (k := 2) (i := 29) (by decide +kernel) sh_319 rfl (by decide) lk_381 rfl ?_
  refine o_iconst (n := 1) (v := 1) (by decide +kernel) (by decide) ?_
  refine o_iadd (by decide +kernel) ?_
  refine f_putI (t := 6) (k := 2) (i := 29) (by decide +kernel) sh_319 rfl (by decide) lk_381 rfl rfl ?_
  refine f_name (fun t3 et3 => ?_)
  replace h := h t3 et3
  refine o_aload_n (k := 0) 1 (by decide +kernel) rfl ?_
  refine o_iload_n (k := 1) 2 (by decide +kernel) rfl ?_
  refine f_callVV (μ' := mX6_readProduct) (i := 94) (vs := [.int v1]) (by decide +kernel) lk_965 (vok_mX6_readProduct) sh_319 rfl rfl rfl rfl (Nat.le_of_ble_eq_true rfl) ?_
  refine x_CV.mono h (fun t4 h => ?_)
  refine o_aload_n (k := 0) 1 (by decide +kernel) rfl ?_
  obtain ⟨hsc6, h⟩ := h
  refine f_getR (r := t4.2.2.1) (t := 6) (k := 1) (i := 25) (by decide +kernel) sh_319 rfl (by decide) lk_380 (by simp [x_ty, tyX6]) rfl ?_
  refine o_iload_n (k := 3) 0 (by decide +kernel) rfl ?_
  refine o_iconst (n := 0) (v := 0) (by decide +kernel) (by decide) ?_
  refine f_callVI (μ' := mX9_ask) (i := 97) (vs := [.int a2, .int 0]) (by decide +kernel) lk_985 (vok_mX9_ask) hsc6 rfl rfl rfl rfl (Nat.le_of_ble_eq_true rfl) ?_
  refine x_CI.mono h (fun t7 a8 h => ?_)
  refine o_pop (by decide +kernel) rfl ?_
  obtain ⟨y9, ey9⟩ : ∃ y : Int32, y = v2 + 1 := ⟨_, rfl⟩
  replace h := h y9 ey9
  refine o_iinc (i := 2) (n := 1) (v := y9) (L' := [(2, .int y9), (3, .int a2), (0, .ref 319), (1, .int v1)]) 3 (by decide +kernel) rfl (by rw [ey9]; rfl) (by decide) rfl ?_
  refine o_goto (off := -65) 7 (by decide +kernel) (by decide) ?_
  refine o_sub [2, 3, 0] rfl ?_
  exact h
set_option maxRecDepth 20000 in
theorem e_X6_readProduct {d : Nat} {K : x_T → Prop} {v1 : Int32} {τ : x_T} (h : x_CV d mX6_readOne [.ref 319, .int v1] τ (fun t1 => x_WV (d + 1) mX6_readProduct K 7 [(0, .ref 319), (1, .int v1), (2, .int 0)] [] t1)) : x_CV (d + 1) mX6_readProduct [.ref 319, .int v1] τ K := by
  refine x_CV_of (by decide) (Nat.le_of_ble_eq_true rfl) ?_
  show x_WV (d + 1) mX6_readProduct K 0 [(0, .ref 319), (1, .int v1)] [] τ
  refine o_aload_n (k := 0) 0 (by decide +kernel) rfl ?_
  refine o_iload_n (k := 1) 1 (by decide +kernel) rfl ?_
  refine f_callVV (μ' := mX6_readOne) (i := 100) (vs := [.int v1]) (by decide +kernel) lk_969 (vok_mX6_readOne) sh_319 rfl rfl rfl rfl (Nat.le_of_ble_eq_true rfl) ?_
  refine x_CV.mono h (fun t1 h => ?_)
  refine o_iconst (n := 0) (v := 0) (by decide +kernel) (by decide) ?_
  refine o_istore_n (k := 2) (L' := [(2, .int 0), (0, .ref 319), (1, .int v1)]) (by decide +kernel) (by decide) rfl ?_
  refine o_sub [1, 2, 0] rfl ?_
  exact h
set_option maxRecDepth 20000 in
theorem k_X6_readProduct_7 {d : Nat} {K : x_T → Prop} {v1 : Int32} {v2 : Int32} {τ : x_T} (h : (300 ≤ v2 → K τ) ∧ (¬ 300 ≤ v2 → x_CI d mX6_isNext [.ref 319, .int 38] τ (fun t1 a2 => (¬ a2 = 0 → x_WV (d + 1) mX6_readProduct K 32 [(0, .ref 319), (1, .int v1), (2, .int v2)] [] t1) ∧ (a2 = 0 → x_CI d mX6_isNext [.ref 319, .int 39] t1 (fun t3 a4 => (a4 = 0 → K t3) ∧ (¬ a4 = 0 → x_WV (d + 1) mX6_readProduct K 32 [(0, .ref 319), (1, .int v1), (2, .int v2)] [] t3)))))) : x_WV (d + 1) mX6_readProduct K 7 [(0, .ref 319), (1, .int v1), (2, .int v2)] [] τ := by
  refine o_iload_n (k := 2) 2 (by decide +kernel) rfl ?_
  refine o_sipush (n := 300) (v := 300) (by decide +kernel) (by decide) ?_
  refine o_icmp_ge (off := 64) 75 (by decide +kernel) (by decide) (fun q => ?_) (fun q => ?_)
  · replace h := h.1 q
    exact f_vret rfl (by decide +kernel) rfl h
  · replace h := h.2 q
    refine o_aload_n (k := 0) 0 (by decide +kernel) rfl ?_
    refine o_bipush (n := 38) (v := 38) (by decide +kernel) (by decide) ?_
    refine f_callVI (μ' := mX6_isNext) (i := 50) (vs := [.int 38]) (by decide +kernel) lk_981 (vok_mX6_isNext) sh_319 rfl rfl rfl rfl (Nat.le_of_ble_eq_true rfl) ?_
    refine x_CI.mono h (fun t1 a2 h => ?_)
    refine o_if_ne (off := 12) 32 (by decide +kernel) (by decide) (fun q => ?_) (fun q => ?_)
    · replace h := h.1 q
      exact h
    · replace h := h.2 q
      refine o_aload_n (k := 0) 0 (by decide +kernel) rfl ?_
      refine o_bipush (n := 39) (v := 39) (by decide +kernel) (by decide) ?_
      refine f_callVI (μ' := mX6_isNext) (i := 50) (vs := [.int 39]) (by decide +kernel) lk_981 (vok_mX6_isNext) sh_319 rfl rfl rfl rfl (Nat.le_of_ble_eq_true rfl) ?_
      refine x_CI.mono h (fun t3 a4 h => ?_)
      refine o_if_eq (off := 46) 75 (by decide +kernel) (by decide) (fun q => ?_) (fun q => ?_)
      · replace h := h.1 q
        exact f_vret rfl (by decide +kernel) rfl h
      · replace h := h.2 q
        exact h
set_option maxRecDepth 20000 in
theorem k_X6_readProduct_32 {d : Nat} {K : x_T → Prop} {v1 : Int32} {v2 : Int32} {τ : x_T} (h : x_CI d mX8_kindAt [.ref 314, .int (τ.1 319 2)] τ (fun t1 a2 => ∀ t3, t3 = x_w1 t1 319 2 ((t1.1 319 2) + 1) → (x_CV d mX6_readOne [.ref 319, .int v1] t3 (fun t4 => x_sh t4.2.2.1 = (9, 10) ∧ (x_CI d mX9_ask [.ref t4.2.2.1, .int a2, .int 0] t4 (fun t7 a8 => ∀ y9, y9 = v2 + 1 → (x_WV (d + 1) mX6_readProduct K 7 [(0, .ref 319), (1, .int v1), (2, .int y9)] [] t7))))))) : x_WV (d + 1) mX6_readProduct K 32 [(0, .ref 319), (1, .int v1), (2, .int v2)] [] τ := by
  refine o_aload_n (k := 0) 0 (by decide +kernel) rfl ?_
  refine f_getR (r := 314) (t := 6) (k := 0) (i := 18) (by decide +kernel) sh_319 rfl (by decide) lk_379 (by simp [x_ty, tyX6]) (gr_6_0 sh_319) ?_
  refine o_aload_n (k := 0) 0 (by decide +kernel) rfl ?_
  refine f_getI (t := 6) (k := 2) (i := 29) (by decide +kernel) sh_319 rfl (by decide) lk_381 rfl ?_
  refine f_callVI (μ' := mX8_kindAt) (i := 40) (vs := [.int (τ.1 319 2)]) (by decide +kernel) lk_944 (vok_mX8_kindAt) sh_314 rfl rfl rfl rfl (Nat.le_of_ble_eq_true rfl) ?_
  refine x_CI.mono h (fun t1 a2 h => ?_)
  refine o_istore_n (k := 3) (L' := [(3, .int a2), (0, .ref 319), (1, .int v1), (2, .int v2)]) (by decide +kernel) (by decide) rfl ?_
  refine o_aload_n (k := 0) 1 (by decide +kernel) rfl ?_
  refine o_dup (by decide +kernel) rfl ?_
  refine f_getI (t := 6) (k := 2) (i := 29) (by decide +kernel) sh_319 rfl (by decide) lk_381 rfl ?_
  refine o_iconst (n := 1) (v := 1) (by decide +kernel) (by decide) ?_
  refine o_iadd (by decide +kernel) ?_
  refine f_putI (t := 6) (k := 2) (i := 29) (by decide +kernel) sh_319 rfl (by decide) lk_381 rfl rfl ?_
  refine f_name (fun t3 et3 => ?_)
  replace h := h t3 et3
  refine o_aload_n (k := 0) 1 (by decide +kernel) rfl ?_
  refine o_iload_n (k := 1) 2 (by decide +kernel) rfl ?_
  refine f_callVV (μ' := mX6_readOne) (i := 100) (vs := [.int v1]) (by decide +kernel) lk_969 (vok_mX6_readOne) sh_319 rfl rfl rfl rfl (Nat.le_of_ble_eq_true rfl) ?_
  refine x_CV.mono h (fun t4 h => ?_)
  refine o_aload_n (k := 0) 1 (by decide +kernel) rfl ?_
  obtain ⟨hsc6, h⟩ := h
  refine f_getR (r := t4.2.2.1) (t := 6) (k := 1) (i := 25) (by decide +kernel) sh_319 rfl (by decide) lk_380 (by simp [x_ty, tyX6]) rfl ?_
  refine o_iload_n (k := 3) 0 (by decide +kernel) rfl ?_
  refine o_iconst (n := 0) (v := 0) (by decide +kernel) (by decide) ?_
  refine f_callVI (μ' := mX9_ask) (i := 97) (vs := [.int a2, .int 0]) (by decide +kernel) lk_985 (vok_mX9_ask) hsc6 rfl rfl rfl rfl (Nat.le_of_ble_eq_true rfl) ?_
  refine x_CI.mono h (fun t7 a8 h => ?_)
  refine o_pop (by decide +kernel) rfl ?_
  obtain ⟨y9, ey9⟩ : ∃ y : Int32, y = v2 + 1 := ⟨_, rfl⟩
  replace h := h y9 ey9
  refine o_iinc (i := 2) (n := 1) (v := y9) (L' := [(2, .int y9), (3, .int a2), (0, .ref 319), (1, .int v1)]) 3 (by decide +kernel) rfl (by rw [ey9]; rfl) (by decide) rfl ?_
  refine o_goto (off := -65) 7 (by decide +kernel) (by decide) ?_
  refine o_sub [2, 3, 0] rfl ?_
  exact h
theorem d_X6_readOne_19 : decode mX6_readOne.2.1 19 = .ok (.lookupswitch (159) #[(14, 123), (15, 141), (37, 94), (40, 70), (45, 49)], 49) := by decide +kernel
set_option maxRecDepth 20000 in
theorem e_X6_readOne {d : Nat} {K : x_T → Prop} {v1 : Int32} {τ : x_T} (h : (τ.1 319 4 = 0 → x_CI d mX8_kindAt [.ref 314, .int (τ.1 319 2)] τ (fun t1 a2 => ((a2 = 14 → x_CI d mX6_opens [.ref 319, .int v1] t1 (fun t3 a4 => (a4 = 0 → K t3) ∧ (¬ a4 = 0 → x_CV d mX6_readFar [.ref 319, .int (v1 + 1)] t3 (fun t5 => K t5)))) ∧ (¬ a2 = 14 → (a2 = 15 → x_CI d mX6_opens [.ref 319, .int v1] t1 (fun t7 a8 => (a8 = 0 → K t7) ∧ (¬ a8 = 0 → x_CV d mX6_readIf [.ref 319, .int (v1 + 1)] t7 (fun t9 => K t9)))) ∧ (¬ a2 = 15 → (a2 = 37 → x_CI d mX6_opens [.ref 319, .int v1] t1 (fun t11 a12 => (a12 = 0 → K t11) ∧ (¬ a12 = 0 → x_CV d mX6_readOne [.ref 319, .int (v1 + 1)] t11 (fun t13 => x_sh t13.2.2.1 = (9, 10) ∧ (x_CI d mX9_ask [.ref t13.2.2.1, .int 49, .int 0] t13 (fun t16 a17 => K t16)))))) ∧ (¬ a2 = 37 → (a2 = 40 → x_CI d mX6_opens [.ref 319, .int v1] t1 (fun t18 a19 => (a19 = 0 → K t18) ∧ (¬ a19 = 0 → x_CV d mX6_readSum [.ref 319, .int (v1 + 1)] t18 (fun t20 => x_CV d mX6_expect [.ref 319, .int 41] t20 (fun t22 => K t22))))) ∧ (¬ a2 = 40 → (a2 = 45 → x_sh t1.2.2.1 = (9, 10) ∧ (x_CI d mX6_expectNumber [.ref 319, .int 0, .int 9999] t1 (fun t25 a26 => x_CI d mX9_ask [.ref t1.2.2.1, .int 45, .int a26] t25 (fun t27 a28 => K t27)))) ∧ (¬ a2 = 45 → (x_CV d mX6_readName [.ref 319] t1 (fun t29 => K t29)))))))))) ∧ (¬ τ.1 319 4 = 0 → K τ)) : x_CV (d + 1) mX6_readOne [.ref 319, .int v1] τ K := by
  refine x_CV_of (by decide) (Nat.le_of_ble_eq_true rfl) ?_
  show x_WV (d + 1) mX6_readOne K 0 [(0, .ref 319), (1, .int v1)] [] τ
  refine o_aload_n (k := 0) 0 (by decide +kernel) rfl ?_
  refine f_getI (t := 6) (k := 4) (i := 9) (by decide +kernel) sh_319 rfl (by decide) lk_383 rfl ?_
  refine o_if_eq (off := 4) 8 (by decide +kernel) (by decide) (fun q => ?_) (fun q => ?_)
  · replace h := h.1 q
    refine o_aload_n (k := 0) 0 (by decide +kernel) rfl ?_
    refine f_getR (r := 314) (t := 6) (k := 0) (i := 18) (by decide +kernel) sh_319 rfl (by decide) lk_379 (by simp [x_ty, tyX6]) (gr_6_0 sh_319) ?_
    refine o_aload_n (k := 0) 0 (by decide +kernel) rfl ?_
    refine f_getI (t := 6) (k := 2) (i := 29) (by decide +kernel) sh_319 rfl (by decide) lk_381 rfl ?_
    refine f_callVI (μ' := mX8_kindAt) (i := 40) (vs := [.int (τ.1 319 2)]) (by decide +kernel) lk_944 (vok_mX8_kindAt) sh_314 rfl rfl rfl rfl (Nat.le_of_ble_eq_true rfl) ?_
    refine x_CI.mono h (fun t1 a2 h => ?_)
    by_cases c14 : a2 = 14
    · replace h := h.1 c14
      refine o_lookup (off := 123) (tgt := 142) (d_X6_readOne_19) (by decide) (by rw [c14]; decide) (by decide) ?_
      refine o_aload_n (k := 0) 0 (by decide +kernel) rfl ?_
      refine o_iload_n (k := 1) 1 (by decide +kernel) rfl ?_
      refine f_callVI (μ' := mX6_opens) (i := 103) (vs := [.int v1]) (by decide +kernel) lk_989 (vok_mX6_opens) sh_319 rfl rfl rfl rfl (Nat.le_of_ble_eq_true rfl) ?_
      refine x_CI.mono h (fun t3 a4 h => ?_)
      refine o_if_eq (off := 35) 182 (by decide +kernel) (by decide) (fun q => ?_) (fun q => ?_)
      · replace h := h.1 q
        exact f_vret rfl (by decide +kernel) rfl h
      · replace h := h.2 q
        refine o_aload_n (k := 0) 0 (by decide +kernel) rfl ?_
        refine o_iload_n (k := 1) 1 (by decide +kernel) rfl ?_
        refine o_iconst (n := 1) (v := 1) (by decide +kernel) (by decide) ?_
        refine o_iadd (by decide +kernel) ?_
        refine f_callVV (μ' := mX6_readFar) (i := 106) (vs := [.int (v1 + 1)]) (by decide +kernel) lk_997 (vok_mX6_readFar) sh_319 rfl rfl rfl rfl (Nat.le_of_ble_eq_true rfl) ?_
        refine x_CV.mono h (fun t5 h => ?_)
        refine o_goto (off := 25) 182 (by decide +kernel) (by decide) ?_
        exact f_vret rfl (by decide +kernel) rfl h
    replace h := h.2 c14
    by_cases c15 : a2 = 15
    · replace h := h.1 c15
      refine o_lookup (off := 141) (tgt := 160) (d_X6_readOne_19) (by decide) (by rw [c15]; decide) (by decide) ?_
      refine o_aload_n (k := 0) 0 (by decide +kernel) rfl ?_
      refine o_iload_n (k := 1) 1 (by decide +kernel) rfl ?_
      refine f_callVI (μ' := mX6_opens) (i := 103) (vs := [.int v1]) (by decide +kernel) lk_989 (vok_mX6_opens) sh_319 rfl rfl rfl rfl (Nat.le_of_ble_eq_true rfl) ?_
      refine x_CI.mono h (fun t7 a8 h => ?_)
      refine o_if_eq (off := 17) 182 (by decide +kernel) (by decide) (fun q => ?_) (fun q => ?_)
      · replace h := h.1 q
        exact f_vret rfl (by decide +kernel) rfl h
      · replace h := h.2 q
        refine o_aload_n (k := 0) 0 (by decide +kernel) rfl ?_
        refine o_iload_n (k := 1) 1 (by decide +kernel) rfl ?_
        refine o_iconst (n := 1) (v := 1) (by decide +kernel) (by decide) ?_
        refine o_iadd (by decide +kernel) ?_
        refine f_callVV (μ' := mX6_readIf) (i := 109) (vs := [.int (v1 + 1)]) (by decide +kernel) lk_1001 (vok_mX6_readIf) sh_319 rfl rfl rfl rfl (Nat.le_of_ble_eq_true rfl) ?_
        refine x_CV.mono h (fun t9 h => ?_)
        refine o_goto (off := 7) 182 (by decide +kernel) (by decide) ?_
        exact f_vret rfl (by decide +kernel) rfl h
    replace h := h.2 c15
    by_cases c37 : a2 = 37
    · replace h := h.1 c37
      refine o_lookup (off := 94) (tgt := 113) (d_X6_readOne_19) (by decide) (by rw [c37]; decide) (by decide) ?_
      refine o_aload_n (k := 0) 0 (by decide +kernel) rfl ?_
      refine o_iload_n (k := 1) 1 (by decide +kernel) rfl ?_
      refine f_callVI (μ' := mX6_opens) (i := 103) (vs := [.int v1]) (by decide +kernel) lk_989 (vok_mX6_opens) sh_319 rfl rfl rfl rfl (Nat.le_of_ble_eq_true rfl) ?_
      refine x_CI.mono h (fun t11 a12 h => ?_)
      refine o_if_eq (off := 64) 182 (by decide +kernel) (by decide) (fun q => ?_) (fun q => ?_)
      · replace h := h.1 q
        exact f_vret rfl (by decide +kernel) rfl h
      · replace h := h.2 q
        refine o_aload_n (k := 0) 0 (by decide +kernel) rfl ?_
        refine o_iload_n (k := 1) 1 (by decide +kernel) rfl ?_
        refine o_iconst (n := 1) (v := 1) (by decide +kernel) (by decide) ?_
        refine o_iadd (by decide +kernel) ?_
        refine f_callVV (μ' := mX6_readOne) (i := 100) (vs := [.int (v1 + 1)]) (by decide +kernel) lk_969 (vok_mX6_readOne) sh_319 rfl rfl rfl rfl (Nat.le_of_ble_eq_true rfl) ?_
        refine x_CV.mono h (fun t13 h => ?_)
        refine o_aload_n (k := 0) 0 (by decide +kernel) rfl ?_
        obtain ⟨hsc15, h⟩ := h
        refine f_getR (r := t13.2.2.1) (t := 6) (k := 1) (i := 25) (by decide +kernel) sh_319 rfl (by decide) lk_380 (by simp [x_ty, tyX6]) rfl ?_
        refine o_bipush (n := 49) (v := 49) (by decide +kernel) (by decide) ?_
        refine o_iconst (n := 0) (v := 0) (by decide +kernel) (by decide) ?_
        refine f_callVI (μ' := mX9_ask) (i := 97) (vs := [.int 49, .int 0]) (by decide +kernel) lk_985 (vok_mX9_ask) hsc15 rfl rfl rfl rfl (Nat.le_of_ble_eq_true rfl) ?_
        refine x_CI.mono h (fun t16 a17 h => ?_)
        refine o_pop (by decide +kernel) rfl ?_
        refine o_goto (off := 43) 182 (by decide +kernel) (by decide) ?_
        exact f_vret rfl (by decide +kernel) rfl h
    replace h := h.2 c37
    by_cases c40 : a2 = 40
    · replace h := h.1 c40
      refine o_lookup (off := 70) (tgt := 89) (d_X6_readOne_19) (by decide) (by rw [c40]; decide) (by decide) ?_
      refine o_aload_n (k := 0) 0 (by decide +kernel) rfl ?_
      refine o_iload_n (k := 1) 1 (by decide +kernel) rfl ?_
      refine f_callVI (μ' := mX6_opens) (i := 103) (vs := [.int v1]) (by decide +kernel) lk_989 (vok_mX6_opens) sh_319 rfl rfl rfl rfl (Nat.le_of_ble_eq_true rfl) ?_
      refine x_CI.mono h (fun t18 a19 h => ?_)
      refine o_if_eq (off := 88) 182 (by decide +kernel) (by decide) (fun q => ?_) (fun q => ?_)
      · replace h := h.1 q
        exact f_vret rfl (by decide +kernel) rfl h
      · replace h := h.2 q
        refine o_aload_n (k := 0) 0 (by decide +kernel) rfl ?_
        refine o_iload_n (k := 1) 1 (by decide +kernel) rfl ?_
        refine o_iconst (n := 1) (v := 1) (by decide +kernel) (by decide) ?_
        refine o_iadd (by decide +kernel) ?_
        refine f_callVV (μ' := mX6_readSum) (i := 73) (vs := [.int (v1 + 1)]) (by decide +kernel) lk_961 (vok_mX6_readSum) sh_319 rfl rfl rfl rfl (Nat.le_of_ble_eq_true rfl) ?_
        refine x_CV.mono h (fun t20 h => ?_)
        refine o_aload_n (k := 0) 0 (by decide +kernel) rfl ?_
        refine o_bipush (n := 41) (v := 41) (by decide +kernel) (by decide) ?_
        refine f_callVV (μ' := mX6_expect) (i := 87) (vs := [.int 41]) (by decide +kernel) lk_993 (vok_mX6_expect) sh_319 rfl rfl rfl rfl (Nat.le_of_ble_eq_true rfl) ?_
        refine x_CV.mono h (fun t22 h => ?_)
        refine o_goto (off := 72) 182 (by decide +kernel) (by decide) ?_
        exact f_vret rfl (by decide +kernel) rfl h
    replace h := h.2 c40
    by_cases c45 : a2 = 45
    · replace h := h.1 c45
      refine o_lookup (off := 49) (tgt := 68) (d_X6_readOne_19) (by decide) (by rw [c45]; decide) (by decide) ?_
      refine o_aload_n (k := 0) 0 (by decide +kernel) rfl ?_
      obtain ⟨hsc24, h⟩ := h
      refine f_getR (r := t1.2.2.1) (t := 6) (k := 1) (i := 25) (by decide +kernel) sh_319 rfl (by decide) lk_380 (by simp [x_ty, tyX6]) rfl ?_
      refine o_bipush (n := 45) (v := 45) (by decide +kernel) (by decide) ?_
      refine o_aload_n (k := 0) 0 (by decide +kernel) rfl ?_
      refine o_iconst (n := 0) (v := 0) (by decide +kernel) (by decide) ?_
      refine o_sipush (n := 9999) (v := 9999) (by decide +kernel) (by decide) ?_
      refine f_callVI (μ' := mX6_expectNumber) (i := 90) (vs := [.int 0, .int 9999]) (by decide +kernel) lk_973 (vok_mX6_expectNumber) sh_319 rfl rfl rfl rfl (Nat.le_of_ble_eq_true rfl) ?_
      refine x_CI.mono h (fun t25 a26 h => ?_)
      refine f_callVI (μ' := mX9_ask) (i := 97) (vs := [.int 45, .int a26]) (by decide +kernel) lk_985 (vok_mX9_ask) hsc24 rfl rfl rfl rfl (Nat.le_of_ble_eq_true rfl) ?_
      refine x_CI.mono h (fun t27 a28 h => ?_)
      refine o_pop (by decide +kernel) rfl ?_
      refine o_goto (off := 96) 182 (by decide +kernel) (by decide) ?_
      exact f_vret rfl (by decide +kernel) rfl h
    replace h := h.2 c45
    refine o_lookup (off := 159) (tgt := 178) (d_X6_readOne_19) (by decide) (by have := x_neS (z := 14) (by decide) c14; have := x_neS (z := 15) (by decide) c15; have := x_neS (z := 37) (by decide) c37; have := x_neS (z := 40) (by decide) c40; have := x_neS (z := 45) (by decide) c45; simp [Op.lookupswitch.offset, *]) (by decide) ?_
    refine o_aload_n (k := 0) 0 (by decide +kernel) rfl ?_
    refine f_callVV (μ' := mX6_readName) (i := 112) (vs := []) (by decide +kernel) lk_1024 (vok_mX6_readName) sh_319 rfl rfl rfl rfl (Nat.le_of_ble_eq_true rfl) ?_
    refine x_CV.mono h (fun t29 h => ?_)
    exact f_vret rfl (by decide +kernel) rfl h
  · replace h := h.2 q
    exact f_vret rfl (by decide +kernel) rfl h
set_option maxRecDepth 20000 in
theorem e_X6_opens {d : Nat} {K : x_T → Int32 → Prop} {v1 : Int32} {τ : x_T} (h : (v1 < 8 → ∀ t1, t1 = x_w1 τ 319 2 ((τ.1 319 2) + 1) → (K t1 1)) ∧ (¬ v1 < 8 → x_CV d mX6_refuse [.ref 319, .int 3] τ (fun t2 => K t2 0))) : x_CI (d + 1) mX6_opens [.ref 319, .int v1] τ K := by
  refine x_CI_of (by decide) (Nat.le_of_ble_eq_true rfl) ?_
  show x_WI (d + 1) mX6_opens K 0 [(0, .ref 319), (1, .int v1)] [] τ
  refine o_iload_n (k := 1) 1 (by decide +kernel) rfl ?_
  refine o_bipush (n := 8) (v := 8) (by decide +kernel) (by decide) ?_
  refine o_icmp_lt (off := 10) 13 (by decide +kernel) (by decide) (fun q => ?_) (fun q => ?_)
  · replace h := h.1 q
    refine o_aload_n (k := 0) 0 (by decide +kernel) rfl ?_
    refine o_dup (by decide +kernel) rfl ?_
    refine f_getI (t := 6) (k := 2) (i := 29) (by decide +kernel) sh_319 rfl (by decide) lk_381 rfl ?_
    refine o_iconst (n := 1) (v := 1) (by decide +kernel) (by decide) ?_
    refine o_iadd (by decide +kernel) ?_
    refine f_putI (t := 6) (k := 2) (i := 29) (by decide +kernel) sh_319 rfl (by decide) lk_381 rfl rfl ?_
    refine f_name (fun t1 et1 => ?_)
    replace h := h t1 et1
    refine o_iconst (n := 1) (v := 1) (by decide +kernel) (by decide) ?_
    exact f_iret (ty := .boolean) rfl (by decide) (by decide +kernel) rfl h
  · replace h := h.2 q
    refine o_aload_n (k := 0) 0 (by decide +kernel) rfl ?_
    refine o_iconst (n := 3) (v := 3) (by decide +kernel) (by decide) ?_
    refine f_callVV (μ' := mX6_refuse) (i := 54) (vs := [.int 3]) (by decide +kernel) lk_952 (vok_mX6_refuse) sh_319 rfl rfl rfl rfl (Nat.le_of_ble_eq_true rfl) ?_
    refine x_CV.mono h (fun t2 h => ?_)
    refine o_iconst (n := 0) (v := 0) (by decide +kernel) (by decide) ?_
    exact f_iret (ty := .boolean) rfl (by decide) (by decide +kernel) rfl h
set_option maxRecDepth 20000 in
theorem e_X6_readFar {d : Nat} {K : x_T → Prop} {v1 : Int32} {τ : x_T} (h : x_CV d mX6_readOne [.ref 319, .int v1] τ (fun t1 => x_CV d mX6_expect [.ref 319, .int 11] t1 (fun t3 => x_CV d mX6_readOne [.ref 319, .int v1] t3 (fun t5 => x_sh t5.2.2.1 = (9, 10) ∧ (x_CI d mX9_ask [.ref t5.2.2.1, .int 14, .int 0] t5 (fun t8 a9 => K t8)))))) : x_CV (d + 1) mX6_readFar [.ref 319, .int v1] τ K := by
  refine x_CV_of (by decide) (Nat.le_of_ble_eq_true rfl) ?_
  show x_WV (d + 1) mX6_readFar K 0 [(0, .ref 319), (1, .int v1)] [] τ
  refine o_aload_n (k := 0) 0 (by decide +kernel) rfl ?_
  refine o_iload_n (k := 1) 1 (by decide +kernel) rfl ?_
  refine f_callVV (μ' := mX6_readOne) (i := 100) (vs := [.int v1]) (by decide +kernel) lk_969 (vok_mX6_readOne) sh_319 rfl rfl rfl rfl (Nat.le_of_ble_eq_true rfl) ?_
  refine x_CV.mono h (fun t1 h => ?_)
  refine o_aload_n (k := 0) 0 (by decide +kernel) rfl ?_
  refine o_bipush (n := 11) (v := 11) (by decide +kernel) (by decide) ?_
  refine f_callVV (μ' := mX6_expect) (i := 87) (vs := [.int 11]) (by decide +kernel) lk_993 (vok_mX6_expect) sh_319 rfl rfl rfl rfl (Nat.le_of_ble_eq_true rfl) ?_
  refine x_CV.mono h (fun t3 h => ?_)
  refine o_aload_n (k := 0) 0 (by decide +kernel) rfl ?_
  refine o_iload_n (k := 1) 1 (by decide +kernel) rfl ?_
  refine f_callVV (μ' := mX6_readOne) (i := 100) (vs := [.int v1]) (by decide +kernel) lk_969 (vok_mX6_readOne) sh_319 rfl rfl rfl rfl (Nat.le_of_ble_eq_true rfl) ?_
  refine x_CV.mono h (fun t5 h => ?_)
  refine o_aload_n (k := 0) 0 (by decide +kernel) rfl ?_
  obtain ⟨hsc7, h⟩ := h
  refine f_getR (r := t5.2.2.1) (t := 6) (k := 1) (i := 25) (by decide +kernel) sh_319 rfl (by decide) lk_380 (by simp [x_ty, tyX6]) rfl ?_
  refine o_bipush (n := 14) (v := 14) (by decide +kernel) (by decide) ?_
  refine o_iconst (n := 0) (v := 0) (by decide +kernel) (by decide) ?_
  refine f_callVI (μ' := mX9_ask) (i := 97) (vs := [.int 14, .int 0]) (by decide +kernel) lk_985 (vok_mX9_ask) hsc7 rfl rfl rfl rfl (Nat.le_of_ble_eq_true rfl) ?_
  refine x_CI.mono h (fun t8 a9 h => ?_)
  refine o_pop (by decide +kernel) rfl ?_
  exact f_vret rfl (by decide +kernel) rfl h
set_option maxRecDepth 20000 in
theorem e_X6_readIf {d : Nat} {K : x_T → Prop} {v1 : Int32} {τ : x_T} (h : x_CV d mX6_readEither [.ref 319, .int v1] τ (fun t1 => x_CV d mX6_expect [.ref 319, .int 16] t1 (fun t3 => x_sh t3.2.2.1 = (9, 10) ∧ (x_CI d mX9_ask [.ref t3.2.2.1, .int 50, .int 0] t3 (fun t6 a7 => x_CV d mX6_readSum [.ref 319, .int v1] t6 (fun t8 => x_CV d mX6_expect [.ref 319, .int 17] t8 (fun t10 => x_sh t10.2.2.1 = (9, 10) ∧ (x_CI d mX9_ask [.ref t10.2.2.1, .int 51, .int 0] t10 (fun t13 a14 => x_sh t13.2.2.1 = (9, 10) ∧ (x_CV d mX9_goOnHere [.ref t13.2.2.1, .int a7] t13 (fun t16 => x_CV d mX6_readSum [.ref 319, .int v1] t16 (fun t18 => x_CV d mX6_expect [.ref 319, .int 18] t18 (fun t20 => x_sh t20.2.2.1 = (9, 10) ∧ (x_CV d mX9_goOnHere [.ref t20.2.2.1, .int a14] t20 (fun t23 => K t23))))))))))))))) : x_CV (d + 1) mX6_readIf [.ref 319, .int v1] τ K := by
  refine x_CV_of (by decide) (Nat.le_of_ble_eq_true rfl) ?_
  show x_WV (d + 1) mX6_readIf K 0 [(0, .ref 319), (1, .int v1)] [] τ
  refine o_aload_n (k := 0) 0 (by decide +kernel) rfl ?_
  refine o_iload_n (k := 1) 1 (by decide +kernel) rfl ?_
  refine f_callVV (μ' := mX6_readEither) (i := 119) (vs := [.int v1]) (by decide +kernel) lk_1005 (vok_mX6_readEither) sh_319 rfl rfl rfl rfl (Nat.le_of_ble_eq_true rfl) ?_
  refine x_CV.mono h (fun t1 h => ?_)
  refine o_aload_n (k := 0) 0 (by decide +kernel) rfl ?_
  refine o_bipush (n := 16) (v := 16) (by decide +kernel) (by decide) ?_
  refine f_callVV (μ' := mX6_expect) (i := 87) (vs := [.int 16]) (by decide +kernel) lk_993 (vok_mX6_expect) sh_319 rfl rfl rfl rfl (Nat.le_of_ble_eq_true rfl) ?_
  refine x_CV.mono h (fun t3 h => ?_)
  refine o_aload_n (k := 0) 0 (by decide +kernel) rfl ?_
  obtain ⟨hsc5, h⟩ := h
  refine f_getR (r := t3.2.2.1) (t := 6) (k := 1) (i := 25) (by decide +kernel) sh_319 rfl (by decide) lk_380 (by simp [x_ty, tyX6]) rfl ?_
  refine o_bipush (n := 50) (v := 50) (by decide +kernel) (by decide) ?_
  refine o_iconst (n := 0) (v := 0) (by decide +kernel) (by decide) ?_
  refine f_callVI (μ' := mX9_ask) (i := 97) (vs := [.int 50, .int 0]) (by decide +kernel) lk_985 (vok_mX9_ask) hsc5 rfl rfl rfl rfl (Nat.le_of_ble_eq_true rfl) ?_
  refine x_CI.mono h (fun t6 a7 h => ?_)
  refine o_istore_n (k := 2) (L' := [(2, .int a7), (0, .ref 319), (1, .int v1)]) (by decide +kernel) (by decide) rfl ?_
  refine o_aload_n (k := 0) 1 (by decide +kernel) rfl ?_
  refine o_iload_n (k := 1) 2 (by decide +kernel) rfl ?_
  refine f_callVV (μ' := mX6_readSum) (i := 73) (vs := [.int v1]) (by decide +kernel) lk_961 (vok_mX6_readSum) sh_319 rfl rfl rfl rfl (Nat.le_of_ble_eq_true rfl) ?_
  refine x_CV.mono h (fun t8 h => ?_)
  refine o_aload_n (k := 0) 1 (by decide +kernel) rfl ?_
  refine o_bipush (n := 17) (v := 17) (by decide +kernel) (by decide) ?_
  refine f_callVV (μ' := mX6_expect) (i := 87) (vs := [.int 17]) (by decide +kernel) lk_993 (vok_mX6_expect) sh_319 rfl rfl rfl rfl (Nat.le_of_ble_eq_true rfl) ?_
  refine x_CV.mono h (fun t10 h => ?_)
  refine o_aload_n (k := 0) 1 (by decide +kernel) rfl ?_
  obtain ⟨hsc12, h⟩ := h
  refine f_getR (r := t10.2.2.1) (t := 6) (k := 1) (i := 25) (by decide +kernel) sh_319 rfl (by decide) lk_380 (by simp [x_ty, tyX6]) rfl ?_
  refine o_bipush (n := 51) (v := 51) (by decide +kernel) (by decide) ?_
  refine o_iconst (n := 0) (v := 0) (by decide +kernel) (by decide) ?_
  refine f_callVI (μ' := mX9_ask) (i := 97) (vs := [.int 51, .int 0]) (by decide +kernel) lk_985 (vok_mX9_ask) hsc12 rfl rfl rfl rfl (Nat.le_of_ble_eq_true rfl) ?_
  refine x_CI.mono h (fun t13 a14 h => ?_)
  refine o_istore_n (k := 3) (L' := [(3, .int a14), (2, .int a7), (0, .ref 319), (1, .int v1)]) (by decide +kernel) (by decide) rfl ?_
  refine o_aload_n (k := 0) 2 (by decide +kernel) rfl ?_
  obtain ⟨hsc15, h⟩ := h
  refine f_getR (r := t13.2.2.1) (t := 6) (k := 1) (i := 25) (by decide +kernel) sh_319 rfl (by decide) lk_380 (by simp [x_ty, tyX6]) rfl ?_
  refine o_iload_n (k := 2) 1 (by decide +kernel) rfl ?_
  refine f_callVV (μ' := mX9_goOnHere) (i := 122) (vs := [.int a7]) (by decide +kernel) lk_1020 (vok_mX9_goOnHere) hsc15 rfl rfl rfl rfl (Nat.le_of_ble_eq_true rfl) ?_
  refine x_CV.mono h (fun t16 h => ?_)
  refine o_aload_n (k := 0) 2 (by decide +kernel) rfl ?_
  refine o_iload_n (k := 1) 3 (by decide +kernel) rfl ?_
  refine f_callVV (μ' := mX6_readSum) (i := 73) (vs := [.int v1]) (by decide +kernel) lk_961 (vok_mX6_readSum) sh_319 rfl rfl rfl rfl (Nat.le_of_ble_eq_true rfl) ?_
  refine x_CV.mono h (fun t18 h => ?_)
  refine o_aload_n (k := 0) 2 (by decide +kernel) rfl ?_
  refine o_bipush (n := 18) (v := 18) (by decide +kernel) (by decide) ?_
  refine f_callVV (μ' := mX6_expect) (i := 87) (vs := [.int 18]) (by decide +kernel) lk_993 (vok_mX6_expect) sh_319 rfl rfl rfl rfl (Nat.le_of_ble_eq_true rfl) ?_
  refine x_CV.mono h (fun t20 h => ?_)
  refine o_aload_n (k := 0) 2 (by decide +kernel) rfl ?_
  obtain ⟨hsc22, h⟩ := h
  refine f_getR (r := t20.2.2.1) (t := 6) (k := 1) (i := 25) (by decide +kernel) sh_319 rfl (by decide) lk_380 (by simp [x_ty, tyX6]) rfl ?_
  refine o_iload_n (k := 3) 0 (by decide +kernel) rfl ?_
  refine f_callVV (μ' := mX9_goOnHere) (i := 122) (vs := [.int a14]) (by decide +kernel) lk_1020 (vok_mX9_goOnHere) hsc22 rfl rfl rfl rfl (Nat.le_of_ble_eq_true rfl) ?_
  refine x_CV.mono h (fun t23 h => ?_)
  exact f_vret rfl (by decide +kernel) rfl h
set_option maxRecDepth 20000 in
theorem e_X6_readEither {d : Nat} {K : x_T → Prop} {v1 : Int32} {τ : x_T} (h : x_CV d mX6_readBoth [.ref 319, .int v1] τ (fun t1 => x_WV (d + 1) mX6_readEither K 7 [(0, .ref 319), (1, .int v1), (2, .int 0)] [] t1)) : x_CV (d + 1) mX6_readEither [.ref 319, .int v1] τ K := by
  refine x_CV_of (by decide) (Nat.le_of_ble_eq_true rfl) ?_
  show x_WV (d + 1) mX6_readEither K 0 [(0, .ref 319), (1, .int v1)] [] τ
  refine o_aload_n (k := 0) 0 (by decide +kernel) rfl ?_
  refine o_iload_n (k := 1) 1 (by decide +kernel) rfl ?_
  refine f_callVV (μ' := mX6_readBoth) (i := 125) (vs := [.int v1]) (by decide +kernel) lk_1009 (vok_mX6_readBoth) sh_319 rfl rfl rfl rfl (Nat.le_of_ble_eq_true rfl) ?_
  refine x_CV.mono h (fun t1 h => ?_)
  refine o_iconst (n := 0) (v := 0) (by decide +kernel) (by decide) ?_
  refine o_istore_n (k := 2) (L' := [(2, .int 0), (0, .ref 319), (1, .int v1)]) (by decide +kernel) (by decide) rfl ?_
  refine o_sub [1, 2, 0] rfl ?_
  exact h
set_option maxRecDepth 20000 in
theorem k_X6_readEither_7 {d : Nat} {K : x_T → Prop} {v1 : Int32} {v2 : Int32} {τ : x_T} (h : (300 ≤ v2 → K τ) ∧ (¬ 300 ≤ v2 → x_CI d mX6_isNext [.ref 319, .int 20] τ (fun t1 a2 => (a2 = 0 → K t1) ∧ (¬ a2 = 0 → ∀ t3, t3 = x_w1 t1 319 2 ((t1.1 319 2) + 1) → (x_CV d mX6_readBoth [.ref 319, .int v1] t3 (fun t4 => x_sh t4.2.2.1 = (9, 10) ∧ (x_CI d mX9_ask [.ref t4.2.2.1, .int 20, .int 0] t4 (fun t7 a8 => ∀ y9, y9 = v2 + 1 → (x_WV (d + 1) mX6_readEither K 7 [(0, .ref 319), (1, .int v1), (2, .int y9)] [] t7))))))))) : x_WV (d + 1) mX6_readEither K 7 [(0, .ref 319), (1, .int v1), (2, .int v2)] [] τ := by
  refine o_iload_n (k := 2) 2 (by decide +kernel) rfl ?_
  refine o_sipush (n := 300) (v := 300) (by decide +kernel) (by decide) ?_
  refine o_icmp_ge (off := 44) 55 (by decide +kernel) (by decide) (fun q => ?_) (fun q => ?_)
  · replace h := h.1 q
    exact f_vret rfl (by decide +kernel) rfl h
  · replace h := h.2 q
    refine o_aload_n (k := 0) 0 (by decide +kernel) rfl ?_
    refine o_bipush (n := 20) (v := 20) (by decide +kernel) (by decide) ?_
    refine f_callVI (μ' := mX6_isNext) (i := 50) (vs := [.int 20]) (by decide +kernel) lk_981 (vok_mX6_isNext) sh_319 rfl rfl rfl rfl (Nat.le_of_ble_eq_true rfl) ?_
    refine x_CI.mono h (fun t1 a2 h => ?_)
    refine o_if_eq (off := 35) 55 (by decide +kernel) (by decide) (fun q => ?_) (fun q => ?_)
    · replace h := h.1 q
      exact f_vret rfl (by decide +kernel) rfl h
    · replace h := h.2 q
      refine o_aload_n (k := 0) 0 (by decide +kernel) rfl ?_
      refine o_dup (by decide +kernel) rfl ?_
      refine f_getI (t := 6) (k := 2) (i := 29) (by decide +kernel) sh_319 rfl (by decide) lk_381 rfl ?_
      refine o_iconst (n := 1) (v := 1) (by decide +kernel) (by decide) ?_
      refine o_iadd (by decide +kernel) ?_
      refine f_putI (t := 6) (k := 2) (i := 29) (by decide +kernel) sh_319 rfl (by decide) lk_381 rfl rfl ?_
      refine f_name (fun t3 et3 => ?_)
      replace h := h t3 et3
      refine o_aload_n (k := 0) 0 (by decide +kernel) rfl ?_
      refine o_iload_n (k := 1) 1 (by decide +kernel) rfl ?_
      refine f_callVV (μ' := mX6_readBoth) (i := 125) (vs := [.int v1]) (by decide +kernel) lk_1009 (vok_mX6_readBoth) sh_319 rfl rfl rfl rfl (Nat.le_of_ble_eq_true rfl) ?_
      refine x_CV.mono h (fun t4 h => ?_)
      refine o_aload_n (k := 0) 0 (by decide +kernel) rfl ?_
      obtain ⟨hsc6, h⟩ := h
      refine f_getR (r := t4.2.2.1) (t := 6) (k := 1) (i := 25) (by decide +kernel) sh_319 rfl (by decide) lk_380 (by simp [x_ty, tyX6]) rfl ?_
      refine o_bipush (n := 20) (v := 20) (by decide +kernel) (by decide) ?_
      refine o_iconst (n := 0) (v := 0) (by decide +kernel) (by decide) ?_
      refine f_callVI (μ' := mX9_ask) (i := 97) (vs := [.int 20, .int 0]) (by decide +kernel) lk_985 (vok_mX9_ask) hsc6 rfl rfl rfl rfl (Nat.le_of_ble_eq_true rfl) ?_
      refine x_CI.mono h (fun t7 a8 h => ?_)
      refine o_pop (by decide +kernel) rfl ?_
      obtain ⟨y9, ey9⟩ : ∃ y : Int32, y = v2 + 1 := ⟨_, rfl⟩
      replace h := h y9 ey9
      refine o_iinc (i := 2) (n := 1) (v := y9) (L' := [(2, .int y9), (0, .ref 319), (1, .int v1)]) 2 (by decide +kernel) rfl (by rw [ey9]; rfl) (by decide) rfl ?_
      refine o_goto (off := -45) 7 (by decide +kernel) (by decide) ?_
      refine o_sub [1, 2, 0] rfl ?_
      exact h
set_option maxRecDepth 20000 in
theorem e_X6_readBoth {d : Nat} {K : x_T → Prop} {v1 : Int32} {τ : x_T} (h : x_CV d mX6_readAsk [.ref 319, .int v1] τ (fun t1 => x_WV (d + 1) mX6_readBoth K 7 [(0, .ref 319), (1, .int v1), (2, .int 0)] [] t1)) : x_CV (d + 1) mX6_readBoth [.ref 319, .int v1] τ K := by
  refine x_CV_of (by decide) (Nat.le_of_ble_eq_true rfl) ?_
  show x_WV (d + 1) mX6_readBoth K 0 [(0, .ref 319), (1, .int v1)] [] τ
  refine o_aload_n (k := 0) 0 (by decide +kernel) rfl ?_
  refine o_iload_n (k := 1) 1 (by decide +kernel) rfl ?_
  refine f_callVV (μ' := mX6_readAsk) (i := 128) (vs := [.int v1]) (by decide +kernel) lk_1013 (vok_mX6_readAsk) sh_319 rfl rfl rfl rfl (Nat.le_of_ble_eq_true rfl) ?_
  refine x_CV.mono h (fun t1 h => ?_)
  refine o_iconst (n := 0) (v := 0) (by decide +kernel) (by decide) ?_
  refine o_istore_n (k := 2) (L' := [(2, .int 0), (0, .ref 319), (1, .int v1)]) (by decide +kernel) (by decide) rfl ?_
  refine o_sub [1, 2, 0] rfl ?_
  exact h
set_option maxRecDepth 20000 in
theorem k_X6_readBoth_7 {d : Nat} {K : x_T → Prop} {v1 : Int32} {v2 : Int32} {τ : x_T} (h : (300 ≤ v2 → K τ) ∧ (¬ 300 ≤ v2 → x_CI d mX6_isNext [.ref 319, .int 21] τ (fun t1 a2 => (a2 = 0 → K t1) ∧ (¬ a2 = 0 → ∀ t3, t3 = x_w1 t1 319 2 ((t1.1 319 2) + 1) → (x_CV d mX6_readAsk [.ref 319, .int v1] t3 (fun t4 => x_sh t4.2.2.1 = (9, 10) ∧ (x_CI d mX9_ask [.ref t4.2.2.1, .int 21, .int 0] t4 (fun t7 a8 => ∀ y9, y9 = v2 + 1 → (x_WV (d + 1) mX6_readBoth K 7 [(0, .ref 319), (1, .int v1), (2, .int y9)] [] t7))))))))) : x_WV (d + 1) mX6_readBoth K 7 [(0, .ref 319), (1, .int v1), (2, .int v2)] [] τ := by
  refine o_iload_n (k := 2) 2 (by decide +kernel) rfl ?_
  refine o_sipush (n := 300) (v := 300) (by decide +kernel) (by decide) ?_
  refine o_icmp_ge (off := 44) 55 (by decide +kernel) (by decide) (fun q => ?_) (fun q => ?_)
  · replace h := h.1 q
    exact f_vret rfl (by decide +kernel) rfl h
  · replace h := h.2 q
    refine o_aload_n (k := 0) 0 (by decide +kernel) rfl ?_
    refine o_bipush (n := 21) (v := 21) (by decide +kernel) (by decide) ?_
    refine f_callVI (μ' := mX6_isNext) (i := 50) (vs := [.int 21]) (by decide +kernel) lk_981 (vok_mX6_isNext) sh_319 rfl rfl rfl rfl (Nat.le_of_ble_eq_true rfl) ?_
    refine x_CI.mono h (fun t1 a2 h => ?_)
    refine o_if_eq (off := 35) 55 (by decide +kernel) (by decide) (fun q => ?_) (fun q => ?_)
    · replace h := h.1 q
      exact f_vret rfl (by decide +kernel) rfl h
    · replace h := h.2 q
      refine o_aload_n (k := 0) 0 (by decide +kernel) rfl ?_
      refine o_dup (by decide +kernel) rfl ?_
      refine f_getI (t := 6) (k := 2) (i := 29) (by decide +kernel) sh_319 rfl (by decide) lk_381 rfl ?_
      refine o_iconst (n := 1) (v := 1) (by decide +kernel) (by decide) ?_
      refine o_iadd (by decide +kernel) ?_
      refine f_putI (t := 6) (k := 2) (i := 29) (by decide +kernel) sh_319 rfl (by decide) lk_381 rfl rfl ?_
      refine f_name (fun t3 et3 => ?_)
      replace h := h t3 et3
      refine o_aload_n (k := 0) 0 (by decide +kernel) rfl ?_
      refine o_iload_n (k := 1) 1 (by decide +kernel) rfl ?_
      refine f_callVV (μ' := mX6_readAsk) (i := 128) (vs := [.int v1]) (by decide +kernel) lk_1013 (vok_mX6_readAsk) sh_319 rfl rfl rfl rfl (Nat.le_of_ble_eq_true rfl) ?_
      refine x_CV.mono h (fun t4 h => ?_)
      refine o_aload_n (k := 0) 0 (by decide +kernel) rfl ?_
      obtain ⟨hsc6, h⟩ := h
      refine f_getR (r := t4.2.2.1) (t := 6) (k := 1) (i := 25) (by decide +kernel) sh_319 rfl (by decide) lk_380 (by simp [x_ty, tyX6]) rfl ?_
      refine o_bipush (n := 21) (v := 21) (by decide +kernel) (by decide) ?_
      refine o_iconst (n := 0) (v := 0) (by decide +kernel) (by decide) ?_
      refine f_callVI (μ' := mX9_ask) (i := 97) (vs := [.int 21, .int 0]) (by decide +kernel) lk_985 (vok_mX9_ask) hsc6 rfl rfl rfl rfl (Nat.le_of_ble_eq_true rfl) ?_
      refine x_CI.mono h (fun t7 a8 h => ?_)
      refine o_pop (by decide +kernel) rfl ?_
      obtain ⟨y9, ey9⟩ : ∃ y : Int32, y = v2 + 1 := ⟨_, rfl⟩
      replace h := h y9 ey9
      refine o_iinc (i := 2) (n := 1) (v := y9) (L' := [(2, .int y9), (0, .ref 319), (1, .int v1)]) 2 (by decide +kernel) rfl (by rw [ey9]; rfl) (by decide) rfl ?_
      refine o_goto (off := -45) 7 (by decide +kernel) (by decide) ?_
      refine o_sub [1, 2, 0] rfl ?_
      exact h
set_option maxRecDepth 20000 in
theorem e_X6_readAsk {d : Nat} {K : x_T → Prop} {v1 : Int32} {τ : x_T} (h : x_CI d mX6_isNext [.ref 319, .int 19] τ (fun t1 a2 => (a2 = 0 → x_CV d mX6_readSum [.ref 319, .int v1] t1 (fun t3 => x_CI d mX8_kindAt [.ref 314, .int (t3.1 319 2)] t3 (fun t5 a6 => x_CI d mX6_compares [.int a6] t5 (fun t7 a8 => (¬ a8 = 0 → (¬ t7.1 319 4 = 0 → K t7) ∧ (t7.1 319 4 = 0 → ∀ t9, t9 = x_w1 t7 319 2 ((t7.1 319 2) + 1) → (x_CV d mX6_readSum [.ref 319, .int v1] t9 (fun t10 => x_sh t10.2.2.1 = (9, 10) ∧ (x_CI d mX9_ask [.ref t10.2.2.1, .int a6, .int 0] t10 (fun t13 a14 => K t13)))))) ∧ (a8 = 0 → x_CV d mX6_refuse [.ref 319, .int 1] t7 (fun t15 => K t15)))))) ∧ (¬ a2 = 0 → x_CI d mX6_opens [.ref 319, .int v1] t1 (fun t17 a18 => (a18 = 0 → K t17) ∧ (¬ a18 = 0 → x_CV d mX6_readAsk [.ref 319, .int (v1 + 1)] t17 (fun t19 => x_sh t19.2.2.1 = (9, 10) ∧ (x_CI d mX9_ask [.ref t19.2.2.1, .int 19, .int 0] t19 (fun t22 a23 => K t22)))))))) : x_CV (d + 1) mX6_readAsk [.ref 319, .int v1] τ K := by
  refine x_CV_of (by decide) (Nat.le_of_ble_eq_true rfl) ?_
  show x_WV (d + 1) mX6_readAsk K 0 [(0, .ref 319), (1, .int v1)] [] τ
  refine o_aload_n (k := 0) 0 (by decide +kernel) rfl ?_
  refine o_bipush (n := 19) (v := 19) (by decide +kernel) (by decide) ?_
  refine f_callVI (μ' := mX6_isNext) (i := 50) (vs := [.int 19]) (by decide +kernel) lk_981 (vok_mX6_isNext) sh_319 rfl rfl rfl rfl (Nat.le_of_ble_eq_true rfl) ?_
  refine x_CI.mono h (fun t1 a2 h => ?_)
  refine o_if_eq (off := 30) 36 (by decide +kernel) (by decide) (fun q => ?_) (fun q => ?_)
  · replace h := h.1 q
    refine o_aload_n (k := 0) 0 (by decide +kernel) rfl ?_
    refine o_iload_n (k := 1) 1 (by decide +kernel) rfl ?_
    refine f_callVV (μ' := mX6_readSum) (i := 73) (vs := [.int v1]) (by decide +kernel) lk_961 (vok_mX6_readSum) sh_319 rfl rfl rfl rfl (Nat.le_of_ble_eq_true rfl) ?_
    refine x_CV.mono h (fun t3 h => ?_)
    refine o_aload_n (k := 0) 0 (by decide +kernel) rfl ?_
    refine f_getR (r := 314) (t := 6) (k := 0) (i := 18) (by decide +kernel) sh_319 rfl (by decide) lk_379 (by simp [x_ty, tyX6]) (gr_6_0 sh_319) ?_
    refine o_aload_n (k := 0) 0 (by decide +kernel) rfl ?_
    refine f_getI (t := 6) (k := 2) (i := 29) (by decide +kernel) sh_319 rfl (by decide) lk_381 rfl ?_
    refine f_callVI (μ' := mX8_kindAt) (i := 40) (vs := [.int (t3.1 319 2)]) (by decide +kernel) lk_944 (vok_mX8_kindAt) sh_314 rfl rfl rfl rfl (Nat.le_of_ble_eq_true rfl) ?_
    refine x_CI.mono h (fun t5 a6 h => ?_)
    refine o_istore_n (k := 2) (L' := [(2, .int a6), (0, .ref 319), (1, .int v1)]) (by decide +kernel) (by decide) rfl ?_
    refine o_iload_n (k := 2) 0 (by decide +kernel) rfl ?_
    refine f_callSI (μ' := mX6_compares) (i := 131) (vs := [.int a6]) (by decide +kernel) lk_1017 (cok_mX6_compares) rfl (stt_mX6_compares) rfl rfl (Nat.le_of_ble_eq_true rfl) ?_
    refine x_CI.mono h (fun t7 a8 h => ?_)
    refine o_if_ne (off := 11) 68 (by decide +kernel) (by decide) (fun q => ?_) (fun q => ?_)
    · replace h := h.1 q
      refine o_aload_n (k := 0) 1 (by decide +kernel) rfl ?_
      refine f_getI (t := 6) (k := 4) (i := 9) (by decide +kernel) sh_319 rfl (by decide) lk_383 rfl ?_
      refine o_if_ne (off := 28) 100 (by decide +kernel) (by decide) (fun q => ?_) (fun q => ?_)
      · replace h := h.1 q
        exact f_vret rfl (by decide +kernel) rfl h
      · replace h := h.2 q
        refine o_aload_n (k := 0) 1 (by decide +kernel) rfl ?_
        refine o_dup (by decide +kernel) rfl ?_
        refine f_getI (t := 6) (k := 2) (i := 29) (by decide +kernel) sh_319 rfl (by decide) lk_381 rfl ?_
        refine o_iconst (n := 1) (v := 1) (by decide +kernel) (by decide) ?_
        refine o_iadd (by decide +kernel) ?_
        refine f_putI (t := 6) (k := 2) (i := 29) (by decide +kernel) sh_319 rfl (by decide) lk_381 rfl rfl ?_
        refine f_name (fun t9 et9 => ?_)
        replace h := h t9 et9
        refine o_aload_n (k := 0) 1 (by decide +kernel) rfl ?_
        refine o_iload_n (k := 1) 2 (by decide +kernel) rfl ?_
        refine f_callVV (μ' := mX6_readSum) (i := 73) (vs := [.int v1]) (by decide +kernel) lk_961 (vok_mX6_readSum) sh_319 rfl rfl rfl rfl (Nat.le_of_ble_eq_true rfl) ?_
        refine x_CV.mono h (fun t10 h => ?_)
        refine o_aload_n (k := 0) 1 (by decide +kernel) rfl ?_
        obtain ⟨hsc12, h⟩ := h
        refine f_getR (r := t10.2.2.1) (t := 6) (k := 1) (i := 25) (by decide +kernel) sh_319 rfl (by decide) lk_380 (by simp [x_ty, tyX6]) rfl ?_
        refine o_iload_n (k := 2) 0 (by decide +kernel) rfl ?_
        refine o_iconst (n := 0) (v := 0) (by decide +kernel) (by decide) ?_
        refine f_callVI (μ' := mX9_ask) (i := 97) (vs := [.int a6, .int 0]) (by decide +kernel) lk_985 (vok_mX9_ask) hsc12 rfl rfl rfl rfl (Nat.le_of_ble_eq_true rfl) ?_
        refine x_CI.mono h (fun t13 a14 h => ?_)
        refine o_pop (by decide +kernel) rfl ?_
        exact f_vret rfl (by decide +kernel) rfl h
    · replace h := h.2 q
      refine o_aload_n (k := 0) 1 (by decide +kernel) rfl ?_
      refine o_iconst (n := 1) (v := 1) (by decide +kernel) (by decide) ?_
      refine f_callVV (μ' := mX6_refuse) (i := 54) (vs := [.int 1]) (by decide +kernel) lk_952 (vok_mX6_refuse) sh_319 rfl rfl rfl rfl (Nat.le_of_ble_eq_true rfl) ?_
      refine x_CV.mono h (fun t15 h => ?_)
      refine o_goto (off := 35) 100 (by decide +kernel) (by decide) ?_
      exact f_vret rfl (by decide +kernel) rfl h
  · replace h := h.2 q
    refine o_aload_n (k := 0) 0 (by decide +kernel) rfl ?_
    refine o_iload_n (k := 1) 1 (by decide +kernel) rfl ?_
    refine f_callVI (μ' := mX6_opens) (i := 103) (vs := [.int v1]) (by decide +kernel) lk_989 (vok_mX6_opens) sh_319 rfl rfl rfl rfl (Nat.le_of_ble_eq_true rfl) ?_
    refine x_CI.mono h (fun t17 a18 h => ?_)
    refine o_if_eq (off := 21) 35 (by decide +kernel) (by decide) (fun q => ?_) (fun q => ?_)
    · replace h := h.1 q
      exact f_vret rfl (by decide +kernel) rfl h
    · replace h := h.2 q
      refine o_aload_n (k := 0) 0 (by decide +kernel) rfl ?_
      refine o_iload_n (k := 1) 1 (by decide +kernel) rfl ?_
      refine o_iconst (n := 1) (v := 1) (by decide +kernel) (by decide) ?_
      refine o_iadd (by decide +kernel) ?_
      refine f_callVV (μ' := mX6_readAsk) (i := 128) (vs := [.int (v1 + 1)]) (by decide +kernel) lk_1013 (vok_mX6_readAsk) sh_319 rfl rfl rfl rfl (Nat.le_of_ble_eq_true rfl) ?_
      refine x_CV.mono h (fun t19 h => ?_)
      refine o_aload_n (k := 0) 0 (by decide +kernel) rfl ?_
      obtain ⟨hsc21, h⟩ := h
      refine f_getR (r := t19.2.2.1) (t := 6) (k := 1) (i := 25) (by decide +kernel) sh_319 rfl (by decide) lk_380 (by simp [x_ty, tyX6]) rfl ?_
      refine o_bipush (n := 19) (v := 19) (by decide +kernel) (by decide) ?_
      refine o_iconst (n := 0) (v := 0) (by decide +kernel) (by decide) ?_
      refine f_callVI (μ' := mX9_ask) (i := 97) (vs := [.int 19, .int 0]) (by decide +kernel) lk_985 (vok_mX9_ask) hsc21 rfl rfl rfl rfl (Nat.le_of_ble_eq_true rfl) ?_
      refine x_CI.mono h (fun t22 a23 h => ?_)
      refine o_pop (by decide +kernel) rfl ?_
      exact f_vret rfl (by decide +kernel) rfl h
set_option maxRecDepth 20000 in
theorem e_X6_compares {d : Nat} {K : x_T → Int32 → Prop} {v0 : Int32} {τ : x_T} (h : (v0 < 32 → x_WI d mX6_compares K 12 [(0, .int v0)] [] τ) ∧ (¬ v0 < 32 → (v0 ≤ 35 → K τ 1) ∧ (¬ v0 ≤ 35 → x_WI d mX6_compares K 12 [(0, .int v0)] [] τ))) : x_CI d mX6_compares [.int v0] τ K := by
  refine x_CI_of (by decide) (Nat.le_of_ble_eq_true rfl) ?_
  show x_WI d mX6_compares K 0 [(0, .int v0)] [] τ
  refine o_iload_n (k := 0) 0 (by decide +kernel) rfl ?_
  refine o_bipush (n := 32) (v := 32) (by decide +kernel) (by decide) ?_
  refine o_icmp_lt (off := 9) 12 (by decide +kernel) (by decide) (fun q => ?_) (fun q => ?_)
  · replace h := h.1 q
    exact h
  · replace h := h.2 q
    refine o_iload_n (k := 0) 0 (by decide +kernel) rfl ?_
    refine o_bipush (n := 35) (v := 35) (by decide +kernel) (by decide) ?_
    refine o_icmp_le (off := 15) 24 (by decide +kernel) (by decide) (fun q => ?_) (fun q => ?_)
    · replace h := h.1 q
      refine o_iconst (n := 1) (v := 1) (by decide +kernel) (by decide) ?_
      refine o_goto (off := 4) 29 (by decide +kernel) (by decide) ?_
      exact f_iret (ty := .boolean) rfl (by decide) (by decide +kernel) rfl h
    · replace h := h.2 q
      exact h
set_option maxRecDepth 20000 in
theorem k_X6_compares_12 {d : Nat} {K : x_T → Int32 → Prop} {v0 : Int32} {τ : x_T} (h : (v0 = 43 → K τ 1) ∧ (¬ v0 = 43 → (¬ v0 = 44 → K τ 0) ∧ (v0 = 44 → K τ 1))) : x_WI d mX6_compares K 12 [(0, .int v0)] [] τ := by
  refine o_iload_n (k := 0) 0 (by decide +kernel) rfl ?_
  refine o_bipush (n := 43) (v := 43) (by decide +kernel) (by decide) ?_
  refine o_icmp_eq (off := 9) 24 (by decide +kernel) (by decide) (fun q => ?_) (fun q => ?_)
  · replace h := h.1 q
    refine o_iconst (n := 1) (v := 1) (by decide +kernel) (by decide) ?_
    refine o_goto (off := 4) 29 (by decide +kernel) (by decide) ?_
    exact f_iret (ty := .boolean) rfl (by decide) (by decide +kernel) rfl h
  · replace h := h.2 q
    refine o_iload_n (k := 0) 0 (by decide +kernel) rfl ?_
    refine o_bipush (n := 44) (v := 44) (by decide +kernel) (by decide) ?_
    refine o_icmp_ne (off := 7) 28 (by decide +kernel) (by decide) (fun q => ?_) (fun q => ?_)
    · replace h := h.1 q
      refine o_iconst (n := 0) (v := 0) (by decide +kernel) (by decide) ?_
      exact f_iret (ty := .boolean) rfl (by decide) (by decide +kernel) rfl h
    · replace h := h.2 q
      refine o_iconst (n := 1) (v := 1) (by decide +kernel) (by decide) ?_
      refine o_goto (off := 4) 29 (by decide +kernel) (by decide) ?_
      exact f_iret (ty := .boolean) rfl (by decide) (by decide +kernel) rfl h
