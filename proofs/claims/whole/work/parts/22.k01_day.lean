set_option maxRecDepth 20000 in
theorem e_X1_copyFrom {d : Nat} {K : x_T → Prop} {o : Nat} (ho : x_sh o = (1, 11)) {r1 : Nat} (h1 : x_sh r1 = (1, 11)) {τ : x_T} (h : ∀ t1, t1 = x_w1 τ o 0 (τ.1 r1 0) → (∀ t2, t2 = x_w1 t1 o 1 (t1.1 r1 1) → (∀ t3, t3 = x_w1 t2 o 2 (t2.1 r1 2) → (∀ t4, t4 = x_w1 t3 o 3 (t3.1 r1 3) → (∀ t5, t5 = x_w1 t4 o 4 (t4.1 r1 4) → (∀ t6, t6 = x_w1 t5 o 5 (t5.1 r1 5) → (∀ t7, t7 = x_w1 t6 o 6 (t6.1 r1 6) → (∀ t8, t8 = x_cp t7 (r1 + 1) 0 (o + 1) 0 8 → (∀ t9, t9 = x_cp t8 (r1 + 2) 0 (o + 2) 0 8 → (∀ t10, t10 = x_w1 t9 o 9 (t9.1 r1 9) → (∀ t11, t11 = x_cp t10 (r1 + 3) 0 (o + 3) 0 90 → (K t11)))))))))))) : x_CV (d + 1) mX1_copyFrom [.ref o, .ref r1] τ K := by
  refine x_CV_of (by decide) (Nat.le_of_ble_eq_true rfl) ?_
  show x_WV (d + 1) mX1_copyFrom K 0 [(0, .ref o), (1, .ref r1)] [] τ
  refine o_aload_n (k := 0) 0 (by decide +kernel) rfl ?_
  refine o_aload_n (k := 1) 1 (by decide +kernel) rfl ?_
  refine f_getI (t := 1) (k := 0) (i := 34) (by decide +kernel) h1 rfl (by decide) lk_225 rfl ?_
  refine f_putI (t := 1) (k := 0) (i := 34) (by decide +kernel) ho rfl (by decide) lk_225 rfl rfl ?_
  refine f_name (fun t1 et1 => ?_)
  replace h := h t1 et1
  refine o_aload_n (k := 0) 0 (by decide +kernel) rfl ?_
  refine o_aload_n (k := 1) 1 (by decide +kernel) rfl ?_
  refine f_getI (t := 1) (k := 1) (i := 9) (by decide +kernel) h1 rfl (by decide) lk_230 rfl ?_
  refine f_putI (t := 1) (k := 1) (i := 9) (by decide +kernel) ho rfl (by decide) lk_230 rfl rfl ?_
  refine f_name (fun t2 et2 => ?_)
  replace h := h t2 et2
  refine o_aload_n (k := 0) 0 (by decide +kernel) rfl ?_
  refine o_aload_n (k := 1) 1 (by decide +kernel) rfl ?_
  refine f_getI (t := 1) (k := 2) (i := 37) (by decide +kernel) h1 rfl (by decide) lk_234 rfl ?_
  refine f_putI (t := 1) (k := 2) (i := 37) (by decide +kernel) ho rfl (by decide) lk_234 rfl rfl ?_
  refine f_name (fun t3 et3 => ?_)
  replace h := h t3 et3
  refine o_aload_n (k := 0) 0 (by decide +kernel) rfl ?_
  refine o_aload_n (k := 1) 1 (by decide +kernel) rfl ?_
  refine f_getI (t := 1) (k := 3) (i := 15) (by decide +kernel) h1 rfl (by decide) lk_237 rfl ?_
  refine f_putI (t := 1) (k := 3) (i := 15) (by decide +kernel) ho rfl (by decide) lk_237 rfl rfl ?_
  refine f_name (fun t4 et4 => ?_)
  replace h := h t4 et4
  refine o_aload_n (k := 0) 0 (by decide +kernel) rfl ?_
  refine o_aload_n (k := 1) 1 (by decide +kernel) rfl ?_
  refine f_getI (t := 1) (k := 4) (i := 18) (by decide +kernel) h1 rfl (by decide) lk_240 rfl ?_
  refine f_putI (t := 1) (k := 4) (i := 18) (by decide +kernel) ho rfl (by decide) lk_240 rfl rfl ?_
  refine f_name (fun t5 et5 => ?_)
  replace h := h t5 et5
  refine o_aload_n (k := 0) 0 (by decide +kernel) rfl ?_
  refine o_aload_n (k := 1) 1 (by decide +kernel) rfl ?_
  refine f_getI (t := 1) (k := 5) (i := 40) (by decide +kernel) h1 rfl (by decide) lk_244 rfl ?_
  refine f_putI (t := 1) (k := 5) (i := 40) (by decide +kernel) ho rfl (by decide) lk_244 rfl rfl ?_
  refine f_name (fun t6 et6 => ?_)
  replace h := h t6 et6
  refine o_aload_n (k := 0) 0 (by decide +kernel) rfl ?_
  refine o_aload_n (k := 1) 1 (by decide +kernel) rfl ?_
  refine f_getI (t := 1) (k := 6) (i := 21) (by decide +kernel) h1 rfl (by decide) lk_248 rfl ?_
  refine f_putI (t := 1) (k := 6) (i := 21) (by decide +kernel) ho rfl (by decide) lk_248 rfl rfl ?_
  refine f_name (fun t7 et7 => ?_)
  replace h := h t7 et7
  refine o_aload_n (k := 1) 1 (by decide +kernel) rfl ?_
  refine f_getR (r := (r1 + 1)) (t := 1) (k := 7) (i := 24) (by decide +kernel) h1 rfl (by decide) lk_250 (by simp [x_ty, tyX1]) (gr_1_7 h1) ?_
  refine o_iconst (n := 0) (v := 0) (by decide +kernel) (by decide) ?_
  refine o_aload_n (k := 0) 0 (by decide +kernel) rfl ?_
  refine f_getR (r := (o + 1)) (t := 1) (k := 7) (i := 24) (by decide +kernel) ho rfl (by decide) lk_250 (by simp [x_ty, tyX1]) (gr_1_7 ho) ?_
  refine o_iconst (n := 0) (v := 0) (by decide +kernel) (by decide) ?_
  refine o_bipush (n := 8) (v := 8) (by decide +kernel) (by decide) ?_
  refine f_copy (i := 43) (sp' := 0) (dp' := 0) (n' := 8) (by decide +kernel) lk_613 lm_copy (shd_1_1 h1) (shd_1_1 ho) (by decide) (by decide) (by decide) (by decide) (by decide) (by decide) (by decide) (by decide) (Nat.le_of_ble_eq_true rfl) ?_
  refine f_name (fun t8 et8 => ?_)
  replace h := h t8 et8
  refine o_aload_n (k := 1) 1 (by decide +kernel) rfl ?_
  refine f_getR (r := (r1 + 2)) (t := 1) (k := 8) (i := 28) (by decide +kernel) h1 rfl (by decide) lk_252 (by simp [x_ty, tyX1]) (gr_1_8 h1) ?_
  refine o_iconst (n := 0) (v := 0) (by decide +kernel) (by decide) ?_
  refine o_aload_n (k := 0) 0 (by decide +kernel) rfl ?_
  refine f_getR (r := (o + 2)) (t := 1) (k := 8) (i := 28) (by decide +kernel) ho rfl (by decide) lk_252 (by simp [x_ty, tyX1]) (gr_1_8 ho) ?_
  refine o_iconst (n := 0) (v := 0) (by decide +kernel) (by decide) ?_
  refine o_bipush (n := 8) (v := 8) (by decide +kernel) (by decide) ?_
  refine f_copy (i := 43) (sp' := 0) (dp' := 0) (n' := 8) (by decide +kernel) lk_613 lm_copy (shd_1_2 h1) (shd_1_2 ho) (by decide) (by decide) (by decide) (by decide) (by decide) (by decide) (by decide) (by decide) (Nat.le_of_ble_eq_true rfl) ?_
  refine f_name (fun t9 et9 => ?_)
  replace h := h t9 et9
  refine o_aload_n (k := 0) 0 (by decide +kernel) rfl ?_
  refine o_aload_n (k := 1) 1 (by decide +kernel) rfl ?_
  refine f_getI (t := 1) (k := 9) (i := 49) (by decide +kernel) h1 rfl (by decide) lk_254 rfl ?_
  refine f_putI (t := 1) (k := 9) (i := 49) (by decide +kernel) ho rfl (by decide) lk_254 rfl rfl ?_
  refine f_name (fun t10 et10 => ?_)
  replace h := h t10 et10
  refine o_aload_n (k := 1) 1 (by decide +kernel) rfl ?_
  refine f_getR (r := (r1 + 3)) (t := 1) (k := 10) (i := 31) (by decide +kernel) h1 rfl (by decide) lk_256 (by simp [x_ty, tyX1]) (gr_1_10 h1) ?_
  refine o_iconst (n := 0) (v := 0) (by decide +kernel) (by decide) ?_
  refine o_aload_n (k := 0) 0 (by decide +kernel) rfl ?_
  refine f_getR (r := (o + 3)) (t := 1) (k := 10) (i := 31) (by decide +kernel) ho rfl (by decide) lk_256 (by simp [x_ty, tyX1]) (gr_1_10 ho) ?_
  refine o_iconst (n := 0) (v := 0) (by decide +kernel) (by decide) ?_
  refine o_bipush (n := 90) (v := 90) (by decide +kernel) (by decide) ?_
  refine f_copy (i := 43) (sp' := 0) (dp' := 0) (n' := 90) (by decide +kernel) lk_613 lm_copy (shd_1_3 h1) (shd_1_3 ho) (by decide) (by decide) (by decide) (by decide) (by decide) (by decide) (by decide) (by decide) (Nat.le_of_ble_eq_true rfl) ?_
  refine f_name (fun t11 et11 => ?_)
  replace h := h t11 et11
  exact f_vret rfl (by decide +kernel) rfl h
set_option maxRecDepth 20000 in
theorem e_X1_lieAt {d : Nat} {K : x_T → Prop} {o : Nat} (ho : x_sh o = (1, 11)) {v1 : Int32} {τ : x_T} (h : ∀ t1, t1 = x_w1 τ o 0 v1 → (∀ t2, t2 = x_w1 t1 o 1 (-1) → (∀ t3, t3 = x_w1 t2 o 2 0 → (∀ t4, t4 = x_w1 t3 o 3 (-1) → (K t4))))) : x_CV d mX1_lieAt [.ref o, .int v1] τ K := by
  refine x_CV_of (by decide) (Nat.le_of_ble_eq_true rfl) ?_
  show x_WV d mX1_lieAt K 0 [(0, .ref o), (1, .int v1)] [] τ
  refine o_aload_n (k := 0) 0 (by decide +kernel) rfl ?_
  refine o_iload_n (k := 1) 1 (by decide +kernel) rfl ?_
  refine f_putI (t := 1) (k := 0) (i := 34) (by decide +kernel) ho rfl (by decide) lk_225 rfl rfl ?_
  refine f_name (fun t1 et1 => ?_)
  replace h := h t1 et1
  refine o_aload_n (k := 0) 0 (by decide +kernel) rfl ?_
  refine o_iconst (n := -1) (v := (-1)) (by decide +kernel) (by decide) ?_
  refine f_putI (t := 1) (k := 1) (i := 9) (by decide +kernel) ho rfl (by decide) lk_230 rfl rfl ?_
  refine f_name (fun t2 et2 => ?_)
  replace h := h t2 et2
  refine o_aload_n (k := 0) 0 (by decide +kernel) rfl ?_
  refine o_iconst (n := 0) (v := 0) (by decide +kernel) (by decide) ?_
  refine f_putI (t := 1) (k := 2) (i := 37) (by decide +kernel) ho rfl (by decide) lk_234 rfl rfl ?_
  refine f_name (fun t3 et3 => ?_)
  replace h := h t3 et3
  refine o_aload_n (k := 0) 0 (by decide +kernel) rfl ?_
  refine o_iconst (n := -1) (v := (-1)) (by decide +kernel) (by decide) ?_
  refine f_putI (t := 1) (k := 3) (i := 15) (by decide +kernel) ho rfl (by decide) lk_237 rfl rfl ?_
  refine f_name (fun t4 et4 => ?_)
  replace h := h t4 et4
  exact f_vret rfl (by decide +kernel) rfl h
set_option maxRecDepth 20000 in
theorem e_X1_purseOf {d : Nat} {K : x_T → Int32 → Prop} {o : Nat} (ho : x_sh o = (1, 11)) {v1 : Int32} {τ : x_T} (h : (v1 < 0 → K τ 0) ∧ (¬ v1 < 0 → (8 ≤ v1 → K τ 0) ∧ (¬ 8 ≤ v1 → vp_in v1 8 ∧ (K τ (τ.1 (o + 1) v1.toNatClampNeg))))) : x_CI d mX1_purseOf [.ref o, .int v1] τ K := by
  refine x_CI_of (by decide) (Nat.le_of_ble_eq_true rfl) ?_
  show x_WI d mX1_purseOf K 0 [(0, .ref o), (1, .int v1)] [] τ
  refine o_iload_n (k := 1) 1 (by decide +kernel) rfl ?_
  refine o_if_lt (off := 18) 19 (by decide +kernel) (by decide) (fun q => ?_) (fun q => ?_)
  · replace h := h.1 q
    refine o_iconst (n := 0) (v := 0) (by decide +kernel) (by decide) ?_
    exact f_iret (ty := .int) rfl rfl (by decide +kernel) rfl h
  · replace h := h.2 q
    refine o_iload_n (k := 1) 1 (by decide +kernel) rfl ?_
    refine o_bipush (n := 8) (v := 8) (by decide +kernel) (by decide) ?_
    refine o_icmp_ge (off := 12) 19 (by decide +kernel) (by decide) (fun q => ?_) (fun q => ?_)
    · replace h := h.1 q
      refine o_iconst (n := 0) (v := 0) (by decide +kernel) (by decide) ?_
      exact f_iret (ty := .int) rfl rfl (by decide +kernel) rfl h
    · replace h := h.2 q
      refine o_aload_n (k := 0) 0 (by decide +kernel) rfl ?_
      refine f_getR (r := (o + 1)) (t := 1) (k := 7) (i := 24) (by decide +kernel) ho rfl (by decide) lk_250 (by simp [x_ty, tyX1]) (gr_1_7 ho) ?_
      refine o_iload_n (k := 1) 1 (by decide +kernel) rfl ?_
      obtain ⟨hi, h⟩ := h
      refine f_iald (by decide +kernel) (shd_1_1 ho) hi rfl ?_
      refine o_goto (off := 4) 20 (by decide +kernel) (by decide) ?_
      exact f_iret (ty := .int) rfl rfl (by decide +kernel) rfl h
set_option maxRecDepth 20000 in
theorem e_X1_paleOf {d : Nat} {K : x_T → Int32 → Prop} {o : Nat} (ho : x_sh o = (1, 11)) {v1 : Int32} {τ : x_T} (h : (v1 < 0 → K τ 0) ∧ (¬ v1 < 0 → (8 ≤ v1 → K τ 0) ∧ (¬ 8 ≤ v1 → vp_in v1 8 ∧ (K τ (τ.1 (o + 2) v1.toNatClampNeg))))) : x_CI d mX1_paleOf [.ref o, .int v1] τ K := by
  refine x_CI_of (by decide) (Nat.le_of_ble_eq_true rfl) ?_
  show x_WI d mX1_paleOf K 0 [(0, .ref o), (1, .int v1)] [] τ
  refine o_iload_n (k := 1) 1 (by decide +kernel) rfl ?_
  refine o_if_lt (off := 18) 19 (by decide +kernel) (by decide) (fun q => ?_) (fun q => ?_)
  · replace h := h.1 q
    refine o_iconst (n := 0) (v := 0) (by decide +kernel) (by decide) ?_
    exact f_iret (ty := .int) rfl rfl (by decide +kernel) rfl h
  · replace h := h.2 q
    refine o_iload_n (k := 1) 1 (by decide +kernel) rfl ?_
    refine o_bipush (n := 8) (v := 8) (by decide +kernel) (by decide) ?_
    refine o_icmp_ge (off := 12) 19 (by decide +kernel) (by decide) (fun q => ?_) (fun q => ?_)
    · replace h := h.1 q
      refine o_iconst (n := 0) (v := 0) (by decide +kernel) (by decide) ?_
      exact f_iret (ty := .int) rfl rfl (by decide +kernel) rfl h
    · replace h := h.2 q
      refine o_aload_n (k := 0) 0 (by decide +kernel) rfl ?_
      refine f_getR (r := (o + 2)) (t := 1) (k := 8) (i := 28) (by decide +kernel) ho rfl (by decide) lk_252 (by simp [x_ty, tyX1]) (gr_1_8 ho) ?_
      refine o_iload_n (k := 1) 1 (by decide +kernel) rfl ?_
      obtain ⟨hi, h⟩ := h
      refine f_iald (by decide +kernel) (shd_1_2 ho) hi rfl ?_
      refine o_goto (off := 4) 20 (by decide +kernel) (by decide) ?_
      exact f_iret (ty := .int) rfl rfl (by decide +kernel) rfl h
set_option maxRecDepth 20000 in
theorem e_X1_writeDebt {d : Nat} {K : x_T → Prop} {o : Nat} (ho : x_sh o = (1, 11)) {v1 : Int32} {v2 : Int32} {τ : x_T} (h : (τ.1 o 9 < 30 → x_WV (d + 1) mX1_writeDebt K 30 [(0, .ref o), (1, .int v1), (2, .int v2)] [] τ) ∧ (¬ τ.1 o 9 < 30 → ∀ t1, t1 = x_cp τ (o + 3) 3 (o + 3) 0 87 → (∀ t2, t2 = x_w1 t1 o 9 29 → (x_WV (d + 1) mX1_writeDebt K 30 [(0, .ref o), (1, .int v1), (2, .int v2)] [] t2)))) : x_CV (d + 1) mX1_writeDebt [.ref o, .int v1, .int v2] τ K := by
  refine x_CV_of (by decide) (Nat.le_of_ble_eq_true rfl) ?_
  show x_WV (d + 1) mX1_writeDebt K 0 [(0, .ref o), (1, .int v1), (2, .int v2)] [] τ
  refine o_aload_n (k := 0) 0 (by decide +kernel) rfl ?_
  refine f_getI (t := 1) (k := 9) (i := 49) (by decide +kernel) ho rfl (by decide) lk_254 rfl ?_
  refine o_bipush (n := 30) (v := 30) (by decide +kernel) (by decide) ?_
  refine o_icmp_lt (off := 24) 30 (by decide +kernel) (by decide) (fun q => ?_) (fun q => ?_)
  · replace h := h.1 q
    exact h
  · replace h := h.2 q
    refine o_aload_n (k := 0) 0 (by decide +kernel) rfl ?_
    refine f_getR (r := (o + 3)) (t := 1) (k := 10) (i := 31) (by decide +kernel) ho rfl (by decide) lk_256 (by simp [x_ty, tyX1]) (gr_1_10 ho) ?_
    refine o_iconst (n := 3) (v := 3) (by decide +kernel) (by decide) ?_
    refine o_aload_n (k := 0) 0 (by decide +kernel) rfl ?_
    refine f_getR (r := (o + 3)) (t := 1) (k := 10) (i := 31) (by decide +kernel) ho rfl (by decide) lk_256 (by simp [x_ty, tyX1]) (gr_1_10 ho) ?_
    refine o_iconst (n := 0) (v := 0) (by decide +kernel) (by decide) ?_
    refine o_bipush (n := 87) (v := 87) (by decide +kernel) (by decide) ?_
    refine f_copy (i := 43) (sp' := 3) (dp' := 0) (n' := 87) (by decide +kernel) lk_613 lm_copy (shd_1_3 ho) (shd_1_3 ho) (by decide) (by decide) (by decide) (by decide) (by decide) (by decide) (by decide) (by decide) (Nat.le_of_ble_eq_true rfl) ?_
    refine f_name (fun t1 et1 => ?_)
    replace h := h t1 et1
    refine o_aload_n (k := 0) 0 (by decide +kernel) rfl ?_
    refine o_bipush (n := 29) (v := 29) (by decide +kernel) (by decide) ?_
    refine f_putI (t := 1) (k := 9) (i := 49) (by decide +kernel) ho rfl (by decide) lk_254 rfl rfl ?_
    refine f_name (fun t2 et2 => ?_)
    replace h := h t2 et2
    exact h
set_option maxRecDepth 20000 in
theorem k_X1_writeDebt_30 {d : Nat} {K : x_T → Prop} {o : Nat} (ho : x_sh o = (1, 11)) {v1 : Int32} {v2 : Int32} {τ : x_T} (h : ∀ y1, y1 = (τ.1 o 9) * 3 → ((y1 < 0 → K τ) ∧ (¬ y1 < 0 → (90 ≤ y1 + 2 → K τ) ∧ (¬ 90 ≤ y1 + 2 → vp_in y1 90 ∧ (∀ t2, t2 = x_w1 τ (o + 3) y1.toNatClampNeg (τ.1 o 5) → (vp_in (y1 + 1) 90 ∧ (∀ t3, t3 = x_w1 t2 (o + 3) ((y1 + 1).toNatClampNeg) v1 → (vp_in (y1 + 2) 90 ∧ (∀ t4, t4 = x_w1 t3 (o + 3) ((y1 + 2).toNatClampNeg) v2 → (∀ t5, t5 = x_w1 t4 o 9 ((t4.1 o 9) + 1) → (K t5))))))))))) : x_WV (d + 1) mX1_writeDebt K 30 [(0, .ref o), (1, .int v1), (2, .int v2)] [] τ := by
  refine o_aload_n (k := 0) 0 (by decide +kernel) rfl ?_
  refine f_getI (t := 1) (k := 9) (i := 49) (by decide +kernel) ho rfl (by decide) lk_254 rfl ?_
  refine o_iconst (n := 3) (v := 3) (by decide +kernel) (by decide) ?_
  refine o_imul (by decide +kernel) ?_
  refine o_name (fun y1 ey1 => ?_)
  replace h := h y1 ey1
  refine o_istore_n (k := 3) (L' := [(3, .int y1), (0, .ref o), (1, .int v1), (2, .int v2)]) (by decide +kernel) (by decide) rfl ?_
  refine o_iload_n (k := 3) 0 (by decide +kernel) rfl ?_
  refine o_if_lt (off := 52) 90 (by decide +kernel) (by decide) (fun q => ?_) (fun q => ?_)
  · replace h := h.1 q
    exact f_vret rfl (by decide +kernel) rfl h
  · replace h := h.2 q
    refine o_iload_n (k := 3) 0 (by decide +kernel) rfl ?_
    refine o_iconst (n := 2) (v := 2) (by decide +kernel) (by decide) ?_
    refine o_iadd (by decide +kernel) ?_
    refine o_aload_n (k := 0) 1 (by decide +kernel) rfl ?_
    refine f_getR (r := (o + 3)) (t := 1) (k := 10) (i := 31) (by decide +kernel) ho rfl (by decide) lk_256 (by simp [x_ty, tyX1]) (gr_1_10 ho) ?_
    refine f_alen (v := 90) (by decide +kernel) (shd_1_3 ho) (by decide) (by decide) ?_
    refine o_icmp_ge (off := 41) 90 (by decide +kernel) (by decide) (fun q => ?_) (fun q => ?_)
    · replace h := h.1 q
      exact f_vret rfl (by decide +kernel) rfl h
    · replace h := h.2 q
      refine o_aload_n (k := 0) 1 (by decide +kernel) rfl ?_
      refine f_getR (r := (o + 3)) (t := 1) (k := 10) (i := 31) (by decide +kernel) ho rfl (by decide) lk_256 (by simp [x_ty, tyX1]) (gr_1_10 ho) ?_
      refine o_iload_n (k := 3) 0 (by decide +kernel) rfl ?_
      refine o_aload_n (k := 0) 1 (by decide +kernel) rfl ?_
      refine f_getI (t := 1) (k := 5) (i := 40) (by decide +kernel) ho rfl (by decide) lk_244 rfl ?_
      obtain ⟨hi, h⟩ := h
      refine f_iast (by decide +kernel) (shd_1_3 ho) hi rfl ?_
      refine f_name (fun t2 et2 => ?_)
      replace h := h t2 et2
      refine o_aload_n (k := 0) 1 (by decide +kernel) rfl ?_
      refine f_getR (r := (o + 3)) (t := 1) (k := 10) (i := 31) (by decide +kernel) ho rfl (by decide) lk_256 (by simp [x_ty, tyX1]) (gr_1_10 ho) ?_
      refine o_iload_n (k := 3) 0 (by decide +kernel) rfl ?_
      refine o_iconst (n := 1) (v := 1) (by decide +kernel) (by decide) ?_
      refine o_iadd (by decide +kernel) ?_
      refine o_iload_n (k := 1) 2 (by decide +kernel) rfl ?_
      obtain ⟨hi, h⟩ := h
      refine f_iast (by decide +kernel) (shd_1_3 ho) hi rfl ?_
      refine f_name (fun t3 et3 => ?_)
      replace h := h t3 et3
      refine o_aload_n (k := 0) 1 (by decide +kernel) rfl ?_
      refine f_getR (r := (o + 3)) (t := 1) (k := 10) (i := 31) (by decide +kernel) ho rfl (by decide) lk_256 (by simp [x_ty, tyX1]) (gr_1_10 ho) ?_
      refine o_iload_n (k := 3) 0 (by decide +kernel) rfl ?_
      refine o_iconst (n := 2) (v := 2) (by decide +kernel) (by decide) ?_
      refine o_iadd (by decide +kernel) ?_
      refine o_iload_n (k := 2) 3 (by decide +kernel) rfl ?_
      obtain ⟨hi, h⟩ := h
      refine f_iast (by decide +kernel) (shd_1_3 ho) hi rfl ?_
      refine f_name (fun t4 et4 => ?_)
      replace h := h t4 et4
      refine o_aload_n (k := 0) 1 (by decide +kernel) rfl ?_
      refine o_dup (by decide +kernel) rfl ?_
      refine f_getI (t := 1) (k := 9) (i := 49) (by decide +kernel) ho rfl (by decide) lk_254 rfl ?_
      refine o_iconst (n := 1) (v := 1) (by decide +kernel) (by decide) ?_
      refine o_iadd (by decide +kernel) ?_
      refine f_putI (t := 1) (k := 9) (i := 49) (by decide +kernel) ho rfl (by decide) lk_254 rfl rfl ?_
      refine f_name (fun t5 et5 => ?_)
      replace h := h t5 et5
      exact f_vret rfl (by decide +kernel) rfl h
set_option maxRecDepth 20000 in
theorem e_X1_debtWritten {d : Nat} {K : x_T → Int32 → Prop} {o : Nat} (ho : x_sh o = (1, 11)) {v1 : Int32} {v2 : Int32} {τ : x_T} (h : (v1 < 0 → K τ (-2)) ∧ (¬ v1 < 0 → (τ.1 o 9 ≤ v1 → K τ (-2)) ∧ (¬ τ.1 o 9 ≤ v1 → (30 ≤ v1 → K τ (-2)) ∧ (¬ 30 ≤ v1 → (v2 < 0 → K τ (-2)) ∧ (¬ v2 < 0 → (v2 < 3 → vp_in ((v1 * 3) + v2) 90 ∧ (K τ (τ.1 (o + 3) ((v1 * 3) + v2).toNatClampNeg))) ∧ (¬ v2 < 3 → K τ (-2))))))) : x_CI d mX1_debtWritten [.ref o, .int v1, .int v2] τ K := by
  refine x_CI_of (by decide) (Nat.le_of_ble_eq_true rfl) ?_
  show x_WI d mX1_debtWritten K 0 [(0, .ref o), (1, .int v1), (2, .int v2)] [] τ
  refine o_iload_n (k := 1) 1 (by decide +kernel) rfl ?_
  refine o_if_lt (off := 26) 27 (by decide +kernel) (by decide) (fun q => ?_) (fun q => ?_)
  · replace h := h.1 q
    refine o_bipush (n := -2) (v := (-2)) (by decide +kernel) (by decide) ?_
    exact f_iret (ty := .int) rfl rfl (by decide +kernel) rfl h
  · replace h := h.2 q
    refine o_iload_n (k := 1) 1 (by decide +kernel) rfl ?_
    refine o_aload_n (k := 0) 0 (by decide +kernel) rfl ?_
    refine f_getI (t := 1) (k := 9) (i := 49) (by decide +kernel) ho rfl (by decide) lk_254 rfl ?_
    refine o_icmp_ge (off := 18) 27 (by decide +kernel) (by decide) (fun q => ?_) (fun q => ?_)
    · replace h := h.1 q
      refine o_bipush (n := -2) (v := (-2)) (by decide +kernel) (by decide) ?_
      exact f_iret (ty := .int) rfl rfl (by decide +kernel) rfl h
    · replace h := h.2 q
      refine o_iload_n (k := 1) 1 (by decide +kernel) rfl ?_
      refine o_bipush (n := 30) (v := 30) (by decide +kernel) (by decide) ?_
      refine o_icmp_ge (off := 12) 27 (by decide +kernel) (by decide) (fun q => ?_) (fun q => ?_)
      · replace h := h.1 q
        refine o_bipush (n := -2) (v := (-2)) (by decide +kernel) (by decide) ?_
        exact f_iret (ty := .int) rfl rfl (by decide +kernel) rfl h
      · replace h := h.2 q
        refine o_iload_n (k := 2) 2 (by decide +kernel) rfl ?_
        refine o_if_lt (off := 8) 27 (by decide +kernel) (by decide) (fun q => ?_) (fun q => ?_)
        · replace h := h.1 q
          refine o_bipush (n := -2) (v := (-2)) (by decide +kernel) (by decide) ?_
          exact f_iret (ty := .int) rfl rfl (by decide +kernel) rfl h
        · replace h := h.2 q
          refine o_iload_n (k := 2) 2 (by decide +kernel) rfl ?_
          refine o_iconst (n := 3) (v := 3) (by decide +kernel) (by decide) ?_
          refine o_icmp_lt (off := 6) 30 (by decide +kernel) (by decide) (fun q => ?_) (fun q => ?_)
          · replace h := h.1 q
            refine o_aload_n (k := 0) 0 (by decide +kernel) rfl ?_
            refine f_getR (r := (o + 3)) (t := 1) (k := 10) (i := 31) (by decide +kernel) ho rfl (by decide) lk_256 (by simp [x_ty, tyX1]) (gr_1_10 ho) ?_
            refine o_iload_n (k := 1) 1 (by decide +kernel) rfl ?_
            refine o_iconst (n := 3) (v := 3) (by decide +kernel) (by decide) ?_
            refine o_imul (by decide +kernel) ?_
            refine o_iload_n (k := 2) 2 (by decide +kernel) rfl ?_
            refine o_iadd (by decide +kernel) ?_
            obtain ⟨hi, h⟩ := h
            refine f_iald (by decide +kernel) (shd_1_3 ho) hi rfl ?_
            exact f_iret (ty := .int) rfl rfl (by decide +kernel) rfl h
          · replace h := h.2 q
            refine o_bipush (n := -2) (v := (-2)) (by decide +kernel) (by decide) ?_
            exact f_iret (ty := .int) rfl rfl (by decide +kernel) rfl h
set_option maxRecDepth 20000 in
theorem e_X1_draw {d : Nat} {K : x_T → Int32 → Prop} {o : Nat} (ho : x_sh o = (1, 11)) {v1 : Int32} {τ : x_T} (h : (v1 ≤ 0 → x_WI d mX1_draw K 14 [(0, .ref o)] [.int 0] τ) ∧ (¬ v1 ≤ 0 → ¬ v1 = 0 ∧ (x_WI d mX1_draw K 14 [(0, .ref o)] [.int ((τ.1 o 6) - (τ.1 o 6) / v1 * v1)] τ))) : x_CI d mX1_draw [.ref o, .int v1] τ K := by
  refine x_CI_of (by decide) (Nat.le_of_ble_eq_true rfl) ?_
  show x_WI d mX1_draw K 0 [(0, .ref o), (1, .int v1)] [] τ
  refine o_iload_n (k := 1) 1 (by decide +kernel) rfl ?_
  refine o_if_le (off := 12) 13 (by decide +kernel) (by decide) (fun q => ?_) (fun q => ?_)
  · replace h := h.1 q
    refine o_iconst (n := 0) (v := 0) (by decide +kernel) (by decide) ?_
    refine o_sub [0] rfl ?_
    exact h
  · replace h := h.2 q
    refine o_aload_n (k := 0) 0 (by decide +kernel) rfl ?_
    refine f_getI (t := 1) (k := 6) (i := 21) (by decide +kernel) ho rfl (by decide) lk_248 rfl ?_
    refine o_iload_n (k := 1) 1 (by decide +kernel) rfl ?_
    obtain ⟨hz, h⟩ := h
    refine o_irem (by decide +kernel) hz ?_
    refine o_goto (off := 4) 14 (by decide +kernel) (by decide) ?_
    refine o_sub [0] rfl ?_
    exact h
set_option maxRecDepth 20000 in
theorem k_X1_draw_14 {d : Nat} {K : x_T → Int32 → Prop} {o : Nat} (ho : x_sh o = (1, 11)) {s0 : Int32} {τ : x_T} (h : ∀ t1, t1 = x_w1 τ o 6 ((((τ.1 o 6) * 283) + 193) - (((τ.1 o 6) * 283) + 193) / 30313 * 30313) → (K t1 s0)) : x_WI d mX1_draw K 14 [(0, .ref o)] [.int s0] τ := by
  refine o_istore_n (k := 2) (L' := [(2, .int s0), (0, .ref o)]) (by decide +kernel) (by decide) rfl ?_
  refine o_aload_n (k := 0) 1 (by decide +kernel) rfl ?_
  refine o_aload_n (k := 0) 1 (by decide +kernel) rfl ?_
  refine f_getI (t := 1) (k := 6) (i := 21) (by decide +kernel) ho rfl (by decide) lk_248 rfl ?_
  refine o_sipush (n := 283) (v := 283) (by decide +kernel) (by decide) ?_
  refine o_imul (by decide +kernel) ?_
  refine o_sipush (n := 193) (v := 193) (by decide +kernel) (by decide) ?_
  refine o_iadd (by decide +kernel) ?_
  refine o_sipush (n := 30313) (v := 30313) (by decide +kernel) (by decide) ?_
  refine o_irem (by decide +kernel) (by decide) ?_
  refine f_putI (t := 1) (k := 6) (i := 21) (by decide +kernel) ho rfl (by decide) lk_248 rfl rfl ?_
  refine f_name (fun t1 et1 => ?_)
  replace h := h t1 et1
  refine o_iload_n (k := 2) 0 (by decide +kernel) rfl ?_
  exact f_iret (ty := .int) rfl rfl (by decide +kernel) rfl h
