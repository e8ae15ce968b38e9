set_option maxRecDepth 20000 in
theorem e_X5_copyFrom {d : Nat} {K : x_T → Prop} {o : Nat} (ho : x_sh o = (5, 3)) {r1 : Nat} (h1 : x_sh r1 = (5, 3)) {τ : x_T} (h : ∀ t1, t1 = x_cp τ (r1 + 1) 0 (o + 1) 0 8 → (∀ t2, t2 = x_cp t1 (r1 + 2) 0 (o + 2) 0 8 → (∀ t3, t3 = x_w1 t2 o 2 (t2.1 r1 2) → (K t3)))) : x_CV (d + 1) mX5_copyFrom [.ref o, .ref r1] τ K := by
  refine x_CV_of (by decide) (Nat.le_of_ble_eq_true rfl) ?_
  show x_WV (d + 1) mX5_copyFrom K 0 [(0, .ref o), (1, .ref r1)] [] τ
  refine o_aload_n (k := 1) 1 (by decide +kernel) rfl ?_
  refine f_getR (r := (r1 + 1)) (t := 5) (k := 0) (i := 9) (by decide +kernel) h1 rfl (by decide) lk_156 (by simp [x_ty, tyX5]) (gr_5_0 h1) ?_
  refine o_iconst (n := 0) (v := 0) (by decide +kernel) (by decide) ?_
  refine o_aload_n (k := 0) 0 (by decide +kernel) rfl ?_
  refine f_getR (r := (o + 1)) (t := 5) (k := 0) (i := 9) (by decide +kernel) ho rfl (by decide) lk_156 (by simp [x_ty, tyX5]) (gr_5_0 ho) ?_
  refine o_iconst (n := 0) (v := 0) (by decide +kernel) (by decide) ?_
  refine o_bipush (n := 8) (v := 8) (by decide +kernel) (by decide) ?_
  refine f_copy (i := 18) (sp' := 0) (dp' := 0) (n' := 8) (by decide +kernel) lk_1338 lm_copy (shd_5_1 h1) (shd_5_1 ho) (by decide) (by decide) (by decide) (by decide) (by decide) (by decide) (by decide) (by decide) (Nat.le_of_ble_eq_true rfl) ?_
  refine f_name (fun t1 et1 => ?_)
  replace h := h t1 et1
  refine o_aload_n (k := 1) 1 (by decide +kernel) rfl ?_
  refine f_getR (r := (r1 + 2)) (t := 5) (k := 1) (i := 15) (by decide +kernel) h1 rfl (by decide) lk_160 (by simp [x_ty, tyX5]) (gr_5_1 h1) ?_
  refine o_iconst (n := 0) (v := 0) (by decide +kernel) (by decide) ?_
  refine o_aload_n (k := 0) 0 (by decide +kernel) rfl ?_
  refine f_getR (r := (o + 2)) (t := 5) (k := 1) (i := 15) (by decide +kernel) ho rfl (by decide) lk_160 (by simp [x_ty, tyX5]) (gr_5_1 ho) ?_
  refine o_iconst (n := 0) (v := 0) (by decide +kernel) (by decide) ?_
  refine o_bipush (n := 8) (v := 8) (by decide +kernel) (by decide) ?_
  refine f_copy (i := 18) (sp' := 0) (dp' := 0) (n' := 8) (by decide +kernel) lk_1338 lm_copy (shd_5_2 h1) (shd_5_2 ho) (by decide) (by decide) (by decide) (by decide) (by decide) (by decide) (by decide) (by decide) (Nat.le_of_ble_eq_true rfl) ?_
  refine f_name (fun t2 et2 => ?_)
  replace h := h t2 et2
  refine o_aload_n (k := 0) 0 (by decide +kernel) rfl ?_
  refine o_aload_n (k := 1) 1 (by decide +kernel) rfl ?_
  refine f_getI (t := 5) (k := 2) (i := 24) (by decide +kernel) h1 rfl (by decide) lk_164 rfl ?_
  refine f_putI (t := 5) (k := 2) (i := 24) (by decide +kernel) ho rfl (by decide) lk_164 rfl rfl ?_
  refine f_name (fun t3 et3 => ?_)
  replace h := h t3 et3
  exact f_vret rfl (by decide +kernel) rfl h
