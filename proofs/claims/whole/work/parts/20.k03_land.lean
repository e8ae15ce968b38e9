set_option maxRecDepth 20000 in
theorem e_X3_copyFrom {d : Nat} {K : x_T → Prop} {o : Nat} (ho : x_sh o = (3, 9)) {r1 : Nat} (h1 : x_sh r1 = (3, 9)) {τ : x_T} (h : ∀ t1, t1 = x_w1 τ o 0 (τ.1 r1 0) → (∀ t2, t2 = x_w1 t1 o 1 (t1.1 r1 1) → (∀ t3, t3 = x_cp t2 (r1 + 1) 0 (o + 1) 0 8 → (∀ t4, t4 = x_cp t3 (r1 + 2) 0 (o + 2) 0 8 → (∀ t5, t5 = x_cp t4 (r1 + 3) 0 (o + 3) 0 4 → (∀ t6, t6 = x_cp t5 (r1 + 4) 0 (o + 4) 0 64 → (∀ t7, t7 = x_cp t6 (r1 + 5) 0 (o + 5) 0 64 → (x_CV d mX5_copyFrom [.ref (o + 6), .ref (r1 + 6)] t7 (fun t8 => x_CV d mX5_copyFrom [.ref (o + 9), .ref (r1 + 9)] t8 (fun t10 => K t10)))))))))) : x_CV (d + 1) mX3_copyFrom [.ref o, .ref r1] τ K := by
  refine x_CV_of (by decide) (Nat.le_of_ble_eq_true rfl) ?_
  show x_WV (d + 1) mX3_copyFrom K 0 [(0, .ref o), (1, .ref r1)] [] τ
  refine o_aload_n (k := 0) 0 (by decide +kernel) rfl ?_
  refine o_aload_n (k := 1) 1 (by decide +kernel) rfl ?_
  refine f_getI (t := 3) (k := 0) (i := 37) (by decide +kernel) h1 rfl (by decide) lk_177 rfl ?_
  refine f_putI (t := 3) (k := 0) (i := 37) (by decide +kernel) ho rfl (by decide) lk_177 rfl rfl ?_
  refine f_name (fun t1 et1 => ?_)
  replace h := h t1 et1
  refine o_aload_n (k := 0) 0 (by decide +kernel) rfl ?_
  refine o_aload_n (k := 1) 1 (by decide +kernel) rfl ?_
  refine f_getI (t := 3) (k := 1) (i := 41) (by decide +kernel) h1 rfl (by decide) lk_182 rfl ?_
  refine f_putI (t := 3) (k := 1) (i := 41) (by decide +kernel) ho rfl (by decide) lk_182 rfl rfl ?_
  refine f_name (fun t2 et2 => ?_)
  replace h := h t2 et2
  refine o_aload_n (k := 1) 1 (by decide +kernel) rfl ?_
  refine f_getR (r := (r1 + 1)) (t := 3) (k := 2) (i := 9) (by decide +kernel) h1 rfl (by decide) lk_185 (by simp [x_ty, tyX3]) (gr_3_2 h1) ?_
  refine o_iconst (n := 0) (v := 0) (by decide +kernel) (by decide) ?_
  refine o_aload_n (k := 0) 0 (by decide +kernel) rfl ?_
  refine f_getR (r := (o + 1)) (t := 3) (k := 2) (i := 9) (by decide +kernel) ho rfl (by decide) lk_185 (by simp [x_ty, tyX3]) (gr_3_2 ho) ?_
  refine o_iconst (n := 0) (v := 0) (by decide +kernel) (by decide) ?_
  refine o_bipush (n := 8) (v := 8) (by decide +kernel) (by decide) ?_
  refine f_copy (i := 44) (sp' := 0) (dp' := 0) (n' := 8) (by decide +kernel) lk_1333 lm_copy (shd_3_1 h1) (shd_3_1 ho) (by decide) (by decide) (by decide) (by decide) (by decide) (by decide) (by decide) (by decide) (Nat.le_of_ble_eq_true rfl) ?_
  refine f_name (fun t3 et3 => ?_)
  replace h := h t3 et3
  refine o_aload_n (k := 1) 1 (by decide +kernel) rfl ?_
  refine f_getR (r := (r1 + 2)) (t := 3) (k := 3) (i := 15) (by decide +kernel) h1 rfl (by decide) lk_187 (by simp [x_ty, tyX3]) (gr_3_3 h1) ?_
  refine o_iconst (n := 0) (v := 0) (by decide +kernel) (by decide) ?_
  refine o_aload_n (k := 0) 0 (by decide +kernel) rfl ?_
  refine f_getR (r := (o + 2)) (t := 3) (k := 3) (i := 15) (by decide +kernel) ho rfl (by decide) lk_187 (by simp [x_ty, tyX3]) (gr_3_3 ho) ?_
  refine o_iconst (n := 0) (v := 0) (by decide +kernel) (by decide) ?_
  refine o_bipush (n := 8) (v := 8) (by decide +kernel) (by decide) ?_
  refine f_copy (i := 44) (sp' := 0) (dp' := 0) (n' := 8) (by decide +kernel) lk_1333 lm_copy (shd_3_2 h1) (shd_3_2 ho) (by decide) (by decide) (by decide) (by decide) (by decide) (by decide) (by decide) (by decide) (Nat.le_of_ble_eq_true rfl) ?_
  refine f_name (fun t4 et4 => ?_)
  replace h := h t4 et4
  refine o_aload_n (k := 1) 1 (by decide +kernel) rfl ?_
  refine f_getR (r := (r1 + 3)) (t := 3) (k := 4) (i := 18) (by decide +kernel) h1 rfl (by decide) lk_190 (by simp [x_ty, tyX3]) (gr_3_4 h1) ?_
  refine o_iconst (n := 0) (v := 0) (by decide +kernel) (by decide) ?_
  refine o_aload_n (k := 0) 0 (by decide +kernel) rfl ?_
  refine f_getR (r := (o + 3)) (t := 3) (k := 4) (i := 18) (by decide +kernel) ho rfl (by decide) lk_190 (by simp [x_ty, tyX3]) (gr_3_4 ho) ?_
  refine o_iconst (n := 0) (v := 0) (by decide +kernel) (by decide) ?_
  refine o_iconst (n := 4) (v := 4) (by decide +kernel) (by decide) ?_
  refine f_copy (i := 44) (sp' := 0) (dp' := 0) (n' := 4) (by decide +kernel) lk_1333 lm_copy (shd_3_3 h1) (shd_3_3 ho) (by decide) (by decide) (by decide) (by decide) (by decide) (by decide) (by decide) (by decide) (Nat.le_of_ble_eq_true rfl) ?_
  refine f_name (fun t5 et5 => ?_)
  replace h := h t5 et5
  refine o_aload_n (k := 1) 1 (by decide +kernel) rfl ?_
  refine f_getR (r := (r1 + 4)) (t := 3) (k := 5) (i := 21) (by decide +kernel) h1 rfl (by decide) lk_191 (by simp [x_ty, tyX3]) (gr_3_5 h1) ?_
  refine o_iconst (n := 0) (v := 0) (by decide +kernel) (by decide) ?_
  refine o_aload_n (k := 0) 0 (by decide +kernel) rfl ?_
  refine f_getR (r := (o + 4)) (t := 3) (k := 5) (i := 21) (by decide +kernel) ho rfl (by decide) lk_191 (by simp [x_ty, tyX3]) (gr_3_5 ho) ?_
  refine o_iconst (n := 0) (v := 0) (by decide +kernel) (by decide) ?_
  refine o_bipush (n := 64) (v := 64) (by decide +kernel) (by decide) ?_
  refine f_copy (i := 44) (sp' := 0) (dp' := 0) (n' := 64) (by decide +kernel) lk_1333 lm_copy (shd_3_4 h1) (shd_3_4 ho) (by decide) (by decide) (by decide) (by decide) (by decide) (by decide) (by decide) (by decide) (Nat.le_of_ble_eq_true rfl) ?_
  refine f_name (fun t6 et6 => ?_)
  replace h := h t6 et6
  refine o_aload_n (k := 1) 1 (by decide +kernel) rfl ?_
  refine f_getR (r := (r1 + 5)) (t := 3) (k := 6) (i := 24) (by decide +kernel) h1 rfl (by decide) lk_192 (by simp [x_ty, tyX3]) (gr_3_6 h1) ?_
  refine o_iconst (n := 0) (v := 0) (by decide +kernel) (by decide) ?_
  refine o_aload_n (k := 0) 0 (by decide +kernel) rfl ?_
  refine f_getR (r := (o + 5)) (t := 3) (k := 6) (i := 24) (by decide +kernel) ho rfl (by decide) lk_192 (by simp [x_ty, tyX3]) (gr_3_6 ho) ?_
  refine o_iconst (n := 0) (v := 0) (by decide +kernel) (by decide) ?_
  refine o_bipush (n := 64) (v := 64) (by decide +kernel) (by decide) ?_
  refine f_copy (i := 44) (sp' := 0) (dp' := 0) (n' := 64) (by decide +kernel) lk_1333 lm_copy (shd_3_5 h1) (shd_3_5 ho) (by decide) (by decide) (by decide) (by decide) (by decide) (by decide) (by decide) (by decide) (Nat.le_of_ble_eq_true rfl) ?_
  refine f_name (fun t7 et7 => ?_)
  replace h := h t7 et7
  refine o_aload_n (k := 0) 0 (by decide +kernel) rfl ?_
  refine f_getR (r := (o + 6)) (t := 3) (k := 7) (i := 30) (by decide +kernel) ho rfl (by decide) lk_193 (by simp [x_ty, tyX3]) (gr_3_7 ho) ?_
  refine o_aload_n (k := 1) 1 (by decide +kernel) rfl ?_
  refine f_getR (r := (r1 + 6)) (t := 3) (k := 7) (i := 30) (by decide +kernel) h1 rfl (by decide) lk_193 (by simp [x_ty, tyX3]) (gr_3_7 h1) ?_
  refine f_callVV (μ' := mX5_copyFrom) (i := 50) (vs := [.ref (r1 + 6)]) (by decide +kernel) lk_1334 (vok_mX5_copyFrom) (shd_3_6 ho) rfl rfl rfl rfl (Nat.le_of_ble_eq_true rfl) ?_
  refine x_CV.mono h (fun t8 h => ?_)
  refine o_aload_n (k := 0) 0 (by decide +kernel) rfl ?_
  refine f_getR (r := (o + 9)) (t := 3) (k := 8) (i := 34) (by decide +kernel) ho rfl (by decide) lk_197 (by simp [x_ty, tyX3]) (gr_3_8 ho) ?_
  refine o_aload_n (k := 1) 1 (by decide +kernel) rfl ?_
  refine f_getR (r := (r1 + 9)) (t := 3) (k := 8) (i := 34) (by decide +kernel) h1 rfl (by decide) lk_197 (by simp [x_ty, tyX3]) (gr_3_8 h1) ?_
  refine f_callVV (μ' := mX5_copyFrom) (i := 50) (vs := [.ref (r1 + 9)]) (by decide +kernel) lk_1334 (vok_mX5_copyFrom) (shd_3_9 ho) rfl rfl rfl rfl (Nat.le_of_ble_eq_true rfl) ?_
  refine x_CV.mono h (fun t10 h => ?_)
  exact f_vret rfl (by decide +kernel) rfl h
set_option maxRecDepth 20000 in
theorem e_X3_isHouse {d : Nat} {K : x_T → Int32 → Prop} {v1 : Int32} {τ : x_T} (h : (v1 < 0 → K τ 0) ∧ (¬ v1 < 0 → (τ.1 1 0 ≤ v1 → K τ 0) ∧ (¬ τ.1 1 0 ≤ v1 → (8 ≤ v1 → K τ 0) ∧ (¬ 8 ≤ v1 → K τ 1)))) : x_CI d mX3_isHouse [.ref 1, .int v1] τ K := by
  refine x_CI_of (by decide) (Nat.le_of_ble_eq_true rfl) ?_
  show x_WI d mX3_isHouse K 0 [(0, .ref 1), (1, .int v1)] [] τ
  refine o_iload_n (k := 1) 1 (by decide +kernel) rfl ?_
  refine o_if_lt (off := 21) 22 (by decide +kernel) (by decide) (fun q => ?_) (fun q => ?_)
  · replace h := h.1 q
    refine o_iconst (n := 0) (v := 0) (by decide +kernel) (by decide) ?_
    exact f_iret (ty := .boolean) rfl (by decide) (by decide +kernel) rfl h
  · replace h := h.2 q
    refine o_iload_n (k := 1) 1 (by decide +kernel) rfl ?_
    refine o_aload_n (k := 0) 0 (by decide +kernel) rfl ?_
    refine f_getI (t := 3) (k := 0) (i := 37) (by decide +kernel) sh_1 rfl (by decide) lk_177 rfl ?_
    refine o_icmp_ge (off := 13) 22 (by decide +kernel) (by decide) (fun q => ?_) (fun q => ?_)
    · replace h := h.1 q
      refine o_iconst (n := 0) (v := 0) (by decide +kernel) (by decide) ?_
      exact f_iret (ty := .boolean) rfl (by decide) (by decide +kernel) rfl h
    · replace h := h.2 q
      refine o_iload_n (k := 1) 1 (by decide +kernel) rfl ?_
      refine o_bipush (n := 8) (v := 8) (by decide +kernel) (by decide) ?_
      refine o_icmp_ge (off := 7) 22 (by decide +kernel) (by decide) (fun q => ?_) (fun q => ?_)
      · replace h := h.1 q
        refine o_iconst (n := 0) (v := 0) (by decide +kernel) (by decide) ?_
        exact f_iret (ty := .boolean) rfl (by decide) (by decide +kernel) rfl h
      · replace h := h.2 q
        refine o_iconst (n := 1) (v := 1) (by decide +kernel) (by decide) ?_
        refine o_goto (off := 4) 23 (by decide +kernel) (by decide) ?_
        exact f_iret (ty := .boolean) rfl (by decide) (by decide +kernel) rfl h
set_option maxRecDepth 20000 in
theorem e_X3_isPusher {d : Nat} {K : x_T → Int32 → Prop} {v1 : Int32} {τ : x_T} (h : (v1 < 0 → K τ 0) ∧ (¬ v1 < 0 → (τ.1 1 1 ≤ v1 → K τ 0) ∧ (¬ τ.1 1 1 ≤ v1 → (4 ≤ v1 → K τ 0) ∧ (¬ 4 ≤ v1 → K τ 1)))) : x_CI d mX3_isPusher [.ref 1, .int v1] τ K := by
  refine x_CI_of (by decide) (Nat.le_of_ble_eq_true rfl) ?_
  show x_WI d mX3_isPusher K 0 [(0, .ref 1), (1, .int v1)] [] τ
  refine o_iload_n (k := 1) 1 (by decide +kernel) rfl ?_
  refine o_if_lt (off := 20) 21 (by decide +kernel) (by decide) (fun q => ?_) (fun q => ?_)
  · replace h := h.1 q
    refine o_iconst (n := 0) (v := 0) (by decide +kernel) (by decide) ?_
    exact f_iret (ty := .boolean) rfl (by decide) (by decide +kernel) rfl h
  · replace h := h.2 q
    refine o_iload_n (k := 1) 1 (by decide +kernel) rfl ?_
    refine o_aload_n (k := 0) 0 (by decide +kernel) rfl ?_
    refine f_getI (t := 3) (k := 1) (i := 41) (by decide +kernel) sh_1 rfl (by decide) lk_182 rfl ?_
    refine o_icmp_ge (off := 12) 21 (by decide +kernel) (by decide) (fun q => ?_) (fun q => ?_)
    · replace h := h.1 q
      refine o_iconst (n := 0) (v := 0) (by decide +kernel) (by decide) ?_
      exact f_iret (ty := .boolean) rfl (by decide) (by decide +kernel) rfl h
    · replace h := h.2 q
      refine o_iload_n (k := 1) 1 (by decide +kernel) rfl ?_
      refine o_iconst (n := 4) (v := 4) (by decide +kernel) (by decide) ?_
      refine o_icmp_ge (off := 7) 21 (by decide +kernel) (by decide) (fun q => ?_) (fun q => ?_)
      · replace h := h.1 q
        refine o_iconst (n := 0) (v := 0) (by decide +kernel) (by decide) ?_
        exact f_iret (ty := .boolean) rfl (by decide) (by decide +kernel) rfl h
      · replace h := h.2 q
        refine o_iconst (n := 1) (v := 1) (by decide +kernel) (by decide) ?_
        refine o_goto (off := 4) 22 (by decide +kernel) (by decide) ?_
        exact f_iret (ty := .boolean) rfl (by decide) (by decide +kernel) rfl h
set_option maxRecDepth 20000 in
theorem e_X3_addHouse {d : Nat} {K : x_T → Int32 → Prop} {v1 : Int32} {τ : x_T} (h : (τ.1 1 0 < 0 → K τ (-1)) ∧ (¬ τ.1 1 0 < 0 → (τ.1 1 0 < 8 → vp_in (τ.1 1 0) 8 ∧ (∀ t1, t1 = x_w1 τ 2 ((τ.1 1 0).toNatClampNeg) v1 → (vp_in (t1.1 1 0) 8 ∧ (∀ t2, t2 = x_w1 t1 3 ((t1.1 1 0).toNatClampNeg) 1 → (∀ t3, t3 = x_w1 t2 1 0 ((t2.1 1 0) + 1) → (x_CV d mX3_measure [.ref 1] t3 (fun t4 => K t4 ((t4.1 1 0) - 1)))))))) ∧ (¬ τ.1 1 0 < 8 → K τ (-1)))) : x_CI (d + 1) mX3_addHouse [.ref 1, .int v1] τ K := by
  refine x_CI_of (by decide) (Nat.le_of_ble_eq_true rfl) ?_
  show x_WI (d + 1) mX3_addHouse K 0 [(0, .ref 1), (1, .int v1)] [] τ
  refine o_aload_n (k := 0) 0 (by decide +kernel) rfl ?_
  refine f_getI (t := 3) (k := 0) (i := 37) (by decide +kernel) sh_1 rfl (by decide) lk_177 rfl ?_
  refine o_if_lt (off := 12) 16 (by decide +kernel) (by decide) (fun q => ?_) (fun q => ?_)
  · replace h := h.1 q
    refine o_iconst (n := -1) (v := (-1)) (by decide +kernel) (by decide) ?_
    exact f_iret (ty := .int) rfl rfl (by decide +kernel) rfl h
  · replace h := h.2 q
    refine o_aload_n (k := 0) 0 (by decide +kernel) rfl ?_
    refine f_getI (t := 3) (k := 0) (i := 37) (by decide +kernel) sh_1 rfl (by decide) lk_177 rfl ?_
    refine o_bipush (n := 8) (v := 8) (by decide +kernel) (by decide) ?_
    refine o_icmp_lt (off := 5) 18 (by decide +kernel) (by decide) (fun q => ?_) (fun q => ?_)
    · replace h := h.1 q
      refine o_aload_n (k := 0) 0 (by decide +kernel) rfl ?_
      refine f_getR (r := 2) (t := 3) (k := 2) (i := 9) (by decide +kernel) sh_1 rfl (by decide) lk_185 (by simp [x_ty, tyX3]) (gr_3_2 sh_1) ?_
      refine o_aload_n (k := 0) 0 (by decide +kernel) rfl ?_
      refine f_getI (t := 3) (k := 0) (i := 37) (by decide +kernel) sh_1 rfl (by decide) lk_177 rfl ?_
      refine o_iload_n (k := 1) 1 (by decide +kernel) rfl ?_
      obtain ⟨hi, h⟩ := h
      refine f_iast (by decide +kernel) sh_2 hi rfl ?_
      refine f_name (fun t1 et1 => ?_)
      replace h := h t1 et1
      refine o_aload_n (k := 0) 0 (by decide +kernel) rfl ?_
      refine f_getR (r := 3) (t := 3) (k := 3) (i := 15) (by decide +kernel) sh_1 rfl (by decide) lk_187 (by simp [x_ty, tyX3]) (gr_3_3 sh_1) ?_
      refine o_aload_n (k := 0) 0 (by decide +kernel) rfl ?_
      refine f_getI (t := 3) (k := 0) (i := 37) (by decide +kernel) sh_1 rfl (by decide) lk_177 rfl ?_
      refine o_iconst (n := 1) (v := 1) (by decide +kernel) (by decide) ?_
      obtain ⟨hi, h⟩ := h
      refine f_iast (by decide +kernel) sh_3 hi rfl ?_
      refine f_name (fun t2 et2 => ?_)
      replace h := h t2 et2
      refine o_aload_n (k := 0) 0 (by decide +kernel) rfl ?_
      refine o_dup (by decide +kernel) rfl ?_
      refine f_getI (t := 3) (k := 0) (i := 37) (by decide +kernel) sh_1 rfl (by decide) lk_177 rfl ?_
      refine o_iconst (n := 1) (v := 1) (by decide +kernel) (by decide) ?_
      refine o_iadd (by decide +kernel) ?_
      refine f_putI (t := 3) (k := 0) (i := 37) (by decide +kernel) sh_1 rfl (by decide) lk_177 rfl rfl ?_
      refine f_name (fun t3 et3 => ?_)
      replace h := h t3 et3
      refine o_aload_n (k := 0) 0 (by decide +kernel) rfl ?_
      refine f_callVV (μ' := mX3_measure) (i := 54) (vs := []) (by decide +kernel) lk_553 (vok_mX3_measure) sh_1 rfl rfl rfl rfl (Nat.le_of_ble_eq_true rfl) ?_
      refine x_CV.mono h (fun t4 h => ?_)
      refine o_aload_n (k := 0) 0 (by decide +kernel) rfl ?_
      refine f_getI (t := 3) (k := 0) (i := 37) (by decide +kernel) sh_1 rfl (by decide) lk_177 rfl ?_
      refine o_iconst (n := 1) (v := 1) (by decide +kernel) (by decide) ?_
      refine o_isub (by decide +kernel) ?_
      exact f_iret (ty := .int) rfl rfl (by decide +kernel) rfl h
    · replace h := h.2 q
      refine o_iconst (n := -1) (v := (-1)) (by decide +kernel) (by decide) ?_
      exact f_iret (ty := .int) rfl rfl (by decide +kernel) rfl h
set_option maxRecDepth 20000 in
theorem e_X3_addPusher {d : Nat} {K : x_T → Int32 → Prop} {v1 : Int32} {τ : x_T} (h : (τ.1 1 1 < 0 → K τ (-1)) ∧ (¬ τ.1 1 1 < 0 → (τ.1 1 1 < 4 → vp_in (τ.1 1 1) 4 ∧ (∀ t1, t1 = x_w1 τ 4 ((τ.1 1 1).toNatClampNeg) v1 → (∀ t2, t2 = x_w1 t1 1 1 ((t1.1 1 1) + 1) → (K t2 ((t2.1 1 1) - 1))))) ∧ (¬ τ.1 1 1 < 4 → K τ (-1)))) : x_CI d mX3_addPusher [.ref 1, .int v1] τ K := by
  refine x_CI_of (by decide) (Nat.le_of_ble_eq_true rfl) ?_
  show x_WI d mX3_addPusher K 0 [(0, .ref 1), (1, .int v1)] [] τ
  refine o_aload_n (k := 0) 0 (by decide +kernel) rfl ?_
  refine f_getI (t := 3) (k := 1) (i := 41) (by decide +kernel) sh_1 rfl (by decide) lk_182 rfl ?_
  refine o_if_lt (off := 11) 15 (by decide +kernel) (by decide) (fun q => ?_) (fun q => ?_)
  · replace h := h.1 q
    refine o_iconst (n := -1) (v := (-1)) (by decide +kernel) (by decide) ?_
    exact f_iret (ty := .int) rfl rfl (by decide +kernel) rfl h
  · replace h := h.2 q
    refine o_aload_n (k := 0) 0 (by decide +kernel) rfl ?_
    refine f_getI (t := 3) (k := 1) (i := 41) (by decide +kernel) sh_1 rfl (by decide) lk_182 rfl ?_
    refine o_iconst (n := 4) (v := 4) (by decide +kernel) (by decide) ?_
    refine o_icmp_lt (off := 5) 17 (by decide +kernel) (by decide) (fun q => ?_) (fun q => ?_)
    · replace h := h.1 q
      refine o_aload_n (k := 0) 0 (by decide +kernel) rfl ?_
      refine f_getR (r := 4) (t := 3) (k := 4) (i := 18) (by decide +kernel) sh_1 rfl (by decide) lk_190 (by simp [x_ty, tyX3]) (gr_3_4 sh_1) ?_
      refine o_aload_n (k := 0) 0 (by decide +kernel) rfl ?_
      refine f_getI (t := 3) (k := 1) (i := 41) (by decide +kernel) sh_1 rfl (by decide) lk_182 rfl ?_
      refine o_iload_n (k := 1) 1 (by decide +kernel) rfl ?_
      obtain ⟨hi, h⟩ := h
      refine f_iast (by decide +kernel) sh_4 hi rfl ?_
      refine f_name (fun t1 et1 => ?_)
      replace h := h t1 et1
      refine o_aload_n (k := 0) 0 (by decide +kernel) rfl ?_
      refine o_dup (by decide +kernel) rfl ?_
      refine f_getI (t := 3) (k := 1) (i := 41) (by decide +kernel) sh_1 rfl (by decide) lk_182 rfl ?_
      refine o_iconst (n := 1) (v := 1) (by decide +kernel) (by decide) ?_
      refine o_iadd (by decide +kernel) ?_
      refine f_putI (t := 3) (k := 1) (i := 41) (by decide +kernel) sh_1 rfl (by decide) lk_182 rfl rfl ?_
      refine f_name (fun t2 et2 => ?_)
      replace h := h t2 et2
      refine o_aload_n (k := 0) 0 (by decide +kernel) rfl ?_
      refine f_getI (t := 3) (k := 1) (i := 41) (by decide +kernel) sh_1 rfl (by decide) lk_182 rfl ?_
      refine o_iconst (n := 1) (v := 1) (by decide +kernel) (by decide) ?_
      refine o_isub (by decide +kernel) ?_
      exact f_iret (ty := .int) rfl rfl (by decide +kernel) rfl h
    · replace h := h.2 q
      refine o_iconst (n := -1) (v := (-1)) (by decide +kernel) (by decide) ?_
      exact f_iret (ty := .int) rfl rfl (by decide +kernel) rfl h
set_option maxRecDepth 20000 in
theorem e_X3_setLane {d : Nat} {K : x_T → Prop} {v1 : Int32} {v2 : Int32} {v3 : Int32} {τ : x_T} (h : x_CI d mX3_isHouse [.ref 1, .int v1] τ (fun t1 a2 => (a2 = 0 → K t1) ∧ (¬ a2 = 0 → x_CI d mX3_isHouse [.ref 1, .int v2] t1 (fun t3 a4 => (a4 = 0 → K t3) ∧ (¬ a4 = 0 → vp_in ((v1 * 8) + v2) 64 ∧ (∀ t5, t5 = x_w1 t3 5 (((v1 * 8) + v2).toNatClampNeg) v3 → (vp_in ((v2 * 8) + v1) 64 ∧ (∀ t6, t6 = x_w1 t5 5 (((v2 * 8) + v1).toNatClampNeg) v3 → (x_CV d mX3_measure [.ref 1] t6 (fun t7 => K t7)))))))))) : x_CV (d + 1) mX3_setLane [.ref 1, .int v1, .int v2, .int v3] τ K := by
  refine x_CV_of (by decide) (Nat.le_of_ble_eq_true rfl) ?_
  show x_WV (d + 1) mX3_setLane K 0 [(0, .ref 1), (1, .int v1), (2, .int v2), (3, .int v3)] [] τ
  refine o_aload_n (k := 0) 0 (by decide +kernel) rfl ?_
  refine o_iload_n (k := 1) 1 (by decide +kernel) rfl ?_
  refine f_callVI (μ' := mX3_isHouse) (i := 57) (vs := [.int v1]) (by decide +kernel) lk_576 (vok_mX3_isHouse) sh_1 rfl rfl rfl rfl (Nat.le_of_ble_eq_true rfl) ?_
  refine x_CI.mono h (fun t1 a2 h => ?_)
  refine o_if_eq (off := 39) 44 (by decide +kernel) (by decide) (fun q => ?_) (fun q => ?_)
  · replace h := h.1 q
    exact f_vret rfl (by decide +kernel) rfl h
  · replace h := h.2 q
    refine o_aload_n (k := 0) 0 (by decide +kernel) rfl ?_
    refine o_iload_n (k := 2) 2 (by decide +kernel) rfl ?_
    refine f_callVI (μ' := mX3_isHouse) (i := 57) (vs := [.int v2]) (by decide +kernel) lk_576 (vok_mX3_isHouse) sh_1 rfl rfl rfl rfl (Nat.le_of_ble_eq_true rfl) ?_
    refine x_CI.mono h (fun t3 a4 h => ?_)
    refine o_if_eq (off := 31) 44 (by decide +kernel) (by decide) (fun q => ?_) (fun q => ?_)
    · replace h := h.1 q
      exact f_vret rfl (by decide +kernel) rfl h
    · replace h := h.2 q
      refine o_aload_n (k := 0) 0 (by decide +kernel) rfl ?_
      refine f_getR (r := 5) (t := 3) (k := 5) (i := 21) (by decide +kernel) sh_1 rfl (by decide) lk_191 (by simp [x_ty, tyX3]) (gr_3_5 sh_1) ?_
      refine o_iload_n (k := 1) 1 (by decide +kernel) rfl ?_
      refine o_bipush (n := 8) (v := 8) (by decide +kernel) (by decide) ?_
      refine o_imul (by decide +kernel) ?_
      refine o_iload_n (k := 2) 2 (by decide +kernel) rfl ?_
      refine o_iadd (by decide +kernel) ?_
      refine o_iload_n (k := 3) 3 (by decide +kernel) rfl ?_
      obtain ⟨hi, h⟩ := h
      refine f_iast (by decide +kernel) sh_5 hi rfl ?_
      refine f_name (fun t5 et5 => ?_)
      replace h := h t5 et5
      refine o_aload_n (k := 0) 0 (by decide +kernel) rfl ?_
      refine f_getR (r := 5) (t := 3) (k := 5) (i := 21) (by decide +kernel) sh_1 rfl (by decide) lk_191 (by simp [x_ty, tyX3]) (gr_3_5 sh_1) ?_
      refine o_iload_n (k := 2) 2 (by decide +kernel) rfl ?_
      refine o_bipush (n := 8) (v := 8) (by decide +kernel) (by decide) ?_
      refine o_imul (by decide +kernel) ?_
      refine o_iload_n (k := 1) 1 (by decide +kernel) rfl ?_
      refine o_iadd (by decide +kernel) ?_
      refine o_iload_n (k := 3) 3 (by decide +kernel) rfl ?_
      obtain ⟨hi, h⟩ := h
      refine f_iast (by decide +kernel) sh_5 hi rfl ?_
      refine f_name (fun t6 et6 => ?_)
      replace h := h t6 et6
      refine o_aload_n (k := 0) 0 (by decide +kernel) rfl ?_
      refine f_callVV (μ' := mX3_measure) (i := 54) (vs := []) (by decide +kernel) lk_553 (vok_mX3_measure) sh_1 rfl rfl rfl rfl (Nat.le_of_ble_eq_true rfl) ?_
      refine x_CV.mono h (fun t7 h => ?_)
      exact f_vret rfl (by decide +kernel) rfl h
set_option maxRecDepth 20000 in
theorem e_X3_measure {d : Nat} {K : x_T → Prop}  {τ : x_T} (h : x_WV (d + 1) mX3_measure K 2 [(0, .ref 1), (1, .int 0)] [] τ) : x_CV (d + 1) mX3_measure [.ref 1] τ K := by
  refine x_CV_of (by decide) (Nat.le_of_ble_eq_true rfl) ?_
  show x_WV (d + 1) mX3_measure K 0 [(0, .ref 1)] [] τ
  refine o_iconst (n := 0) (v := 0) (by decide +kernel) (by decide) ?_
  refine o_istore_n (k := 1) (L' := [(1, .int 0), (0, .ref 1)]) (by decide +kernel) (by decide) rfl ?_
  refine o_sub [1, 0] rfl ?_
  exact h
set_option maxRecDepth 20000 in
theorem k_X3_measure_2 {d : Nat} {K : x_T → Prop} {v1 : Int32} {τ : x_T} (h : (8 ≤ v1 → x_WV (d + 1) mX3_measure K 72 [(0, .ref 1), (1, .int 0)] [] τ) ∧ (¬ 8 ≤ v1 → x_WV (d + 1) mX3_measure K 10 [(0, .ref 1), (1, .int v1), (2, .int 0)] [] τ)) : x_WV (d + 1) mX3_measure K 2 [(0, .ref 1), (1, .int v1)] [] τ := by
  refine o_iload_n (k := 1) 1 (by decide +kernel) rfl ?_
  refine o_bipush (n := 8) (v := 8) (by decide +kernel) (by decide) ?_
  refine o_icmp_ge (off := 65) 70 (by decide +kernel) (by decide) (fun q => ?_) (fun q => ?_)
  · replace h := h.1 q
    refine o_iconst (n := 0) (v := 0) (by decide +kernel) (by decide) ?_
    refine o_istore_n (k := 1) (L' := [(1, .int 0), (0, .ref 1)]) (by decide +kernel) (by decide) rfl ?_
    refine o_sub [1, 0] rfl ?_
    exact h
  · replace h := h.2 q
    refine o_iconst (n := 0) (v := 0) (by decide +kernel) (by decide) ?_
    refine o_istore_n (k := 2) (L' := [(2, .int 0), (0, .ref 1), (1, .int v1)]) (by decide +kernel) (by decide) rfl ?_
    refine o_sub [1, 2, 0] rfl ?_
    exact h
set_option maxRecDepth 20000 in
theorem k_X3_measure_10 {d : Nat} {K : x_T → Prop} {v1 : Int32} {v2 : Int32} {τ : x_T} (h : (8 ≤ v2 → ∀ y1, y1 = v1 + 1 → (x_WV (d + 1) mX3_measure K 2 [(0, .ref 1), (1, .int y1)] [] τ)) ∧ (¬ 8 ≤ v2 → ∀ y2, y2 = (v1 * 8) + v2 → ((¬ v1 = v2 → vp_in y2 64 ∧ ((τ.1 5 y2.toNatClampNeg ≤ 0 → x_WV (d + 1) mX3_measure K 57 [(0, .ref 1), (1, .int v1), (2, .int v2)] [.int 99, .int y2, .ref 6] τ) ∧ (¬ τ.1 5 y2.toNatClampNeg ≤ 0 → vp_in y2 64 ∧ (x_WV (d + 1) mX3_measure K 57 [(0, .ref 1), (1, .int v1), (2, .int v2)] [.int (τ.1 5 y2.toNatClampNeg), .int y2, .ref 6] τ)))) ∧ (v1 = v2 → x_WV (d + 1) mX3_measure K 57 [(0, .ref 1), (1, .int v1), (2, .int v2)] [.int 0, .int y2, .ref 6] τ)))) : x_WV (d + 1) mX3_measure K 10 [(0, .ref 1), (1, .int v1), (2, .int v2)] [] τ := by
  refine o_iload_n (k := 2) 2 (by decide +kernel) rfl ?_
  refine o_bipush (n := 8) (v := 8) (by decide +kernel) (by decide) ?_
  refine o_icmp_ge (off := 51) 64 (by decide +kernel) (by decide) (fun q => ?_) (fun q => ?_)
  · replace h := h.1 q
    obtain ⟨y1, ey1⟩ : ∃ y : Int32, y = v1 + 1 := ⟨_, rfl⟩
    replace h := h y1 ey1
    refine o_iinc (i := 1) (n := 1) (v := y1) (L' := [(1, .int y1), (0, .ref 1), (2, .int v2)]) 1 (by decide +kernel) rfl (by rw [ey1]; rfl) (by decide) rfl ?_
    refine o_goto (off := -65) 2 (by decide +kernel) (by decide) ?_
    refine o_sub [1, 0] rfl ?_
    exact h
  · replace h := h.2 q
    refine o_iload_n (k := 1) 1 (by decide +kernel) rfl ?_
    refine o_bipush (n := 8) (v := 8) (by decide +kernel) (by decide) ?_
    refine o_imul (by decide +kernel) ?_
    refine o_iload_n (k := 2) 2 (by decide +kernel) rfl ?_
    refine o_iadd (by decide +kernel) ?_
    refine o_name (fun y2 ey2 => ?_)
    replace h := h y2 ey2
    refine o_istore_n (k := 3) (L' := [(3, .int y2), (0, .ref 1), (1, .int v1), (2, .int v2)]) (by decide +kernel) (by decide) rfl ?_
    refine o_aload_n (k := 0) 1 (by decide +kernel) rfl ?_
    refine f_getR (r := 6) (t := 3) (k := 6) (i := 24) (by decide +kernel) sh_1 rfl (by decide) lk_192 (by simp [x_ty, tyX3]) (gr_3_6 sh_1) ?_
    refine o_iload_n (k := 3) 0 (by decide +kernel) rfl ?_
    refine o_iload_n (k := 1) 2 (by decide +kernel) rfl ?_
    refine o_iload_n (k := 2) 3 (by decide +kernel) rfl ?_
    refine o_icmp_ne (off := 7) 37 (by decide +kernel) (by decide) (fun q => ?_) (fun q => ?_)
    · replace h := h.1 q
      refine o_aload_n (k := 0) 1 (by decide +kernel) rfl ?_
      refine f_getR (r := 5) (t := 3) (k := 5) (i := 21) (by decide +kernel) sh_1 rfl (by decide) lk_191 (by simp [x_ty, tyX3]) (gr_3_5 sh_1) ?_
      refine o_iload_n (k := 3) 0 (by decide +kernel) rfl ?_
      obtain ⟨hi, h⟩ := h
      refine f_iald (by decide +kernel) sh_5 hi rfl ?_
      refine o_if_le (off := 12) 55 (by decide +kernel) (by decide) (fun q => ?_) (fun q => ?_)
      · replace h := h.1 q
        refine o_bipush (n := 99) (v := 99) (by decide +kernel) (by decide) ?_
        refine o_sub [1, 2, 3] rfl ?_
        exact h
      · replace h := h.2 q
        refine o_aload_n (k := 0) 1 (by decide +kernel) rfl ?_
        refine f_getR (r := 5) (t := 3) (k := 5) (i := 21) (by decide +kernel) sh_1 rfl (by decide) lk_191 (by simp [x_ty, tyX3]) (gr_3_5 sh_1) ?_
        refine o_iload_n (k := 3) 0 (by decide +kernel) rfl ?_
        obtain ⟨hi, h⟩ := h
        refine f_iald (by decide +kernel) sh_5 hi rfl ?_
        refine o_goto (off := 5) 57 (by decide +kernel) (by decide) ?_
        refine o_sub [1, 2, 3] rfl ?_
        exact h
    · replace h := h.2 q
      refine o_iconst (n := 0) (v := 0) (by decide +kernel) (by decide) ?_
      refine o_goto (off := 23) 57 (by decide +kernel) (by decide) ?_
      refine o_sub [1, 2, 3] rfl ?_
      exact h
set_option maxRecDepth 20000 in
theorem k_X3_measure_57 {d : Nat} {K : x_T → Prop} {v1 : Int32} {v2 : Int32} {s0 : Int32} {s1 : Int32} {τ : x_T} (h : vp_in s1 64 ∧ (∀ t1, t1 = x_w1 τ 6 s1.toNatClampNeg s0 → (∀ y2, y2 = v2 + 1 → (x_WV (d + 1) mX3_measure K 10 [(0, .ref 1), (1, .int v1), (2, .int y2)] [] t1)))) : x_WV (d + 1) mX3_measure K 57 [(0, .ref 1), (1, .int v1), (2, .int v2)] [.int s0, .int s1, .ref 6] τ := by
  obtain ⟨hi, h⟩ := h
  refine f_iast (by decide +kernel) sh_6 hi rfl ?_
  refine f_name (fun t1 et1 => ?_)
  replace h := h t1 et1
  obtain ⟨y2, ey2⟩ : ∃ y : Int32, y = v2 + 1 := ⟨_, rfl⟩
  replace h := h y2 ey2
  refine o_iinc (i := 2) (n := 1) (v := y2) (L' := [(2, .int y2), (0, .ref 1), (1, .int v1)]) 2 (by decide +kernel) rfl (by rw [ey2]; rfl) (by decide) rfl ?_
  refine o_goto (off := -51) 10 (by decide +kernel) (by decide) ?_
  refine o_sub [1, 2, 0] rfl ?_
  exact h
set_option maxRecDepth 20000 in
theorem k_X3_measure_72 {d : Nat} {K : x_T → Prop} {v1 : Int32} {τ : x_T} (h : (8 ≤ v1 → K τ) ∧ (¬ 8 ≤ v1 → x_WV (d + 1) mX3_measure K 80 [(0, .ref 1), (1, .int v1), (2, .int 0)] [] τ)) : x_WV (d + 1) mX3_measure K 72 [(0, .ref 1), (1, .int v1)] [] τ := by
  refine o_iload_n (k := 1) 1 (by decide +kernel) rfl ?_
  refine o_bipush (n := 8) (v := 8) (by decide +kernel) (by decide) ?_
  refine o_icmp_ge (off := 29) 104 (by decide +kernel) (by decide) (fun q => ?_) (fun q => ?_)
  · replace h := h.1 q
    exact f_vret rfl (by decide +kernel) rfl h
  · replace h := h.2 q
    refine o_iconst (n := 0) (v := 0) (by decide +kernel) (by decide) ?_
    refine o_istore_n (k := 2) (L' := [(2, .int 0), (0, .ref 1), (1, .int v1)]) (by decide +kernel) (by decide) rfl ?_
    refine o_sub [1, 2, 0] rfl ?_
    exact h
set_option maxRecDepth 20000 in
theorem k_X3_measure_80 {d : Nat} {K : x_T → Prop} {v1 : Int32} {v2 : Int32} {τ : x_T} (h : (8 ≤ v2 → ∀ y1, y1 = v1 + 1 → (x_WV (d + 1) mX3_measure K 72 [(0, .ref 1), (1, .int y1)] [] τ)) ∧ (¬ 8 ≤ v2 → x_CV d mX3_shorten [.ref 1, .int v2, .int v1] τ (fun t2 => ∀ y4, y4 = v2 + 1 → (x_WV (d + 1) mX3_measure K 80 [(0, .ref 1), (1, .int v1), (2, .int y4)] [] t2)))) : x_WV (d + 1) mX3_measure K 80 [(0, .ref 1), (1, .int v1), (2, .int v2)] [] τ := by
  refine o_iload_n (k := 2) 2 (by decide +kernel) rfl ?_
  refine o_bipush (n := 8) (v := 8) (by decide +kernel) (by decide) ?_
  refine o_icmp_ge (off := 15) 98 (by decide +kernel) (by decide) (fun q => ?_) (fun q => ?_)
  · replace h := h.1 q
    obtain ⟨y1, ey1⟩ : ∃ y : Int32, y = v1 + 1 := ⟨_, rfl⟩
    replace h := h y1 ey1
    refine o_iinc (i := 1) (n := 1) (v := y1) (L' := [(1, .int y1), (0, .ref 1), (2, .int v2)]) 1 (by decide +kernel) rfl (by rw [ey1]; rfl) (by decide) rfl ?_
    refine o_goto (off := -29) 72 (by decide +kernel) (by decide) ?_
    refine o_sub [1, 0] rfl ?_
    exact h
  · replace h := h.2 q
    refine o_aload_n (k := 0) 0 (by decide +kernel) rfl ?_
    refine o_iload_n (k := 2) 2 (by decide +kernel) rfl ?_
    refine o_iload_n (k := 1) 1 (by decide +kernel) rfl ?_
    refine f_callVV (μ' := mX3_shorten) (i := 61) (vs := [.int v2, .int v1]) (by decide +kernel) lk_557 (vok_mX3_shorten) sh_1 rfl rfl rfl rfl (Nat.le_of_ble_eq_true rfl) ?_
    refine x_CV.mono h (fun t2 h => ?_)
    obtain ⟨y4, ey4⟩ : ∃ y : Int32, y = v2 + 1 := ⟨_, rfl⟩
    replace h := h y4 ey4
    refine o_iinc (i := 2) (n := 1) (v := y4) (L' := [(2, .int y4), (0, .ref 1), (1, .int v1)]) 2 (by decide +kernel) rfl (by rw [ey4]; rfl) (by decide) rfl ?_
    refine o_goto (off := -15) 80 (by decide +kernel) (by decide) ?_
    refine o_sub [1, 2, 0] rfl ?_
    exact h
set_option maxRecDepth 20000 in
theorem e_X3_shorten {d : Nat} {K : x_T → Prop} {v1 : Int32} {v2 : Int32} {τ : x_T} (h : (v1 < 0 → K τ) ∧ (¬ v1 < 0 → (8 ≤ v1 → K τ) ∧ (¬ 8 ≤ v1 → (v2 < 0 → K τ) ∧ (¬ v2 < 0 → (v2 < 8 → vp_in ((v1 * 8) + v2) 64 ∧ (∀ y1, y1 = τ.1 6 ((v1 * 8) + v2).toNatClampNeg → (x_WV (d + 1) mX3_shorten K 36 [(0, .ref 1), (1, .int v1), (2, .int v2), (3, .int y1), (4, .int 0)] [] τ))) ∧ (¬ v2 < 8 → K τ))))) : x_CV (d + 1) mX3_shorten [.ref 1, .int v1, .int v2] τ K := by
  refine x_CV_of (by decide) (Nat.le_of_ble_eq_true rfl) ?_
  show x_WV (d + 1) mX3_shorten K 0 [(0, .ref 1), (1, .int v1), (2, .int v2)] [] τ
  refine o_iload_n (k := 1) 1 (by decide +kernel) rfl ?_
  refine o_if_lt (off := 19) 20 (by decide +kernel) (by decide) (fun q => ?_) (fun q => ?_)
  · replace h := h.1 q
    exact f_vret rfl (by decide +kernel) rfl h
  · replace h := h.2 q
    refine o_iload_n (k := 1) 1 (by decide +kernel) rfl ?_
    refine o_bipush (n := 8) (v := 8) (by decide +kernel) (by decide) ?_
    refine o_icmp_ge (off := 13) 20 (by decide +kernel) (by decide) (fun q => ?_) (fun q => ?_)
    · replace h := h.1 q
      exact f_vret rfl (by decide +kernel) rfl h
    · replace h := h.2 q
      refine o_iload_n (k := 2) 2 (by decide +kernel) rfl ?_
      refine o_if_lt (off := 9) 20 (by decide +kernel) (by decide) (fun q => ?_) (fun q => ?_)
      · replace h := h.1 q
        exact f_vret rfl (by decide +kernel) rfl h
      · replace h := h.2 q
        refine o_iload_n (k := 2) 2 (by decide +kernel) rfl ?_
        refine o_bipush (n := 8) (v := 8) (by decide +kernel) (by decide) ?_
        refine o_icmp_lt (off := 4) 21 (by decide +kernel) (by decide) (fun q => ?_) (fun q => ?_)
        · replace h := h.1 q
          refine o_aload_n (k := 0) 0 (by decide +kernel) rfl ?_
          refine f_getR (r := 6) (t := 3) (k := 6) (i := 24) (by decide +kernel) sh_1 rfl (by decide) lk_192 (by simp [x_ty, tyX3]) (gr_3_6 sh_1) ?_
          refine o_iload_n (k := 1) 1 (by decide +kernel) rfl ?_
          refine o_bipush (n := 8) (v := 8) (by decide +kernel) (by decide) ?_
          refine o_imul (by decide +kernel) ?_
          refine o_iload_n (k := 2) 2 (by decide +kernel) rfl ?_
          refine o_iadd (by decide +kernel) ?_
          obtain ⟨hi, h⟩ := h
          refine f_iald (by decide +kernel) sh_6 hi rfl ?_
          refine o_name (fun y1 ey1 => ?_)
          replace h := h y1 ey1
          refine o_istore_n (k := 3) (L' := [(3, .int y1), (0, .ref 1), (1, .int v1), (2, .int v2)]) (by decide +kernel) (by decide) rfl ?_
          refine o_iconst (n := 0) (v := 0) (by decide +kernel) (by decide) ?_
          refine o_istore (k := 4) (L' := [(4, .int 0), (3, .int y1), (0, .ref 1), (1, .int v1), (2, .int v2)]) (by decide +kernel) (by decide) rfl ?_
          refine o_sub [2, 3, 4, 1, 0] rfl ?_
          exact h
        · replace h := h.2 q
          exact f_vret rfl (by decide +kernel) rfl h
set_option maxRecDepth 20000 in
theorem k_X3_shorten_36 {d : Nat} {K : x_T → Prop} {v1 : Int32} {v2 : Int32} {v3 : Int32} {v4 : Int32} {τ : x_T} (h : (8 ≤ v4 → K τ) ∧ (¬ 8 ≤ v4 → ∀ y1, y1 = (v1 * 8) + v4 → (vp_in y1 64 ∧ (vp_in ((v2 * 8) + v4) 64 ∧ (∀ y2, y2 = (if v3 + (τ.1 6 ((v2 * 8) + v4).toNatClampNeg) < τ.1 6 y1.toNatClampNeg then v3 + (τ.1 6 ((v2 * 8) + v4).toNatClampNeg) else τ.1 6 y1.toNatClampNeg) → (vp_in y1 64 ∧ (∀ t3, t3 = x_w1 τ 6 y1.toNatClampNeg y2 → (∀ y4, y4 = v4 + 1 → (x_WV (d + 1) mX3_shorten K 36 [(0, .ref 1), (1, .int v1), (2, .int v2), (3, .int v3), (4, .int y4)] [] t3))))))))) : x_WV (d + 1) mX3_shorten K 36 [(0, .ref 1), (1, .int v1), (2, .int v2), (3, .int v3), (4, .int v4)] [] τ := by
  refine o_iload (k := 4) 4 (by decide +kernel) rfl ?_
  refine o_bipush (n := 8) (v := 8) (by decide +kernel) (by decide) ?_
  refine o_icmp_ge (off := 49) 89 (by decide +kernel) (by decide) (fun q => ?_) (fun q => ?_)
  · replace h := h.1 q
    exact f_vret rfl (by decide +kernel) rfl h
  · replace h := h.2 q
    refine o_iload_n (k := 1) 1 (by decide +kernel) rfl ?_
    refine o_bipush (n := 8) (v := 8) (by decide +kernel) (by decide) ?_
    refine o_imul (by decide +kernel) ?_
    refine o_iload (k := 4) 4 (by decide +kernel) rfl ?_
    refine o_iadd (by decide +kernel) ?_
    refine o_name (fun y1 ey1 => ?_)
    replace h := h y1 ey1
    refine o_istore (k := 5) (L' := [(5, .int y1), (0, .ref 1), (1, .int v1), (2, .int v2), (3, .int v3), (4, .int v4)]) (by decide +kernel) (by decide) rfl ?_
    refine o_aload_n (k := 0) 1 (by decide +kernel) rfl ?_
    refine f_getR (r := 6) (t := 3) (k := 6) (i := 24) (by decide +kernel) sh_1 rfl (by decide) lk_192 (by simp [x_ty, tyX3]) (gr_3_6 sh_1) ?_
    refine o_iload (k := 5) 0 (by decide +kernel) rfl ?_
    refine o_aload_n (k := 0) 1 (by decide +kernel) rfl ?_
    refine f_getR (r := 6) (t := 3) (k := 6) (i := 24) (by decide +kernel) sh_1 rfl (by decide) lk_192 (by simp [x_ty, tyX3]) (gr_3_6 sh_1) ?_
    refine o_iload (k := 5) 0 (by decide +kernel) rfl ?_
    obtain ⟨hi, h⟩ := h
    refine f_iald (by decide +kernel) sh_6 hi rfl ?_
    refine o_iload_n (k := 3) 4 (by decide +kernel) rfl ?_
    refine o_aload_n (k := 0) 1 (by decide +kernel) rfl ?_
    refine f_getR (r := 6) (t := 3) (k := 6) (i := 24) (by decide +kernel) sh_1 rfl (by decide) lk_192 (by simp [x_ty, tyX3]) (gr_3_6 sh_1) ?_
    refine o_iload_n (k := 2) 3 (by decide +kernel) rfl ?_
    refine o_bipush (n := 8) (v := 8) (by decide +kernel) (by decide) ?_
    refine o_imul (by decide +kernel) ?_
    refine o_iload (k := 4) 5 (by decide +kernel) rfl ?_
    refine o_iadd (by decide +kernel) ?_
    obtain ⟨hi, h⟩ := h
    refine f_iald (by decide +kernel) sh_6 hi rfl ?_
    refine o_iadd (by decide +kernel) ?_
    refine o_mmin (i := 65) (by decide +kernel) lk_561 lm_min (Nat.le_of_ble_eq_true rfl) ?_
    refine o_name (fun y2 ey2 => ?_)
    replace h := h y2 ey2
    obtain ⟨hi, h⟩ := h
    refine f_iast (by decide +kernel) sh_6 hi rfl ?_
    refine f_name (fun t3 et3 => ?_)
    replace h := h t3 et3
    obtain ⟨y4, ey4⟩ : ∃ y : Int32, y = v4 + 1 := ⟨_, rfl⟩
    replace h := h y4 ey4
    refine o_iinc (i := 4) (n := 1) (v := y4) (L' := [(4, .int y4), (5, .int y1), (0, .ref 1), (1, .int v1), (2, .int v2), (3, .int v3)]) 5 (by decide +kernel) rfl (by rw [ey4]; rfl) (by decide) rfl ?_
    refine o_goto (off := -50) 36 (by decide +kernel) (by decide) ?_
    refine o_sub [2, 3, 4, 5, 0] rfl ?_
    exact h
set_option maxRecDepth 20000 in
theorem e_X3_hillOf {d : Nat} {K : x_T → Int32 → Prop} {v1 : Int32} {τ : x_T} (h : x_CI d mX3_isHouse [.ref 1, .int v1] τ (fun t1 a2 => (a2 = 0 → K t1 0) ∧ (¬ a2 = 0 → vp_in v1 8 ∧ (K t1 (t1.1 2 v1.toNatClampNeg))))) : x_CI (d + 1) mX3_hillOf [.ref 1, .int v1] τ K := by
  refine x_CI_of (by decide) (Nat.le_of_ble_eq_true rfl) ?_
  show x_WI (d + 1) mX3_hillOf K 0 [(0, .ref 1), (1, .int v1)] [] τ
  refine o_aload_n (k := 0) 0 (by decide +kernel) rfl ?_
  refine o_iload_n (k := 1) 1 (by decide +kernel) rfl ?_
  refine f_callVI (μ' := mX3_isHouse) (i := 57) (vs := [.int v1]) (by decide +kernel) lk_576 (vok_mX3_isHouse) sh_1 rfl rfl rfl rfl (Nat.le_of_ble_eq_true rfl) ?_
  refine x_CI.mono h (fun t1 a2 h => ?_)
  refine o_if_eq (off := 12) 17 (by decide +kernel) (by decide) (fun q => ?_) (fun q => ?_)
  · replace h := h.1 q
    refine o_iconst (n := 0) (v := 0) (by decide +kernel) (by decide) ?_
    exact f_iret (ty := .int) rfl rfl (by decide +kernel) rfl h
  · replace h := h.2 q
    refine o_aload_n (k := 0) 0 (by decide +kernel) rfl ?_
    refine f_getR (r := 2) (t := 3) (k := 2) (i := 9) (by decide +kernel) sh_1 rfl (by decide) lk_185 (by simp [x_ty, tyX3]) (gr_3_2 sh_1) ?_
    refine o_iload_n (k := 1) 1 (by decide +kernel) rfl ?_
    obtain ⟨hi, h⟩ := h
    refine f_iald (by decide +kernel) sh_2 hi rfl ?_
    refine o_goto (off := 4) 18 (by decide +kernel) (by decide) ?_
    exact f_iret (ty := .int) rfl rfl (by decide +kernel) rfl h
set_option maxRecDepth 20000 in
theorem e_X3_strengthOf {d : Nat} {K : x_T → Int32 → Prop} {v1 : Int32} {τ : x_T} (h : x_CI d mX3_isPusher [.ref 1, .int v1] τ (fun t1 a2 => (a2 = 0 → K t1 0) ∧ (¬ a2 = 0 → vp_in v1 4 ∧ (K t1 (t1.1 4 v1.toNatClampNeg))))) : x_CI (d + 1) mX3_strengthOf [.ref 1, .int v1] τ K := by
  refine x_CI_of (by decide) (Nat.le_of_ble_eq_true rfl) ?_
  show x_WI (d + 1) mX3_strengthOf K 0 [(0, .ref 1), (1, .int v1)] [] τ
  refine o_aload_n (k := 0) 0 (by decide +kernel) rfl ?_
  refine o_iload_n (k := 1) 1 (by decide +kernel) rfl ?_
  refine f_callVI (μ' := mX3_isPusher) (i := 71) (vs := [.int v1]) (by decide +kernel) lk_649 (vok_mX3_isPusher) sh_1 rfl rfl rfl rfl (Nat.le_of_ble_eq_true rfl) ?_
  refine x_CI.mono h (fun t1 a2 h => ?_)
  refine o_if_eq (off := 12) 17 (by decide +kernel) (by decide) (fun q => ?_) (fun q => ?_)
  · replace h := h.1 q
    refine o_iconst (n := 0) (v := 0) (by decide +kernel) (by decide) ?_
    exact f_iret (ty := .int) rfl rfl (by decide +kernel) rfl h
  · replace h := h.2 q
    refine o_aload_n (k := 0) 0 (by decide +kernel) rfl ?_
    refine f_getR (r := 4) (t := 3) (k := 4) (i := 18) (by decide +kernel) sh_1 rfl (by decide) lk_190 (by simp [x_ty, tyX3]) (gr_3_4 sh_1) ?_
    refine o_iload_n (k := 1) 1 (by decide +kernel) rfl ?_
    obtain ⟨hi, h⟩ := h
    refine f_iald (by decide +kernel) sh_4 hi rfl ?_
    refine o_goto (off := 4) 18 (by decide +kernel) (by decide) ?_
    exact f_iret (ty := .int) rfl rfl (by decide +kernel) rfl h
set_option maxRecDepth 20000 in
theorem e_X3_laneBetween {d : Nat} {K : x_T → Int32 → Prop} {v1 : Int32} {v2 : Int32} {τ : x_T} (h : x_CI d mX3_isHouse [.ref 1, .int v1] τ (fun t1 a2 => (a2 = 0 → K t1 0) ∧ (¬ a2 = 0 → x_CI d mX3_isHouse [.ref 1, .int v2] t1 (fun t3 a4 => (a4 = 0 → K t3 0) ∧ (¬ a4 = 0 → vp_in ((v1 * 8) + v2) 64 ∧ (K t3 (t3.1 5 ((v1 * 8) + v2).toNatClampNeg))))))) : x_CI (d + 1) mX3_laneBetween [.ref 1, .int v1, .int v2] τ K := by
  refine x_CI_of (by decide) (Nat.le_of_ble_eq_true rfl) ?_
  show x_WI (d + 1) mX3_laneBetween K 0 [(0, .ref 1), (1, .int v1), (2, .int v2)] [] τ
  refine o_aload_n (k := 0) 0 (by decide +kernel) rfl ?_
  refine o_iload_n (k := 1) 1 (by decide +kernel) rfl ?_
  refine f_callVI (μ' := mX3_isHouse) (i := 57) (vs := [.int v1]) (by decide +kernel) lk_576 (vok_mX3_isHouse) sh_1 rfl rfl rfl rfl (Nat.le_of_ble_eq_true rfl) ?_
  refine x_CI.mono h (fun t1 a2 h => ?_)
  refine o_if_eq (off := 25) 30 (by decide +kernel) (by decide) (fun q => ?_) (fun q => ?_)
  · replace h := h.1 q
    refine o_iconst (n := 0) (v := 0) (by decide +kernel) (by decide) ?_
    exact f_iret (ty := .int) rfl rfl (by decide +kernel) rfl h
  · replace h := h.2 q
    refine o_aload_n (k := 0) 0 (by decide +kernel) rfl ?_
    refine o_iload_n (k := 2) 2 (by decide +kernel) rfl ?_
    refine f_callVI (μ' := mX3_isHouse) (i := 57) (vs := [.int v2]) (by decide +kernel) lk_576 (vok_mX3_isHouse) sh_1 rfl rfl rfl rfl (Nat.le_of_ble_eq_true rfl) ?_
    refine x_CI.mono h (fun t3 a4 h => ?_)
    refine o_if_eq (off := 17) 30 (by decide +kernel) (by decide) (fun q => ?_) (fun q => ?_)
    · replace h := h.1 q
      refine o_iconst (n := 0) (v := 0) (by decide +kernel) (by decide) ?_
      exact f_iret (ty := .int) rfl rfl (by decide +kernel) rfl h
    · replace h := h.2 q
      refine o_aload_n (k := 0) 0 (by decide +kernel) rfl ?_
      refine f_getR (r := 5) (t := 3) (k := 5) (i := 21) (by decide +kernel) sh_1 rfl (by decide) lk_191 (by simp [x_ty, tyX3]) (gr_3_5 sh_1) ?_
      refine o_iload_n (k := 1) 1 (by decide +kernel) rfl ?_
      refine o_bipush (n := 8) (v := 8) (by decide +kernel) (by decide) ?_
      refine o_imul (by decide +kernel) ?_
      refine o_iload_n (k := 2) 2 (by decide +kernel) rfl ?_
      refine o_iadd (by decide +kernel) ?_
      obtain ⟨hi, h⟩ := h
      refine f_iald (by decide +kernel) sh_5 hi rfl ?_
      refine o_goto (off := 4) 31 (by decide +kernel) (by decide) ?_
      exact f_iret (ty := .int) rfl rfl (by decide +kernel) rfl h
set_option maxRecDepth 20000 in
theorem e_X3_wayBetween {d : Nat} {K : x_T → Int32 → Prop} {v1 : Int32} {v2 : Int32} {τ : x_T} (h : (v1 < 0 → K τ 99) ∧ (¬ v1 < 0 → (τ.1 1 0 ≤ v1 → K τ 99) ∧ (¬ τ.1 1 0 ≤ v1 → (8 ≤ v1 → K τ 99) ∧ (¬ 8 ≤ v1 → (v2 < 0 → K τ 99) ∧ (¬ v2 < 0 → (τ.1 1 0 ≤ v2 → K τ 99) ∧ (¬ τ.1 1 0 ≤ v2 → (v2 < 8 → vp_in ((v1 * 8) + v2) 64 ∧ (K τ (τ.1 6 ((v1 * 8) + v2).toNatClampNeg))) ∧ (¬ v2 < 8 → K τ 99))))))) : x_CI d mX3_wayBetween [.ref 1, .int v1, .int v2] τ K := by
  refine x_CI_of (by decide) (Nat.le_of_ble_eq_true rfl) ?_
  show x_WI d mX3_wayBetween K 0 [(0, .ref 1), (1, .int v1), (2, .int v2)] [] τ
  refine o_iload_n (k := 1) 1 (by decide +kernel) rfl ?_
  refine o_if_lt (off := 35) 36 (by decide +kernel) (by decide) (fun q => ?_) (fun q => ?_)
  · replace h := h.1 q
    refine o_bipush (n := 99) (v := 99) (by decide +kernel) (by decide) ?_
    exact f_iret (ty := .int) rfl rfl (by decide +kernel) rfl h
  · replace h := h.2 q
    refine o_iload_n (k := 1) 1 (by decide +kernel) rfl ?_
    refine o_aload_n (k := 0) 0 (by decide +kernel) rfl ?_
    refine f_getI (t := 3) (k := 0) (i := 37) (by decide +kernel) sh_1 rfl (by decide) lk_177 rfl ?_
    refine o_icmp_ge (off := 27) 36 (by decide +kernel) (by decide) (fun q => ?_) (fun q => ?_)
    · replace h := h.1 q
      refine o_bipush (n := 99) (v := 99) (by decide +kernel) (by decide) ?_
      exact f_iret (ty := .int) rfl rfl (by decide +kernel) rfl h
    · replace h := h.2 q
      refine o_iload_n (k := 1) 1 (by decide +kernel) rfl ?_
      refine o_bipush (n := 8) (v := 8) (by decide +kernel) (by decide) ?_
      refine o_icmp_ge (off := 21) 36 (by decide +kernel) (by decide) (fun q => ?_) (fun q => ?_)
      · replace h := h.1 q
        refine o_bipush (n := 99) (v := 99) (by decide +kernel) (by decide) ?_
        exact f_iret (ty := .int) rfl rfl (by decide +kernel) rfl h
      · replace h := h.2 q
        refine o_iload_n (k := 2) 2 (by decide +kernel) rfl ?_
        refine o_if_lt (off := 17) 36 (by decide +kernel) (by decide) (fun q => ?_) (fun q => ?_)
        · replace h := h.1 q
          refine o_bipush (n := 99) (v := 99) (by decide +kernel) (by decide) ?_
          exact f_iret (ty := .int) rfl rfl (by decide +kernel) rfl h
        · replace h := h.2 q
          refine o_iload_n (k := 2) 2 (by decide +kernel) rfl ?_
          refine o_aload_n (k := 0) 0 (by decide +kernel) rfl ?_
          refine f_getI (t := 3) (k := 0) (i := 37) (by decide +kernel) sh_1 rfl (by decide) lk_177 rfl ?_
          refine o_icmp_ge (off := 9) 36 (by decide +kernel) (by decide) (fun q => ?_) (fun q => ?_)
          · replace h := h.1 q
            refine o_bipush (n := 99) (v := 99) (by decide +kernel) (by decide) ?_
            exact f_iret (ty := .int) rfl rfl (by decide +kernel) rfl h
          · replace h := h.2 q
            refine o_iload_n (k := 2) 2 (by decide +kernel) rfl ?_
            refine o_bipush (n := 8) (v := 8) (by decide +kernel) (by decide) ?_
            refine o_icmp_lt (off := 6) 39 (by decide +kernel) (by decide) (fun q => ?_) (fun q => ?_)
            · replace h := h.1 q
              refine o_aload_n (k := 0) 0 (by decide +kernel) rfl ?_
              refine f_getR (r := 6) (t := 3) (k := 6) (i := 24) (by decide +kernel) sh_1 rfl (by decide) lk_192 (by simp [x_ty, tyX3]) (gr_3_6 sh_1) ?_
              refine o_iload_n (k := 1) 1 (by decide +kernel) rfl ?_
              refine o_bipush (n := 8) (v := 8) (by decide +kernel) (by decide) ?_
              refine o_imul (by decide +kernel) ?_
              refine o_iload_n (k := 2) 2 (by decide +kernel) rfl ?_
              refine o_iadd (by decide +kernel) ?_
              obtain ⟨hi, h⟩ := h
              refine f_iald (by decide +kernel) sh_6 hi rfl ?_
              exact f_iret (ty := .int) rfl rfl (by decide +kernel) rfl h
            · replace h := h.2 q
              refine o_bipush (n := 99) (v := 99) (by decide +kernel) (by decide) ?_
              exact f_iret (ty := .int) rfl rfl (by decide +kernel) rfl h
set_option maxRecDepth 20000 in
theorem e_X3_hourBy {d : Nat} {K : x_T → Int32 → Prop} {v1 : Int32} {v2 : Int32} {τ : x_T} (h : x_CI d mX3_wayBetween [.ref 1, .int v1, .int v2] τ (fun t1 a2 => (v1 < v2 → ∀ y3, y3 = (if 12 + a2 < 23 then 12 + a2 else 23) → (K t1 y3)) ∧ (¬ v1 < v2 → ∀ y4, y4 = (if 0 < 12 - a2 then 12 - a2 else 0) → (K t1 y4)))) : x_CI (d + 1) mX3_hourBy [.ref 1, .int v1, .int v2] τ K := by
  refine x_CI_of (by decide) (Nat.le_of_ble_eq_true rfl) ?_
  show x_WI (d + 1) mX3_hourBy K 0 [(0, .ref 1), (1, .int v1), (2, .int v2)] [] τ
  refine o_aload_n (k := 0) 0 (by decide +kernel) rfl ?_
  refine o_iload_n (k := 1) 1 (by decide +kernel) rfl ?_
  refine o_iload_n (k := 2) 2 (by decide +kernel) rfl ?_
  refine f_callVI (μ' := mX3_wayBetween) (i := 74) (vs := [.int v1, .int v2]) (by decide +kernel) lk_741 (vok_mX3_wayBetween) sh_1 rfl rfl rfl rfl (Nat.le_of_ble_eq_true rfl) ?_
  refine x_CI.mono h (fun t1 a2 h => ?_)
  refine o_istore_n (k := 3) (L' := [(3, .int a2), (0, .ref 1), (1, .int v1), (2, .int v2)]) (by decide +kernel) (by decide) rfl ?_
  refine o_iload_n (k := 2) 3 (by decide +kernel) rfl ?_
  refine o_iload_n (k := 1) 2 (by decide +kernel) rfl ?_
  refine o_icmp_gt (off := 14) 23 (by decide +kernel) (by decide) (fun q => ?_) (fun q => ?_)
  · replace h := h.1 q
    refine o_bipush (n := 23) (v := 23) (by decide +kernel) (by decide) ?_
    refine o_bipush (n := 12) (v := 12) (by decide +kernel) (by decide) ?_
    refine o_iload_n (k := 3) 0 (by decide +kernel) rfl ?_
    refine o_iadd (by decide +kernel) ?_
    refine o_mmin (i := 65) (by decide +kernel) lk_561 lm_min (Nat.le_of_ble_eq_true rfl) ?_
    refine o_name (fun y3 ey3 => ?_)
    replace h := h y3 ey3
    exact f_iret (ty := .int) rfl rfl (by decide +kernel) rfl h
  · replace h := h.2 q
    refine o_iconst (n := 0) (v := 0) (by decide +kernel) (by decide) ?_
    refine o_bipush (n := 12) (v := 12) (by decide +kernel) (by decide) ?_
    refine o_iload_n (k := 3) 0 (by decide +kernel) rfl ?_
    refine o_isub (by decide +kernel) ?_
    refine o_mmax (i := 77) (by decide +kernel) lk_742 lm_max (Nat.le_of_ble_eq_true rfl) ?_
    refine o_name (fun y4 ey4 => ?_)
    replace h := h y4 ey4
    refine o_goto (off := 12) 32 (by decide +kernel) (by decide) ?_
    exact f_iret (ty := .int) rfl rfl (by decide +kernel) rfl h
set_option maxRecDepth 20000 in
theorem e_X3_noteDown {d : Nat} {K : x_T → Int32 → Prop} {r1 : Nat} (h1 : x_sh r1 = (5, 3)) {v2 : Int32} {v3 : Int32} {v4 : Int32} {τ : x_T} (h : (¬ v2 = (-1) → ∀ y1, y1 = τ.1 r1 2 → (x_CI d mX3_isHouse [.ref 1, .int v2] τ (fun t2 a3 => (a3 = 0 → K t2 (-2)) ∧ (¬ a3 = 0 → (v3 < 0 → K t2 (-2)) ∧ (¬ v3 < 0 → (v4 < v3 → K t2 (-2)) ∧ (¬ v4 < v3 → (y1 < 0 → K t2 (-2)) ∧ (¬ y1 < 0 → (y1 < 8 → vp_in y1 8 ∧ (∀ t4, t4 = x_w1 t2 (r1 + 1) y1.toNatClampNeg v2 → (vp_in y1 8 ∧ (∀ t5, t5 = x_w1 t4 (r1 + 2) y1.toNatClampNeg v3 → (∀ t6, t6 = x_w1 t5 r1 2 (y1 + 1) → (K t6 (y1 + 1))))))) ∧ (¬ y1 < 8 → K t2 (-2))))))))) ∧ (v2 = (-1) → ∀ t7, t7 = x_w1 τ r1 2 0 → (K t7 0))) : x_CI (d + 1) mX3_noteDown [.ref 1, .ref r1, .int v2, .int v3, .int v4] τ K := by
  refine x_CI_of (by decide) (Nat.le_of_ble_eq_true rfl) ?_
  show x_WI (d + 1) mX3_noteDown K 0 [(0, .ref 1), (1, .ref r1), (2, .int v2), (3, .int v3), (4, .int v4)] [] τ
  refine o_iload_n (k := 2) 2 (by decide +kernel) rfl ?_
  refine o_iconst (n := -1) (v := (-1)) (by decide +kernel) (by decide) ?_
  refine o_icmp_ne (off := 10) 12 (by decide +kernel) (by decide) (fun q => ?_) (fun q => ?_)
  · replace h := h.1 q
    refine o_aload_n (k := 1) 1 (by decide +kernel) rfl ?_
    refine f_getI (t := 5) (k := 2) (i := 80) (by decide +kernel) h1 rfl (by decide) lk_167 rfl ?_
    refine o_name (fun y1 ey1 => ?_)
    replace h := h y1 ey1
    refine o_istore (k := 5) (L' := [(5, .int y1), (0, .ref 1), (1, .ref r1), (2, .int v2), (3, .int v3), (4, .int v4)]) (by decide +kernel) (by decide) rfl ?_
    refine o_aload_n (k := 0) 1 (by decide +kernel) rfl ?_
    refine o_iload_n (k := 2) 3 (by decide +kernel) rfl ?_
    refine f_callVI (μ' := mX3_isHouse) (i := 57) (vs := [.int v2]) (by decide +kernel) lk_576 (vok_mX3_isHouse) sh_1 rfl rfl rfl rfl (Nat.le_of_ble_eq_true rfl) ?_
    refine x_CI.mono h (fun t2 a3 h => ?_)
    refine o_if_eq (off := 25) 48 (by decide +kernel) (by decide) (fun q => ?_) (fun q => ?_)
    · replace h := h.1 q
      refine o_bipush (n := -2) (v := (-2)) (by decide +kernel) (by decide) ?_
      exact f_iret (ty := .int) rfl rfl (by decide +kernel) rfl h
    · replace h := h.2 q
      refine o_iload_n (k := 3) 4 (by decide +kernel) rfl ?_
      refine o_if_lt (off := 21) 48 (by decide +kernel) (by decide) (fun q => ?_) (fun q => ?_)
      · replace h := h.1 q
        refine o_bipush (n := -2) (v := (-2)) (by decide +kernel) (by decide) ?_
        exact f_iret (ty := .int) rfl rfl (by decide +kernel) rfl h
      · replace h := h.2 q
        refine o_iload_n (k := 3) 4 (by decide +kernel) rfl ?_
        refine o_iload (k := 4) 5 (by decide +kernel) rfl ?_
        refine o_icmp_gt (off := 15) 48 (by decide +kernel) (by decide) (fun q => ?_) (fun q => ?_)
        · replace h := h.1 q
          refine o_bipush (n := -2) (v := (-2)) (by decide +kernel) (by decide) ?_
          exact f_iret (ty := .int) rfl rfl (by decide +kernel) rfl h
        · replace h := h.2 q
          refine o_iload (k := 5) 0 (by decide +kernel) rfl ?_
          refine o_if_lt (off := 10) 48 (by decide +kernel) (by decide) (fun q => ?_) (fun q => ?_)
          · replace h := h.1 q
            refine o_bipush (n := -2) (v := (-2)) (by decide +kernel) (by decide) ?_
            exact f_iret (ty := .int) rfl rfl (by decide +kernel) rfl h
          · replace h := h.2 q
            refine o_iload (k := 5) 0 (by decide +kernel) rfl ?_
            refine o_bipush (n := 8) (v := 8) (by decide +kernel) (by decide) ?_
            refine o_icmp_lt (off := 6) 51 (by decide +kernel) (by decide) (fun q => ?_) (fun q => ?_)
            · replace h := h.1 q
              refine o_aload_n (k := 1) 2 (by decide +kernel) rfl ?_
              refine f_getR (r := (r1 + 1)) (t := 5) (k := 0) (i := 83) (by decide +kernel) h1 rfl (by decide) lk_159 (by simp [x_ty, tyX5]) (gr_5_0 h1) ?_
              refine o_iload (k := 5) 0 (by decide +kernel) rfl ?_
              refine o_iload_n (k := 2) 3 (by decide +kernel) rfl ?_
              obtain ⟨hi, h⟩ := h
              refine f_iast (by decide +kernel) (shd_5_1 h1) hi rfl ?_
              refine f_name (fun t4 et4 => ?_)
              replace h := h t4 et4
              refine o_aload_n (k := 1) 2 (by decide +kernel) rfl ?_
              refine f_getR (r := (r1 + 2)) (t := 5) (k := 1) (i := 86) (by decide +kernel) h1 rfl (by decide) lk_163 (by simp [x_ty, tyX5]) (gr_5_1 h1) ?_
              refine o_iload (k := 5) 0 (by decide +kernel) rfl ?_
              refine o_iload_n (k := 3) 4 (by decide +kernel) rfl ?_
              obtain ⟨hi, h⟩ := h
              refine f_iast (by decide +kernel) (shd_5_2 h1) hi rfl ?_
              refine f_name (fun t5 et5 => ?_)
              replace h := h t5 et5
              refine o_aload_n (k := 1) 2 (by decide +kernel) rfl ?_
              refine o_iload (k := 5) 0 (by decide +kernel) rfl ?_
              refine o_iconst (n := 1) (v := 1) (by decide +kernel) (by decide) ?_
              refine o_iadd (by decide +kernel) ?_
              refine f_putI (t := 5) (k := 2) (i := 80) (by decide +kernel) h1 rfl (by decide) lk_167 rfl rfl ?_
              refine f_name (fun t6 et6 => ?_)
              replace h := h t6 et6
              refine o_iload (k := 5) 0 (by decide +kernel) rfl ?_
              refine o_iconst (n := 1) (v := 1) (by decide +kernel) (by decide) ?_
              refine o_iadd (by decide +kernel) ?_
              exact f_iret (ty := .int) rfl rfl (by decide +kernel) rfl h
            · replace h := h.2 q
              refine o_bipush (n := -2) (v := (-2)) (by decide +kernel) (by decide) ?_
              exact f_iret (ty := .int) rfl rfl (by decide +kernel) rfl h
  · replace h := h.2 q
    refine o_aload_n (k := 1) 1 (by decide +kernel) rfl ?_
    refine o_iconst (n := 0) (v := 0) (by decide +kernel) (by decide) ?_
    refine f_putI (t := 5) (k := 2) (i := 80) (by decide +kernel) h1 rfl (by decide) lk_167 rfl rfl ?_
    refine f_name (fun t7 et7 => ?_)
    replace h := h t7 et7
    refine o_iconst (n := 0) (v := 0) (by decide +kernel) (by decide) ?_
    exact f_iret (ty := .int) rfl rfl (by decide +kernel) rfl h
