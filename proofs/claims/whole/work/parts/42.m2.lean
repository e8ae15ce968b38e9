set_option maxRecDepth 20000 in
theorem e_X12_bySecond {d : Nat} {K : x_T → Prop}  {τ : x_T} (h : x_CI d mX12_isWord [.ref 345, .int 11] τ (fun t1 a2 => (¬ a2 = 0 → vp_in ((t1.1 345 22) - 1) 40 ∧ (∀ t3, t3 = x_w1 t1 357 (((t1.1 345 22) - 1).toNatClampNeg) 11 → (x_CV d mX12_next [.ref 345] t3 (fun t4 => ∀ t6, t6 = x_w1 t4 345 28 1 → (K t6))))) ∧ (a2 = 0 → x_CV d mX12_errs [.ref 345, .int 1] t1 (fun t7 => K t7)))) : x_CV (d + 1) mX12_bySecond [.ref 345] τ K := by
  refine x_CV_of (by decide) (Nat.le_of_ble_eq_true rfl) ?_
  show x_WV (d + 1) mX12_bySecond K 0 [(0, .ref 345)] [] τ
  refine o_aload_n (k := 0) 0 (by decide +kernel) rfl ?_
  refine o_bipush (n := 11) (v := 11) (by decide +kernel) (by decide) ?_
  refine f_callVI (μ' := mX12_isWord) (i := 255) (vs := [.int 11]) (by decide +kernel) lk_1591 (vok_mX12_isWord) sh_345 rfl rfl rfl rfl (Nat.le_of_ble_eq_true rfl) ?_
  refine x_CI.mono h (fun t1 a2 h => ?_)
  refine o_if_ne (off := 9) 15 (by decide +kernel) (by decide) (fun q => ?_) (fun q => ?_)
  · replace h := h.1 q
    refine o_aload_n (k := 0) 0 (by decide +kernel) rfl ?_
    refine f_getR (r := 357) (t := 12) (k := 23) (i := 51) (by decide +kernel) sh_345 rfl (by decide) lk_1384 (by simp [x_ty, tyX12]) (gr_12_23 sh_345) ?_
    refine o_aload_n (k := 0) 0 (by decide +kernel) rfl ?_
    refine f_getI (t := 12) (k := 22) (i := 226) (by decide +kernel) sh_345 rfl (by decide) lk_1383 rfl ?_
    refine o_iconst (n := 1) (v := 1) (by decide +kernel) (by decide) ?_
    refine o_isub (by decide +kernel) ?_
    refine o_bipush (n := 11) (v := 11) (by decide +kernel) (by decide) ?_
    obtain ⟨hi, h⟩ := h
    refine f_iast (by decide +kernel) sh_357 hi rfl ?_
    refine f_name (fun t3 et3 => ?_)
    replace h := h t3 et3
    refine o_aload_n (k := 0) 0 (by decide +kernel) rfl ?_
    refine f_callVV (μ' := mX12_next) (i := 238) (vs := []) (by decide +kernel) lk_1543 (vok_mX12_next) sh_345 rfl rfl rfl rfl (Nat.le_of_ble_eq_true rfl) ?_
    refine x_CV.mono h (fun t4 h => ?_)
    refine o_aload_n (k := 0) 0 (by decide +kernel) rfl ?_
    refine o_iconst (n := 1) (v := 1) (by decide +kernel) (by decide) ?_
    refine f_putI (t := 12) (k := 28) (i := 261) (by decide +kernel) sh_345 rfl (by decide) lk_1389 rfl rfl ?_
    refine f_name (fun t6 et6 => ?_)
    replace h := h t6 et6
    exact f_vret rfl (by decide +kernel) rfl h
  · replace h := h.2 q
    refine o_aload_n (k := 0) 0 (by decide +kernel) rfl ?_
    refine o_iconst (n := 1) (v := 1) (by decide +kernel) (by decide) ?_
    refine f_callVV (μ' := mX12_errs) (i := 232) (vs := [.int 1]) (by decide +kernel) lk_1599 (vok_mX12_errs) sh_345 rfl rfl rfl rfl (Nat.le_of_ble_eq_true rfl) ?_
    refine x_CV.mono h (fun t7 h => ?_)
    exact f_vret rfl (by decide +kernel) rfl h
set_option maxRecDepth 20000 in
theorem e_X12_askIsOver {d : Nat} {K : x_T → Prop}  {τ : x_T} (h : x_WV (d + 1) mX12_askIsOver K 0 [(0, .ref 345)] [] τ) : x_CV (d + 1) mX12_askIsOver [.ref 345] τ K := by
  exact x_CV_of (by decide) (Nat.le_of_ble_eq_true rfl) h
set_option maxRecDepth 20000 in
theorem k_X12_askIsOver_0 {d : Nat} {K : x_T → Prop}  {τ : x_T} (h : x_CI d mX12_top [.ref 345] τ (fun t1 a2 => (¬ a2 = 3 → ∀ t3, t3 = x_w1 t1 345 28 3 → (K t3)) ∧ (a2 = 3 → ∀ t4, t4 = x_w1 t1 345 22 ((t1.1 345 22) - 1) → (∀ t5, t5 = x_w1 t4 345 21 ((t4.1 345 21) - 1) → (x_CV d mX12_emits [.ref 345, .int 405, .int 0] t5 (fun t6 => x_WV (d + 1) mX12_askIsOver K 0 [(0, .ref 345)] [] t6)))))) : x_WV (d + 1) mX12_askIsOver K 0 [(0, .ref 345)] [] τ := by
  refine o_aload_n (k := 0) 0 (by decide +kernel) rfl ?_
  refine f_callVI (μ' := mX12_top) (i := 281) (vs := []) (by decide +kernel) lk_1623 (vok_mX12_top) sh_345 rfl rfl rfl rfl (Nat.le_of_ble_eq_true rfl) ?_
  refine x_CI.mono h (fun t1 a2 h => ?_)
  refine o_iconst (n := 3) (v := 3) (by decide +kernel) (by decide) ?_
  refine o_icmp_ne (off := 34) 39 (by decide +kernel) (by decide) (fun q => ?_) (fun q => ?_)
  · replace h := h.1 q
    refine o_aload_n (k := 0) 0 (by decide +kernel) rfl ?_
    refine o_iconst (n := 3) (v := 3) (by decide +kernel) (by decide) ?_
    refine f_putI (t := 12) (k := 28) (i := 261) (by decide +kernel) sh_345 rfl (by decide) lk_1389 rfl rfl ?_
    refine f_name (fun t3 et3 => ?_)
    replace h := h t3 et3
    exact f_vret rfl (by decide +kernel) rfl h
  · replace h := h.2 q
    refine o_aload_n (k := 0) 0 (by decide +kernel) rfl ?_
    refine o_dup (by decide +kernel) rfl ?_
    refine f_getI (t := 12) (k := 22) (i := 226) (by decide +kernel) sh_345 rfl (by decide) lk_1383 rfl ?_
    refine o_iconst (n := 1) (v := 1) (by decide +kernel) (by decide) ?_
    refine o_isub (by decide +kernel) ?_
    refine f_putI (t := 12) (k := 22) (i := 226) (by decide +kernel) sh_345 rfl (by decide) lk_1383 rfl rfl ?_
    refine f_name (fun t4 et4 => ?_)
    replace h := h t4 et4
    refine o_aload_n (k := 0) 0 (by decide +kernel) rfl ?_
    refine o_dup (by decide +kernel) rfl ?_
    refine f_getI (t := 12) (k := 21) (i := 229) (by decide +kernel) sh_345 rfl (by decide) lk_1382 rfl ?_
    refine o_iconst (n := 1) (v := 1) (by decide +kernel) (by decide) ?_
    refine o_isub (by decide +kernel) ?_
    refine f_putI (t := 12) (k := 21) (i := 229) (by decide +kernel) sh_345 rfl (by decide) lk_1382 rfl rfl ?_
    refine f_name (fun t5 et5 => ?_)
    replace h := h t5 et5
    refine o_aload_n (k := 0) 0 (by decide +kernel) rfl ?_
    refine o_sipush (n := 405) (v := 405) (by decide +kernel) (by decide) ?_
    refine o_iconst (n := 0) (v := 0) (by decide +kernel) (by decide) ?_
    refine f_callVV (μ' := mX12_emits) (i := 248) (vs := [.int 405, .int 0]) (by decide +kernel) lk_1615 (vok_mX12_emits) sh_345 rfl rfl rfl rfl (Nat.le_of_ble_eq_true rfl) ?_
    refine x_CV.mono h (fun t6 h => ?_)
    refine o_goto (off := -36) 0 (by decide +kernel) (by decide) ?_
    exact h
set_option maxRecDepth 20000 in
theorem e_X12_isAsking {d : Nat} {K : x_T → Int32 → Prop} {v0 : Int32} {τ : x_T} (h : (v0 = 60 → K τ 1) ∧ (¬ v0 = 60 → (v0 = 62 → K τ 1) ∧ (¬ v0 = 62 → (v0 = 61 → K τ 1) ∧ (¬ v0 = 61 → (v0 = 35 → K τ 1) ∧ (¬ v0 = 35 → (v0 = 300 → K τ 1) ∧ (¬ v0 = 300 → (¬ v0 = 301 → K τ 0) ∧ (v0 = 301 → K τ 1))))))) : x_CI d mX12_isAsking [.int v0] τ K := by
  refine x_CI_of (by decide) (Nat.le_of_ble_eq_true rfl) ?_
  show x_WI d mX12_isAsking K 0 [(0, .int v0)] [] τ
  refine o_iload_n (k := 0) 0 (by decide +kernel) rfl ?_
  refine o_bipush (n := 60) (v := 60) (by decide +kernel) (by decide) ?_
  refine o_icmp_eq (off := 35) 38 (by decide +kernel) (by decide) (fun q => ?_) (fun q => ?_)
  · replace h := h.1 q
    refine o_iconst (n := 1) (v := 1) (by decide +kernel) (by decide) ?_
    refine o_goto (off := 4) 43 (by decide +kernel) (by decide) ?_
    exact f_iret (ty := .boolean) rfl (by decide) (by decide +kernel) rfl h
  · replace h := h.2 q
    refine o_iload_n (k := 0) 0 (by decide +kernel) rfl ?_
    refine o_bipush (n := 62) (v := 62) (by decide +kernel) (by decide) ?_
    refine o_icmp_eq (off := 29) 38 (by decide +kernel) (by decide) (fun q => ?_) (fun q => ?_)
    · replace h := h.1 q
      refine o_iconst (n := 1) (v := 1) (by decide +kernel) (by decide) ?_
      refine o_goto (off := 4) 43 (by decide +kernel) (by decide) ?_
      exact f_iret (ty := .boolean) rfl (by decide) (by decide +kernel) rfl h
    · replace h := h.2 q
      refine o_iload_n (k := 0) 0 (by decide +kernel) rfl ?_
      refine o_bipush (n := 61) (v := 61) (by decide +kernel) (by decide) ?_
      refine o_icmp_eq (off := 23) 38 (by decide +kernel) (by decide) (fun q => ?_) (fun q => ?_)
      · replace h := h.1 q
        refine o_iconst (n := 1) (v := 1) (by decide +kernel) (by decide) ?_
        refine o_goto (off := 4) 43 (by decide +kernel) (by decide) ?_
        exact f_iret (ty := .boolean) rfl (by decide) (by decide +kernel) rfl h
      · replace h := h.2 q
        refine o_iload_n (k := 0) 0 (by decide +kernel) rfl ?_
        refine o_bipush (n := 35) (v := 35) (by decide +kernel) (by decide) ?_
        refine o_icmp_eq (off := 17) 38 (by decide +kernel) (by decide) (fun q => ?_) (fun q => ?_)
        · replace h := h.1 q
          refine o_iconst (n := 1) (v := 1) (by decide +kernel) (by decide) ?_
          refine o_goto (off := 4) 43 (by decide +kernel) (by decide) ?_
          exact f_iret (ty := .boolean) rfl (by decide) (by decide +kernel) rfl h
        · replace h := h.2 q
          refine o_iload_n (k := 0) 0 (by decide +kernel) rfl ?_
          refine o_sipush (n := 300) (v := 300) (by decide +kernel) (by decide) ?_
          refine o_icmp_eq (off := 10) 38 (by decide +kernel) (by decide) (fun q => ?_) (fun q => ?_)
          · replace h := h.1 q
            refine o_iconst (n := 1) (v := 1) (by decide +kernel) (by decide) ?_
            refine o_goto (off := 4) 43 (by decide +kernel) (by decide) ?_
            exact f_iret (ty := .boolean) rfl (by decide) (by decide +kernel) rfl h
          · replace h := h.2 q
            refine o_iload_n (k := 0) 0 (by decide +kernel) rfl ?_
            refine o_sipush (n := 301) (v := 301) (by decide +kernel) (by decide) ?_
            refine o_icmp_ne (off := 7) 42 (by decide +kernel) (by decide) (fun q => ?_) (fun q => ?_)
            · replace h := h.1 q
              refine o_iconst (n := 0) (v := 0) (by decide +kernel) (by decide) ?_
              exact f_iret (ty := .boolean) rfl (by decide) (by decide +kernel) rfl h
            · replace h := h.2 q
              refine o_iconst (n := 1) (v := 1) (by decide +kernel) (by decide) ?_
              refine o_goto (off := 4) 43 (by decide +kernel) (by decide) ?_
              exact f_iret (ty := .boolean) rfl (by decide) (by decide +kernel) rfl h
set_option maxRecDepth 20000 in
theorem e_X12_turnsTo {d : Nat} {K : x_T → Prop} {v1 : Int32} {v2 : Int32} {τ : x_T} (h : vp_in (τ.1 345 22) 41 ∧ (∀ y1, y1 = τ.1 361 (τ.1 345 22).toNatClampNeg → (vp_in (τ.1 345 22) 41 ∧ (∀ t2, t2 = x_w1 τ 361 ((τ.1 345 22).toNatClampNeg) (τ.1 345 37) → (x_CV d mX12_emits [.ref 345, .int v2, .int 0] t2 (fun t3 => (¬ v2 = 409 → x_WV (d + 1) mX12_turnsTo K 46 [(0, .ref 345), (1, .int v1)] [] t3) ∧ (v2 = 409 → vp_in y1 400 ∧ (∀ t5, t5 = x_w1 t3 368 y1.toNatClampNeg (t3.1 345 37) → (x_WV (d + 1) mX12_turnsTo K 46 [(0, .ref 345), (1, .int v1)] [] t5))))))))) : x_CV (d + 1) mX12_turnsTo [.ref 345, .int v1, .int v2] τ K := by
  refine x_CV_of (by decide) (Nat.le_of_ble_eq_true rfl) ?_
  show x_WV (d + 1) mX12_turnsTo K 0 [(0, .ref 345), (1, .int v1), (2, .int v2)] [] τ
  refine o_aload_n (k := 0) 0 (by decide +kernel) rfl ?_
  refine f_getR (r := 361) (t := 12) (k := 29) (i := 63) (by decide +kernel) sh_345 rfl (by decide) lk_1390 (by simp [x_ty, tyX12]) (gr_12_29 sh_345) ?_
  refine o_aload_n (k := 0) 0 (by decide +kernel) rfl ?_
  refine f_getI (t := 12) (k := 22) (i := 226) (by decide +kernel) sh_345 rfl (by decide) lk_1383 rfl ?_
  obtain ⟨hi, h⟩ := h
  refine f_iald (by decide +kernel) sh_361 hi rfl ?_
  refine o_name (fun y1 ey1 => ?_)
  replace h := h y1 ey1
  refine o_istore_n (k := 3) (L' := [(3, .int y1), (0, .ref 345), (1, .int v1), (2, .int v2)]) (by decide +kernel) (by decide) rfl ?_
  refine o_aload_n (k := 0) 1 (by decide +kernel) rfl ?_
  refine f_getR (r := 361) (t := 12) (k := 29) (i := 63) (by decide +kernel) sh_345 rfl (by decide) lk_1390 (by simp [x_ty, tyX12]) (gr_12_29 sh_345) ?_
  refine o_aload_n (k := 0) 1 (by decide +kernel) rfl ?_
  refine f_getI (t := 12) (k := 22) (i := 226) (by decide +kernel) sh_345 rfl (by decide) lk_1383 rfl ?_
  refine o_aload_n (k := 0) 1 (by decide +kernel) rfl ?_
  refine f_getI (t := 12) (k := 37) (i := 223) (by decide +kernel) sh_345 rfl (by decide) lk_1398 rfl ?_
  obtain ⟨hi, h⟩ := h
  refine f_iast (by decide +kernel) sh_361 hi rfl ?_
  refine f_name (fun t2 et2 => ?_)
  replace h := h t2 et2
  refine o_aload_n (k := 0) 1 (by decide +kernel) rfl ?_
  refine o_iload_n (k := 2) 3 (by decide +kernel) rfl ?_
  refine o_iconst (n := 0) (v := 0) (by decide +kernel) (by decide) ?_
  refine f_callVV (μ' := mX12_emits) (i := 248) (vs := [.int v2, .int 0]) (by decide +kernel) lk_1615 (vok_mX12_emits) sh_345 rfl rfl rfl rfl (Nat.le_of_ble_eq_true rfl) ?_
  refine x_CV.mono h (fun t3 h => ?_)
  refine o_iload_n (k := 2) 3 (by decide +kernel) rfl ?_
  refine o_sipush (n := 409) (v := 409) (by decide +kernel) (by decide) ?_
  refine o_icmp_ne (off := 13) 46 (by decide +kernel) (by decide) (fun q => ?_) (fun q => ?_)
  · replace h := h.1 q
    refine o_sub [1, 2] rfl ?_
    exact h
  · replace h := h.2 q
    refine o_aload_n (k := 0) 1 (by decide +kernel) rfl ?_
    refine f_getR (r := 368) (t := 12) (k := 39) (i := 84) (by decide +kernel) sh_345 rfl (by decide) lk_1400 (by simp [x_ty, tyX12]) (gr_12_39 sh_345) ?_
    refine o_iload_n (k := 3) 0 (by decide +kernel) rfl ?_
    refine o_aload_n (k := 0) 1 (by decide +kernel) rfl ?_
    refine f_getI (t := 12) (k := 37) (i := 223) (by decide +kernel) sh_345 rfl (by decide) lk_1398 rfl ?_
    obtain ⟨hi, h⟩ := h
    refine f_iast (by decide +kernel) sh_368 hi rfl ?_
    refine f_name (fun t5 et5 => ?_)
    replace h := h t5 et5
    refine o_sub [1, 2] rfl ?_
    exact h
set_option maxRecDepth 20000 in
theorem k_X12_turnsTo_46 {d : Nat} {K : x_T → Prop} {v1 : Int32} {τ : x_T} (h : vp_in ((τ.1 345 22) - 1) 40 ∧ (∀ t1, t1 = x_w1 τ 357 (((τ.1 345 22) - 1).toNatClampNeg) v1 → (x_CV d mX12_next [.ref 345] t1 (fun t2 => ∀ t4, t4 = x_w1 t2 345 28 1 → (K t4))))) : x_WV (d + 1) mX12_turnsTo K 46 [(0, .ref 345), (1, .int v1)] [] τ := by
  refine o_aload_n (k := 0) 0 (by decide +kernel) rfl ?_
  refine f_getR (r := 357) (t := 12) (k := 23) (i := 51) (by decide +kernel) sh_345 rfl (by decide) lk_1384 (by simp [x_ty, tyX12]) (gr_12_23 sh_345) ?_
  refine o_aload_n (k := 0) 0 (by decide +kernel) rfl ?_
  refine f_getI (t := 12) (k := 22) (i := 226) (by decide +kernel) sh_345 rfl (by decide) lk_1383 rfl ?_
  refine o_iconst (n := 1) (v := 1) (by decide +kernel) (by decide) ?_
  refine o_isub (by decide +kernel) ?_
  refine o_iload_n (k := 1) 1 (by decide +kernel) rfl ?_
  obtain ⟨hi, h⟩ := h
  refine f_iast (by decide +kernel) sh_357 hi rfl ?_
  refine f_name (fun t1 et1 => ?_)
  replace h := h t1 et1
  refine o_aload_n (k := 0) 0 (by decide +kernel) rfl ?_
  refine f_callVV (μ' := mX12_next) (i := 238) (vs := []) (by decide +kernel) lk_1543 (vok_mX12_next) sh_345 rfl rfl rfl rfl (Nat.le_of_ble_eq_true rfl) ?_
  refine x_CV.mono h (fun t2 h => ?_)
  refine o_aload_n (k := 0) 0 (by decide +kernel) rfl ?_
  refine o_iconst (n := 1) (v := 1) (by decide +kernel) (by decide) ?_
  refine f_putI (t := 12) (k := 28) (i := 261) (by decide +kernel) sh_345 rfl (by decide) lk_1389 rfl rfl ?_
  refine f_name (fun t4 et4 => ?_)
  replace h := h t4 et4
  exact f_vret rfl (by decide +kernel) rfl h
set_option maxRecDepth 20000 in
theorem e_X12_goesOn {d : Nat} {K : x_T → Prop}  {τ : x_T} (h : x_CI d mX12_top [.ref 345] τ (fun t1 a2 => (¬ t1.1 345 17 = 3 → x_WV (d + 1) mX12_goesOn K 65 [(0, .ref 345), (1, .int a2)] [] t1) ∧ (t1.1 345 17 = 3 → (t1.1 345 18 = 43 → x_WV (d + 1) mX12_goesOn K 49 [(0, .ref 345)] [] t1) ∧ (¬ t1.1 345 18 = 43 → (t1.1 345 18 = 45 → x_WV (d + 1) mX12_goesOn K 49 [(0, .ref 345)] [] t1) ∧ (¬ t1.1 345 18 = 45 → (t1.1 345 18 = 42 → x_WV (d + 1) mX12_goesOn K 49 [(0, .ref 345)] [] t1) ∧ (¬ t1.1 345 18 = 42 → (¬ t1.1 345 18 = 47 → x_WV (d + 1) mX12_goesOn K 65 [(0, .ref 345), (1, .int a2)] [] t1) ∧ (t1.1 345 18 = 47 → x_WV (d + 1) mX12_goesOn K 49 [(0, .ref 345)] [] t1))))))) : x_CV (d + 1) mX12_goesOn [.ref 345] τ K := by
  refine x_CV_of (by decide) (Nat.le_of_ble_eq_true rfl) ?_
  show x_WV (d + 1) mX12_goesOn K 0 [(0, .ref 345)] [] τ
  refine o_aload_n (k := 0) 0 (by decide +kernel) rfl ?_
  refine f_callVI (μ' := mX12_top) (i := 281) (vs := []) (by decide +kernel) lk_1623 (vok_mX12_top) sh_345 rfl rfl rfl rfl (Nat.le_of_ble_eq_true rfl) ?_
  refine x_CI.mono h (fun t1 a2 h => ?_)
  refine o_istore_n (k := 1) (L' := [(1, .int a2), (0, .ref 345)]) (by decide +kernel) (by decide) rfl ?_
  refine o_aload_n (k := 0) 1 (by decide +kernel) rfl ?_
  refine f_getI (t := 12) (k := 17) (i := 201) (by decide +kernel) sh_345 rfl (by decide) lk_1378 rfl ?_
  refine o_iconst (n := 3) (v := 3) (by decide +kernel) (by decide) ?_
  refine o_icmp_ne (off := 55) 65 (by decide +kernel) (by decide) (fun q => ?_) (fun q => ?_)
  · replace h := h.1 q
    refine o_sub [1, 0] rfl ?_
    exact h
  · replace h := h.2 q
    refine o_aload_n (k := 0) 1 (by decide +kernel) rfl ?_
    refine f_getI (t := 12) (k := 18) (i := 213) (by decide +kernel) sh_345 rfl (by decide) lk_1379 rfl ?_
    refine o_bipush (n := 43) (v := 43) (by decide +kernel) (by decide) ?_
    refine o_icmp_eq (off := 30) 49 (by decide +kernel) (by decide) (fun q => ?_) (fun q => ?_)
    · replace h := h.1 q
      refine o_sub [1] rfl ?_
      exact h
    · replace h := h.2 q
      refine o_aload_n (k := 0) 1 (by decide +kernel) rfl ?_
      refine f_getI (t := 12) (k := 18) (i := 213) (by decide +kernel) sh_345 rfl (by decide) lk_1379 rfl ?_
      refine o_bipush (n := 45) (v := 45) (by decide +kernel) (by decide) ?_
      refine o_icmp_eq (off := 21) 49 (by decide +kernel) (by decide) (fun q => ?_) (fun q => ?_)
      · replace h := h.1 q
        refine o_sub [1] rfl ?_
        exact h
      · replace h := h.2 q
        refine o_aload_n (k := 0) 1 (by decide +kernel) rfl ?_
        refine f_getI (t := 12) (k := 18) (i := 213) (by decide +kernel) sh_345 rfl (by decide) lk_1379 rfl ?_
        refine o_bipush (n := 42) (v := 42) (by decide +kernel) (by decide) ?_
        refine o_icmp_eq (off := 12) 49 (by decide +kernel) (by decide) (fun q => ?_) (fun q => ?_)
        · replace h := h.1 q
          refine o_sub [1] rfl ?_
          exact h
        · replace h := h.2 q
          refine o_aload_n (k := 0) 1 (by decide +kernel) rfl ?_
          refine f_getI (t := 12) (k := 18) (i := 213) (by decide +kernel) sh_345 rfl (by decide) lk_1379 rfl ?_
          refine o_bipush (n := 47) (v := 47) (by decide +kernel) (by decide) ?_
          refine o_icmp_ne (off := 19) 65 (by decide +kernel) (by decide) (fun q => ?_) (fun q => ?_)
          · replace h := h.1 q
            refine o_sub [1, 0] rfl ?_
            exact h
          · replace h := h.2 q
            refine o_sub [1] rfl ?_
            exact h
set_option maxRecDepth 20000 in
theorem k_X12_goesOn_49 {d : Nat} {K : x_T → Prop}  {τ : x_T} (h : x_CV d mX12_waitsFor [.ref 345, .int (τ.1 345 18)] τ (fun t1 => ∀ t3, t3 = x_w1 t1 345 28 1 → (K t3))) : x_WV (d + 1) mX12_goesOn K 49 [(0, .ref 345)] [] τ := by
  refine o_aload_n (k := 0) 0 (by decide +kernel) rfl ?_
  refine o_aload_n (k := 0) 0 (by decide +kernel) rfl ?_
  refine f_getI (t := 12) (k := 18) (i := 213) (by decide +kernel) sh_345 rfl (by decide) lk_1379 rfl ?_
  refine f_callVV (μ' := mX12_waitsFor) (i := 287) (vs := [.int (τ.1 345 18)]) (by decide +kernel) lk_1642 (vok_mX12_waitsFor) sh_345 rfl rfl rfl rfl (Nat.le_of_ble_eq_true rfl) ?_
  refine x_CV.mono h (fun t1 h => ?_)
  refine o_aload_n (k := 0) 0 (by decide +kernel) rfl ?_
  refine o_iconst (n := 1) (v := 1) (by decide +kernel) (by decide) ?_
  refine f_putI (t := 12) (k := 28) (i := 261) (by decide +kernel) sh_345 rfl (by decide) lk_1389 rfl rfl ?_
  refine f_name (fun t3 et3 => ?_)
  replace h := h t3 et3
  refine o_goto (off := 289) 351 (by decide +kernel) (by decide) ?_
  exact f_vret rfl (by decide +kernel) rfl h
set_option maxRecDepth 20000 in
theorem k_X12_goesOn_65 {d : Nat} {K : x_T → Prop} {v1 : Int32} {τ : x_T} (h : (¬ v1 = 6 → x_WV (d + 1) mX12_goesOn K 116 [(0, .ref 345), (1, .int v1)] [] τ) ∧ (v1 = 6 → x_CI d mX12_isSign [.ref 345, .int 41] τ (fun t1 a2 => (a2 = 0 → x_WV (d + 1) mX12_goesOn K 116 [(0, .ref 345), (1, .int v1)] [] t1) ∧ (¬ a2 = 0 → x_CV d mX12_works [.ref 345, .int 3] t1 (fun t3 => ∀ t5, t5 = x_w1 t3 345 22 ((t3.1 345 22) - 1) → (∀ t6, t6 = x_w1 t5 345 21 ((t5.1 345 21) - 1) → (x_CV d mX12_next [.ref 345] t6 (fun t7 => x_CV d mX12_oneIsOver [.ref 345] t7 (fun t9 => K t9))))))))) : x_WV (d + 1) mX12_goesOn K 65 [(0, .ref 345), (1, .int v1)] [] τ := by
  refine o_iload_n (k := 1) 1 (by decide +kernel) rfl ?_
  refine o_bipush (n := 6) (v := 6) (by decide +kernel) (by decide) ?_
  refine o_icmp_ne (off := 48) 116 (by decide +kernel) (by decide) (fun q => ?_) (fun q => ?_)
  · replace h := h.1 q
    exact h
  · replace h := h.2 q
    refine o_aload_n (k := 0) 0 (by decide +kernel) rfl ?_
    refine o_bipush (n := 41) (v := 41) (by decide +kernel) (by decide) ?_
    refine f_callVI (μ' := mX12_isSign) (i := 278) (vs := [.int 41]) (by decide +kernel) lk_1634 (vok_mX12_isSign) sh_345 rfl rfl rfl rfl (Nat.le_of_ble_eq_true rfl) ?_
    refine x_CI.mono h (fun t1 a2 h => ?_)
    refine o_if_eq (off := 39) 116 (by decide +kernel) (by decide) (fun q => ?_) (fun q => ?_)
    · replace h := h.1 q
      exact h
    · replace h := h.2 q
      refine o_aload_n (k := 0) 0 (by decide +kernel) rfl ?_
      refine o_iconst (n := 3) (v := 3) (by decide +kernel) (by decide) ?_
      refine f_callVV (μ' := mX12_works) (i := 252) (vs := [.int 3]) (by decide +kernel) lk_1649 (vok_mX12_works) sh_345 rfl rfl rfl rfl (Nat.le_of_ble_eq_true rfl) ?_
      refine x_CV.mono h (fun t3 h => ?_)
      refine o_aload_n (k := 0) 0 (by decide +kernel) rfl ?_
      refine o_dup (by decide +kernel) rfl ?_
      refine f_getI (t := 12) (k := 22) (i := 226) (by decide +kernel) sh_345 rfl (by decide) lk_1383 rfl ?_
      refine o_iconst (n := 1) (v := 1) (by decide +kernel) (by decide) ?_
      refine o_isub (by decide +kernel) ?_
      refine f_putI (t := 12) (k := 22) (i := 226) (by decide +kernel) sh_345 rfl (by decide) lk_1383 rfl rfl ?_
      refine f_name (fun t5 et5 => ?_)
      replace h := h t5 et5
      refine o_aload_n (k := 0) 0 (by decide +kernel) rfl ?_
      refine o_dup (by decide +kernel) rfl ?_
      refine f_getI (t := 12) (k := 21) (i := 229) (by decide +kernel) sh_345 rfl (by decide) lk_1382 rfl ?_
      refine o_iconst (n := 1) (v := 1) (by decide +kernel) (by decide) ?_
      refine o_isub (by decide +kernel) ?_
      refine f_putI (t := 12) (k := 21) (i := 229) (by decide +kernel) sh_345 rfl (by decide) lk_1382 rfl rfl ?_
      refine f_name (fun t6 et6 => ?_)
      replace h := h t6 et6
      refine o_aload_n (k := 0) 0 (by decide +kernel) rfl ?_
      refine f_callVV (μ' := mX12_next) (i := 238) (vs := []) (by decide +kernel) lk_1543 (vok_mX12_next) sh_345 rfl rfl rfl rfl (Nat.le_of_ble_eq_true rfl) ?_
      refine x_CV.mono h (fun t7 h => ?_)
      refine o_aload_n (k := 0) 0 (by decide +kernel) rfl ?_
      refine f_callVV (μ' := mX12_oneIsOver) (i := 268) (vs := []) (by decide +kernel) lk_1619 (vok_mX12_oneIsOver) sh_345 rfl rfl rfl rfl (Nat.le_of_ble_eq_true rfl) ?_
      refine x_CV.mono h (fun t9 h => ?_)
      refine o_goto (off := 238) 351 (by decide +kernel) (by decide) ?_
      exact f_vret rfl (by decide +kernel) rfl h
set_option maxRecDepth 20000 in
theorem k_X12_goesOn_116 {d : Nat} {K : x_T → Prop} {v1 : Int32} {τ : x_T} (h : (¬ v1 = 8 → x_WV (d + 1) mX12_goesOn K 148 [(0, .ref 345), (1, .int v1)] [] τ) ∧ (v1 = 8 → x_CI d mX12_isWord [.ref 345, .int 17] τ (fun t1 a2 => (a2 = 0 → x_WV (d + 1) mX12_goesOn K 148 [(0, .ref 345), (1, .int v1)] [] t1) ∧ (¬ a2 = 0 → x_CV d mX12_works [.ref 345, .int 3] t1 (fun t3 => x_CV d mX12_turnsTo [.ref 345, .int 9, .int 409] t3 (fun t5 => K t5)))))) : x_WV (d + 1) mX12_goesOn K 116 [(0, .ref 345), (1, .int v1)] [] τ := by
  refine o_iload_n (k := 1) 1 (by decide +kernel) rfl ?_
  refine o_bipush (n := 8) (v := 8) (by decide +kernel) (by decide) ?_
  refine o_icmp_ne (off := 29) 148 (by decide +kernel) (by decide) (fun q => ?_) (fun q => ?_)
  · replace h := h.1 q
    exact h
  · replace h := h.2 q
    refine o_aload_n (k := 0) 0 (by decide +kernel) rfl ?_
    refine o_bipush (n := 17) (v := 17) (by decide +kernel) (by decide) ?_
    refine f_callVI (μ' := mX12_isWord) (i := 255) (vs := [.int 17]) (by decide +kernel) lk_1591 (vok_mX12_isWord) sh_345 rfl rfl rfl rfl (Nat.le_of_ble_eq_true rfl) ?_
    refine x_CI.mono h (fun t1 a2 h => ?_)
    refine o_if_eq (off := 20) 148 (by decide +kernel) (by decide) (fun q => ?_) (fun q => ?_)
    · replace h := h.1 q
      exact h
    · replace h := h.2 q
      refine o_aload_n (k := 0) 0 (by decide +kernel) rfl ?_
      refine o_iconst (n := 3) (v := 3) (by decide +kernel) (by decide) ?_
      refine f_callVV (μ' := mX12_works) (i := 252) (vs := [.int 3]) (by decide +kernel) lk_1649 (vok_mX12_works) sh_345 rfl rfl rfl rfl (Nat.le_of_ble_eq_true rfl) ?_
      refine x_CV.mono h (fun t3 h => ?_)
      refine o_aload_n (k := 0) 0 (by decide +kernel) rfl ?_
      refine o_bipush (n := 9) (v := 9) (by decide +kernel) (by decide) ?_
      refine o_sipush (n := 409) (v := 409) (by decide +kernel) (by decide) ?_
      refine f_callVV (μ' := mX12_turnsTo) (i := 290) (vs := [.int 9, .int 409]) (by decide +kernel) lk_1653 (vok_mX12_turnsTo) sh_345 rfl rfl rfl rfl (Nat.le_of_ble_eq_true rfl) ?_
      refine x_CV.mono h (fun t5 h => ?_)
      refine o_goto (off := 206) 351 (by decide +kernel) (by decide) ?_
      exact f_vret rfl (by decide +kernel) rfl h
set_option maxRecDepth 20000 in
theorem k_X12_goesOn_148 {d : Nat} {K : x_T → Prop} {v1 : Int32} {τ : x_T} (h : (¬ v1 = 9 → x_WV (d + 1) mX12_goesOn K 217 [(0, .ref 345), (1, .int v1)] [] τ) ∧ (v1 = 9 → x_CI d mX12_isWord [.ref 345, .int 18] τ (fun t1 a2 => (a2 = 0 → x_WV (d + 1) mX12_goesOn K 217 [(0, .ref 345), (1, .int v1)] [] t1) ∧ (¬ a2 = 0 → x_CV d mX12_works [.ref 345, .int 3] t1 (fun t3 => vp_in (t3.1 345 22) 41 ∧ (vp_in (t3.1 361 (t3.1 345 22).toNatClampNeg) 400 ∧ (∀ t5, t5 = x_w1 t3 368 ((t3.1 361 (t3.1 345 22).toNatClampNeg).toNatClampNeg) (t3.1 345 37) → (∀ t6, t6 = x_w1 t5 345 22 ((t5.1 345 22) - 1) → (∀ t7, t7 = x_w1 t6 345 21 ((t6.1 345 21) - 1) → (x_CV d mX12_next [.ref 345] t7 (fun t8 => x_CV d mX12_oneIsOver [.ref 345] t8 (fun t10 => K t10)))))))))))) : x_WV (d + 1) mX12_goesOn K 148 [(0, .ref 345), (1, .int v1)] [] τ := by
  refine o_iload_n (k := 1) 1 (by decide +kernel) rfl ?_
  refine o_bipush (n := 9) (v := 9) (by decide +kernel) (by decide) ?_
  refine o_icmp_ne (off := 66) 217 (by decide +kernel) (by decide) (fun q => ?_) (fun q => ?_)
  · replace h := h.1 q
    exact h
  · replace h := h.2 q
    refine o_aload_n (k := 0) 0 (by decide +kernel) rfl ?_
    refine o_bipush (n := 18) (v := 18) (by decide +kernel) (by decide) ?_
    refine f_callVI (μ' := mX12_isWord) (i := 255) (vs := [.int 18]) (by decide +kernel) lk_1591 (vok_mX12_isWord) sh_345 rfl rfl rfl rfl (Nat.le_of_ble_eq_true rfl) ?_
    refine x_CI.mono h (fun t1 a2 h => ?_)
    refine o_if_eq (off := 57) 217 (by decide +kernel) (by decide) (fun q => ?_) (fun q => ?_)
    · replace h := h.1 q
      exact h
    · replace h := h.2 q
      refine o_aload_n (k := 0) 0 (by decide +kernel) rfl ?_
      refine o_iconst (n := 3) (v := 3) (by decide +kernel) (by decide) ?_
      refine f_callVV (μ' := mX12_works) (i := 252) (vs := [.int 3]) (by decide +kernel) lk_1649 (vok_mX12_works) sh_345 rfl rfl rfl rfl (Nat.le_of_ble_eq_true rfl) ?_
      refine x_CV.mono h (fun t3 h => ?_)
      refine o_aload_n (k := 0) 0 (by decide +kernel) rfl ?_
      refine f_getR (r := 368) (t := 12) (k := 39) (i := 84) (by decide +kernel) sh_345 rfl (by decide) lk_1400 (by simp [x_ty, tyX12]) (gr_12_39 sh_345) ?_
      refine o_aload_n (k := 0) 0 (by decide +kernel) rfl ?_
      refine f_getR (r := 361) (t := 12) (k := 29) (i := 63) (by decide +kernel) sh_345 rfl (by decide) lk_1390 (by simp [x_ty, tyX12]) (gr_12_29 sh_345) ?_
      refine o_aload_n (k := 0) 0 (by decide +kernel) rfl ?_
      refine f_getI (t := 12) (k := 22) (i := 226) (by decide +kernel) sh_345 rfl (by decide) lk_1383 rfl ?_
      obtain ⟨hi, h⟩ := h
      refine f_iald (by decide +kernel) sh_361 hi rfl ?_
      refine o_aload_n (k := 0) 0 (by decide +kernel) rfl ?_
      refine f_getI (t := 12) (k := 37) (i := 223) (by decide +kernel) sh_345 rfl (by decide) lk_1398 rfl ?_
      obtain ⟨hi, h⟩ := h
      refine f_iast (by decide +kernel) sh_368 hi rfl ?_
      refine f_name (fun t5 et5 => ?_)
      replace h := h t5 et5
      refine o_aload_n (k := 0) 0 (by decide +kernel) rfl ?_
      refine o_dup (by decide +kernel) rfl ?_
      refine f_getI (t := 12) (k := 22) (i := 226) (by decide +kernel) sh_345 rfl (by decide) lk_1383 rfl ?_
      refine o_iconst (n := 1) (v := 1) (by decide +kernel) (by decide) ?_
      refine o_isub (by decide +kernel) ?_
      refine f_putI (t := 12) (k := 22) (i := 226) (by decide +kernel) sh_345 rfl (by decide) lk_1383 rfl rfl ?_
      refine f_name (fun t6 et6 => ?_)
      replace h := h t6 et6
      refine o_aload_n (k := 0) 0 (by decide +kernel) rfl ?_
      refine o_dup (by decide +kernel) rfl ?_
      refine f_getI (t := 12) (k := 21) (i := 229) (by decide +kernel) sh_345 rfl (by decide) lk_1382 rfl ?_
      refine o_iconst (n := 1) (v := 1) (by decide +kernel) (by decide) ?_
      refine o_isub (by decide +kernel) ?_
      refine f_putI (t := 12) (k := 21) (i := 229) (by decide +kernel) sh_345 rfl (by decide) lk_1382 rfl rfl ?_
      refine f_name (fun t7 et7 => ?_)
      replace h := h t7 et7
      refine o_aload_n (k := 0) 0 (by decide +kernel) rfl ?_
      refine f_callVV (μ' := mX12_next) (i := 238) (vs := []) (by decide +kernel) lk_1543 (vok_mX12_next) sh_345 rfl rfl rfl rfl (Nat.le_of_ble_eq_true rfl) ?_
      refine x_CV.mono h (fun t8 h => ?_)
      refine o_aload_n (k := 0) 0 (by decide +kernel) rfl ?_
      refine f_callVV (μ' := mX12_oneIsOver) (i := 268) (vs := []) (by decide +kernel) lk_1619 (vok_mX12_oneIsOver) sh_345 rfl rfl rfl rfl (Nat.le_of_ble_eq_true rfl) ?_
      refine x_CV.mono h (fun t10 h => ?_)
      refine o_goto (off := 137) 351 (by decide +kernel) (by decide) ?_
      exact f_vret rfl (by decide +kernel) rfl h
set_option maxRecDepth 20000 in
theorem k_X12_goesOn_217 {d : Nat} {K : x_T → Prop} {v1 : Int32} {τ : x_T} (h : (¬ v1 = 4 → x_WV (d + 1) mX12_goesOn K 282 [(0, .ref 345), (1, .int v1)] [] τ) ∧ (v1 = 4 → (¬ τ.1 345 17 = 3 → x_WV (d + 1) mX12_goesOn K 282 [(0, .ref 345), (1, .int v1)] [] τ) ∧ (τ.1 345 17 = 3 → x_CI d mX12_isAsking [.int (τ.1 345 18)] τ (fun t1 a2 => (a2 = 0 → x_WV (d + 1) mX12_goesOn K 282 [(0, .ref 345), (1, .int v1)] [] t1) ∧ (¬ a2 = 0 → x_CV d mX12_works [.ref 345, .int 3] t1 (fun t3 => vp_in (t3.1 345 22) 41 ∧ (∀ t5, t5 = x_w1 t3 358 ((t3.1 345 22).toNatClampNeg) (t3.1 345 18) → (vp_in ((t5.1 345 22) - 1) 40 ∧ (∀ t6, t6 = x_w1 t5 357 (((t5.1 345 22) - 1).toNatClampNeg) 5 → (x_CV d mX12_next [.ref 345] t6 (fun t7 => ∀ t9, t9 = x_w1 t7 345 28 1 → (K t9)))))))))))) : x_WV (d + 1) mX12_goesOn K 217 [(0, .ref 345), (1, .int v1)] [] τ := by
  refine o_iload_n (k := 1) 1 (by decide +kernel) rfl ?_
  refine o_iconst (n := 4) (v := 4) (by decide +kernel) (by decide) ?_
  refine o_icmp_ne (off := 63) 282 (by decide +kernel) (by decide) (fun q => ?_) (fun q => ?_)
  · replace h := h.1 q
    exact h
  · replace h := h.2 q
    refine o_aload_n (k := 0) 0 (by decide +kernel) rfl ?_
    refine f_getI (t := 12) (k := 17) (i := 201) (by decide +kernel) sh_345 rfl (by decide) lk_1378 rfl ?_
    refine o_iconst (n := 3) (v := 3) (by decide +kernel) (by decide) ?_
    refine o_icmp_ne (off := 55) 282 (by decide +kernel) (by decide) (fun q => ?_) (fun q => ?_)
    · replace h := h.1 q
      exact h
    · replace h := h.2 q
      refine o_aload_n (k := 0) 0 (by decide +kernel) rfl ?_
      refine f_getI (t := 12) (k := 18) (i := 213) (by decide +kernel) sh_345 rfl (by decide) lk_1379 rfl ?_
      refine f_callSI (μ' := mX12_isAsking) (i := 293) (vs := [.int (τ.1 345 18)]) (by decide +kernel) lk_1657 (cok_mX12_isAsking) rfl (stt_mX12_isAsking) rfl rfl (Nat.le_of_ble_eq_true rfl) ?_
      refine x_CI.mono h (fun t1 a2 h => ?_)
      refine o_if_eq (off := 45) 282 (by decide +kernel) (by decide) (fun q => ?_) (fun q => ?_)
      · replace h := h.1 q
        exact h
      · replace h := h.2 q
        refine o_aload_n (k := 0) 0 (by decide +kernel) rfl ?_
        refine o_iconst (n := 3) (v := 3) (by decide +kernel) (by decide) ?_
        refine f_callVV (μ' := mX12_works) (i := 252) (vs := [.int 3]) (by decide +kernel) lk_1649 (vok_mX12_works) sh_345 rfl rfl rfl rfl (Nat.le_of_ble_eq_true rfl) ?_
        refine x_CV.mono h (fun t3 h => ?_)
        refine o_aload_n (k := 0) 0 (by decide +kernel) rfl ?_
        refine f_getR (r := 358) (t := 12) (k := 24) (i := 54) (by decide +kernel) sh_345 rfl (by decide) lk_1385 (by simp [x_ty, tyX12]) (gr_12_24 sh_345) ?_
        refine o_aload_n (k := 0) 0 (by decide +kernel) rfl ?_
        refine f_getI (t := 12) (k := 22) (i := 226) (by decide +kernel) sh_345 rfl (by decide) lk_1383 rfl ?_
        refine o_aload_n (k := 0) 0 (by decide +kernel) rfl ?_
        refine f_getI (t := 12) (k := 18) (i := 213) (by decide +kernel) sh_345 rfl (by decide) lk_1379 rfl ?_
        obtain ⟨hi, h⟩ := h
        refine f_iast (by decide +kernel) sh_358 hi rfl ?_
        refine f_name (fun t5 et5 => ?_)
        replace h := h t5 et5
        refine o_aload_n (k := 0) 0 (by decide +kernel) rfl ?_
        refine f_getR (r := 357) (t := 12) (k := 23) (i := 51) (by decide +kernel) sh_345 rfl (by decide) lk_1384 (by simp [x_ty, tyX12]) (gr_12_23 sh_345) ?_
        refine o_aload_n (k := 0) 0 (by decide +kernel) rfl ?_
        refine f_getI (t := 12) (k := 22) (i := 226) (by decide +kernel) sh_345 rfl (by decide) lk_1383 rfl ?_
        refine o_iconst (n := 1) (v := 1) (by decide +kernel) (by decide) ?_
        refine o_isub (by decide +kernel) ?_
        refine o_iconst (n := 5) (v := 5) (by decide +kernel) (by decide) ?_
        obtain ⟨hi, h⟩ := h
        refine f_iast (by decide +kernel) sh_357 hi rfl ?_
        refine f_name (fun t6 et6 => ?_)
        replace h := h t6 et6
        refine o_aload_n (k := 0) 0 (by decide +kernel) rfl ?_
        refine f_callVV (μ' := mX12_next) (i := 238) (vs := []) (by decide +kernel) lk_1543 (vok_mX12_next) sh_345 rfl rfl rfl rfl (Nat.le_of_ble_eq_true rfl) ?_
        refine x_CV.mono h (fun t7 h => ?_)
        refine o_aload_n (k := 0) 0 (by decide +kernel) rfl ?_
        refine o_iconst (n := 1) (v := 1) (by decide +kernel) (by decide) ?_
        refine f_putI (t := 12) (k := 28) (i := 261) (by decide +kernel) sh_345 rfl (by decide) lk_1389 rfl rfl ?_
        refine f_name (fun t9 et9 => ?_)
        replace h := h t9 et9
        refine o_goto (off := 72) 351 (by decide +kernel) (by decide) ?_
        exact f_vret rfl (by decide +kernel) rfl h
set_option maxRecDepth 20000 in
theorem k_X12_goesOn_282 {d : Nat} {K : x_T → Prop} {v1 : Int32} {τ : x_T} (h : (¬ v1 = 5 → (¬ v1 = 1 → x_WV (d + 1) mX12_goesOn K 346 [(0, .ref 345)] [] τ) ∧ (v1 = 1 → x_CI d mX12_isSign [.ref 345, .int 59] τ (fun t1 a2 => (a2 = 0 → x_WV (d + 1) mX12_goesOn K 346 [(0, .ref 345)] [] t1) ∧ (¬ a2 = 0 → x_CV d mX12_clauseIsOver [.ref 345] t1 (fun t3 => K t3))))) ∧ (v1 = 5 → x_CV d mX12_works [.ref 345, .int 3] τ (fun t5 => vp_in (t5.1 345 22) 41 ∧ (∀ y7, y7 = t5.1 358 (t5.1 345 22).toNatClampNeg → (∀ t8, t8 = x_w1 t5 345 22 ((t5.1 345 22) - 1) → (x_CV d mX12_emits [.ref 345, .int y7, .int 0] t8 (fun t9 => x_CV d mX12_askIsOver [.ref 345] t9 (fun t11 => K t11)))))))) : x_WV (d + 1) mX12_goesOn K 282 [(0, .ref 345), (1, .int v1)] [] τ := by
  refine o_iload_n (k := 1) 1 (by decide +kernel) rfl ?_
  refine o_iconst (n := 5) (v := 5) (by decide +kernel) (by decide) ?_
  refine o_icmp_ne (off := 41) 325 (by decide +kernel) (by decide) (fun q => ?_) (fun q => ?_)
  · replace h := h.1 q
    refine o_iload_n (k := 1) 1 (by decide +kernel) rfl ?_
    refine o_iconst (n := 1) (v := 1) (by decide +kernel) (by decide) ?_
    refine o_icmp_ne (off := 19) 346 (by decide +kernel) (by decide) (fun q => ?_) (fun q => ?_)
    · replace h := h.1 q
      refine o_sub [0] rfl ?_
      exact h
    · replace h := h.2 q
      refine o_aload_n (k := 0) 0 (by decide +kernel) rfl ?_
      refine o_bipush (n := 59) (v := 59) (by decide +kernel) (by decide) ?_
      refine f_callVI (μ' := mX12_isSign) (i := 278) (vs := [.int 59]) (by decide +kernel) lk_1634 (vok_mX12_isSign) sh_345 rfl rfl rfl rfl (Nat.le_of_ble_eq_true rfl) ?_
      refine x_CI.mono h (fun t1 a2 h => ?_)
      refine o_if_eq (off := 10) 346 (by decide +kernel) (by decide) (fun q => ?_) (fun q => ?_)
      · replace h := h.1 q
        refine o_sub [0] rfl ?_
        exact h
      · replace h := h.2 q
        refine o_aload_n (k := 0) 0 (by decide +kernel) rfl ?_
        refine f_callVV (μ' := mX12_clauseIsOver) (i := 299) (vs := []) (by decide +kernel) lk_1664 (vok_mX12_clauseIsOver) sh_345 rfl rfl rfl rfl (Nat.le_of_ble_eq_true rfl) ?_
        refine x_CV.mono h (fun t3 h => ?_)
        refine o_goto (off := 8) 351 (by decide +kernel) (by decide) ?_
        exact f_vret rfl (by decide +kernel) rfl h
  · replace h := h.2 q
    refine o_aload_n (k := 0) 0 (by decide +kernel) rfl ?_
    refine o_iconst (n := 3) (v := 3) (by decide +kernel) (by decide) ?_
    refine f_callVV (μ' := mX12_works) (i := 252) (vs := [.int 3]) (by decide +kernel) lk_1649 (vok_mX12_works) sh_345 rfl rfl rfl rfl (Nat.le_of_ble_eq_true rfl) ?_
    refine x_CV.mono h (fun t5 h => ?_)
    refine o_aload_n (k := 0) 0 (by decide +kernel) rfl ?_
    refine f_getR (r := 358) (t := 12) (k := 24) (i := 54) (by decide +kernel) sh_345 rfl (by decide) lk_1385 (by simp [x_ty, tyX12]) (gr_12_24 sh_345) ?_
    refine o_aload_n (k := 0) 0 (by decide +kernel) rfl ?_
    refine f_getI (t := 12) (k := 22) (i := 226) (by decide +kernel) sh_345 rfl (by decide) lk_1383 rfl ?_
    obtain ⟨hi, h⟩ := h
    refine f_iald (by decide +kernel) sh_358 hi rfl ?_
    refine o_name (fun y7 ey7 => ?_)
    replace h := h y7 ey7
    refine o_istore_n (k := 2) (L' := [(2, .int y7), (0, .ref 345), (1, .int v1)]) (by decide +kernel) (by decide) rfl ?_
    refine o_aload_n (k := 0) 1 (by decide +kernel) rfl ?_
    refine o_dup (by decide +kernel) rfl ?_
    refine f_getI (t := 12) (k := 22) (i := 226) (by decide +kernel) sh_345 rfl (by decide) lk_1383 rfl ?_
    refine o_iconst (n := 1) (v := 1) (by decide +kernel) (by decide) ?_
    refine o_isub (by decide +kernel) ?_
    refine f_putI (t := 12) (k := 22) (i := 226) (by decide +kernel) sh_345 rfl (by decide) lk_1383 rfl rfl ?_
    refine f_name (fun t8 et8 => ?_)
    replace h := h t8 et8
    refine o_aload_n (k := 0) 1 (by decide +kernel) rfl ?_
    refine o_iload_n (k := 2) 0 (by decide +kernel) rfl ?_
    refine o_iconst (n := 0) (v := 0) (by decide +kernel) (by decide) ?_
    refine f_callVV (μ' := mX12_emits) (i := 248) (vs := [.int y7, .int 0]) (by decide +kernel) lk_1615 (vok_mX12_emits) sh_345 rfl rfl rfl rfl (Nat.le_of_ble_eq_true rfl) ?_
    refine x_CV.mono h (fun t9 h => ?_)
    refine o_aload_n (k := 0) 1 (by decide +kernel) rfl ?_
    refine f_callVV (μ' := mX12_askIsOver) (i := 296) (vs := []) (by decide +kernel) lk_1660 (vok_mX12_askIsOver) sh_345 rfl rfl rfl rfl (Nat.le_of_ble_eq_true rfl) ?_
    refine x_CV.mono h (fun t11 h => ?_)
    refine o_goto (off := 29) 351 (by decide +kernel) (by decide) ?_
    exact f_vret rfl (by decide +kernel) rfl h
set_option maxRecDepth 20000 in
theorem k_X12_goesOn_346 {d : Nat} {K : x_T → Prop}  {τ : x_T} (h : x_CV d mX12_errs [.ref 345, .int 1] τ (fun t1 => K t1)) : x_WV (d + 1) mX12_goesOn K 346 [(0, .ref 345)] [] τ := by
  refine o_aload_n (k := 0) 0 (by decide +kernel) rfl ?_
  refine o_iconst (n := 1) (v := 1) (by decide +kernel) (by decide) ?_
  refine f_callVV (μ' := mX12_errs) (i := 232) (vs := [.int 1]) (by decide +kernel) lk_1599 (vok_mX12_errs) sh_345 rfl rfl rfl rfl (Nat.le_of_ble_eq_true rfl) ?_
  refine x_CV.mono h (fun t1 h => ?_)
  exact f_vret rfl (by decide +kernel) rfl h
set_option maxRecDepth 20000 in
theorem e_X12_asksOn {d : Nat} {K : x_T → Prop}  {τ : x_T} (h : x_CI d mX12_isWord [.ref 345, .int 19] τ (fun t1 a2 => (¬ a2 = 0 → x_WV (d + 1) mX12_asksOn K 18 [(0, .ref 345)] [] t1) ∧ (a2 = 0 → x_CI d mX12_isWord [.ref 345, .int 20] t1 (fun t3 a4 => (a4 = 0 → x_CI d mX12_top [.ref 345] t3 (fun t5 a6 => (¬ a6 = 2 → x_WV (d + 1) mX12_asksOn K 82 [(0, .ref 345)] [] t5) ∧ (a6 = 2 → x_CI d mX12_isWord [.ref 345, .int 16] t5 (fun t7 a8 => (a8 = 0 → x_WV (d + 1) mX12_asksOn K 82 [(0, .ref 345)] [] t7) ∧ (¬ a8 = 0 → x_CV d mX12_works [.ref 345, .int 1] t7 (fun t9 => x_CV d mX12_turnsTo [.ref 345, .int 8, .int 404] t9 (fun t11 => K t11))))))) ∧ (¬ a4 = 0 → x_WV (d + 1) mX12_asksOn K 18 [(0, .ref 345)] [] t3))))) : x_CV (d + 1) mX12_asksOn [.ref 345] τ K := by
  refine x_CV_of (by decide) (Nat.le_of_ble_eq_true rfl) ?_
  show x_WV (d + 1) mX12_asksOn K 0 [(0, .ref 345)] [] τ
  refine o_aload_n (k := 0) 0 (by decide +kernel) rfl ?_
  refine o_bipush (n := 19) (v := 19) (by decide +kernel) (by decide) ?_
  refine f_callVI (μ' := mX12_isWord) (i := 255) (vs := [.int 19]) (by decide +kernel) lk_1591 (vok_mX12_isWord) sh_345 rfl rfl rfl rfl (Nat.le_of_ble_eq_true rfl) ?_
  refine x_CI.mono h (fun t1 a2 h => ?_)
  refine o_if_ne (off := 12) 18 (by decide +kernel) (by decide) (fun q => ?_) (fun q => ?_)
  · replace h := h.1 q
    exact h
  · replace h := h.2 q
    refine o_aload_n (k := 0) 0 (by decide +kernel) rfl ?_
    refine o_bipush (n := 20) (v := 20) (by decide +kernel) (by decide) ?_
    refine f_callVI (μ' := mX12_isWord) (i := 255) (vs := [.int 20]) (by decide +kernel) lk_1591 (vok_mX12_isWord) sh_345 rfl rfl rfl rfl (Nat.le_of_ble_eq_true rfl) ?_
    refine x_CI.mono h (fun t3 a4 h => ?_)
    refine o_if_eq (off := 33) 48 (by decide +kernel) (by decide) (fun q => ?_) (fun q => ?_)
    · replace h := h.1 q
      refine o_aload_n (k := 0) 0 (by decide +kernel) rfl ?_
      refine f_callVI (μ' := mX12_top) (i := 281) (vs := []) (by decide +kernel) lk_1623 (vok_mX12_top) sh_345 rfl rfl rfl rfl (Nat.le_of_ble_eq_true rfl) ?_
      refine x_CI.mono h (fun t5 a6 h => ?_)
      refine o_iconst (n := 2) (v := 2) (by decide +kernel) (by decide) ?_
      refine o_icmp_ne (off := 29) 82 (by decide +kernel) (by decide) (fun q => ?_) (fun q => ?_)
      · replace h := h.1 q
        exact h
      · replace h := h.2 q
        refine o_aload_n (k := 0) 0 (by decide +kernel) rfl ?_
        refine o_bipush (n := 16) (v := 16) (by decide +kernel) (by decide) ?_
        refine f_callVI (μ' := mX12_isWord) (i := 255) (vs := [.int 16]) (by decide +kernel) lk_1591 (vok_mX12_isWord) sh_345 rfl rfl rfl rfl (Nat.le_of_ble_eq_true rfl) ?_
        refine x_CI.mono h (fun t7 a8 h => ?_)
        refine o_if_eq (off := 20) 82 (by decide +kernel) (by decide) (fun q => ?_) (fun q => ?_)
        · replace h := h.1 q
          exact h
        · replace h := h.2 q
          refine o_aload_n (k := 0) 0 (by decide +kernel) rfl ?_
          refine o_iconst (n := 1) (v := 1) (by decide +kernel) (by decide) ?_
          refine f_callVV (μ' := mX12_works) (i := 252) (vs := [.int 1]) (by decide +kernel) lk_1649 (vok_mX12_works) sh_345 rfl rfl rfl rfl (Nat.le_of_ble_eq_true rfl) ?_
          refine x_CV.mono h (fun t9 h => ?_)
          refine o_aload_n (k := 0) 0 (by decide +kernel) rfl ?_
          refine o_bipush (n := 8) (v := 8) (by decide +kernel) (by decide) ?_
          refine o_sipush (n := 404) (v := 404) (by decide +kernel) (by decide) ?_
          refine f_callVV (μ' := mX12_turnsTo) (i := 290) (vs := [.int 8, .int 404]) (by decide +kernel) lk_1653 (vok_mX12_turnsTo) sh_345 rfl rfl rfl rfl (Nat.le_of_ble_eq_true rfl) ?_
          refine x_CV.mono h (fun t11 h => ?_)
          refine o_goto (off := 8) 87 (by decide +kernel) (by decide) ?_
          exact f_vret rfl (by decide +kernel) rfl h
    · replace h := h.2 q
      exact h
set_option maxRecDepth 20000 in
theorem k_X12_asksOn_18 {d : Nat} {K : x_T → Prop}  {τ : x_T} (h : x_CI d mX12_isWord [.ref 345, .int 19] τ (fun t1 a2 => (a2 = 0 → x_WV (d + 1) mX12_asksOn K 37 [(0, .ref 345)] [.int 406, .ref 345] t1) ∧ (¬ a2 = 0 → x_WV (d + 1) mX12_asksOn K 37 [(0, .ref 345)] [.int 407, .ref 345] t1))) : x_WV (d + 1) mX12_asksOn K 18 [(0, .ref 345)] [] τ := by
  refine o_aload_n (k := 0) 0 (by decide +kernel) rfl ?_
  refine o_aload_n (k := 0) 0 (by decide +kernel) rfl ?_
  refine o_bipush (n := 19) (v := 19) (by decide +kernel) (by decide) ?_
  refine f_callVI (μ' := mX12_isWord) (i := 255) (vs := [.int 19]) (by decide +kernel) lk_1591 (vok_mX12_isWord) sh_345 rfl rfl rfl rfl (Nat.le_of_ble_eq_true rfl) ?_
  refine x_CI.mono h (fun t1 a2 h => ?_)
  refine o_if_eq (off := 9) 34 (by decide +kernel) (by decide) (fun q => ?_) (fun q => ?_)
  · replace h := h.1 q
    refine o_sipush (n := 406) (v := 406) (by decide +kernel) (by decide) ?_
    exact h
  · replace h := h.2 q
    refine o_sipush (n := 407) (v := 407) (by decide +kernel) (by decide) ?_
    refine o_goto (off := 6) 37 (by decide +kernel) (by decide) ?_
    exact h
set_option maxRecDepth 20000 in
theorem k_X12_asksOn_37 {d : Nat} {K : x_T → Prop} {s0 : Int32} {τ : x_T} (h : x_CV d mX12_waitsFor [.ref 345, .int s0] τ (fun t1 => ∀ t3, t3 = x_w1 t1 345 28 0 → (K t3))) : x_WV (d + 1) mX12_asksOn K 37 [(0, .ref 345)] [.int s0, .ref 345] τ := by
  refine f_callVV (μ' := mX12_waitsFor) (i := 287) (vs := [.int s0]) (by decide +kernel) lk_1642 (vok_mX12_waitsFor) sh_345 rfl rfl rfl rfl (Nat.le_of_ble_eq_true rfl) ?_
  refine x_CV.mono h (fun t1 h => ?_)
  refine o_aload_n (k := 0) 0 (by decide +kernel) rfl ?_
  refine o_iconst (n := 0) (v := 0) (by decide +kernel) (by decide) ?_
  refine f_putI (t := 12) (k := 28) (i := 261) (by decide +kernel) sh_345 rfl (by decide) lk_1389 rfl rfl ?_
  refine f_name (fun t3 et3 => ?_)
  replace h := h t3 et3
  refine o_goto (off := 42) 87 (by decide +kernel) (by decide) ?_
  exact f_vret rfl (by decide +kernel) rfl h
set_option maxRecDepth 20000 in
theorem k_X12_asksOn_82 {d : Nat} {K : x_T → Prop}  {τ : x_T} (h : x_CV d mX12_errs [.ref 345, .int 1] τ (fun t1 => K t1)) : x_WV (d + 1) mX12_asksOn K 82 [(0, .ref 345)] [] τ := by
  refine o_aload_n (k := 0) 0 (by decide +kernel) rfl ?_
  refine o_iconst (n := 1) (v := 1) (by decide +kernel) (by decide) ?_
  refine f_callVV (μ' := mX12_errs) (i := 232) (vs := [.int 1]) (by decide +kernel) lk_1599 (vok_mX12_errs) sh_345 rfl rfl rfl rfl (Nat.le_of_ble_eq_true rfl) ?_
  refine x_CV.mono h (fun t1 h => ?_)
  exact f_vret rfl (by decide +kernel) rfl h
set_option maxRecDepth 20000 in
theorem e_X12_clauseIsOver {d : Nat} {K : x_T → Prop}  {τ : x_T} (h : x_CV d mX12_works [.ref 345, .int 1] τ (fun t1 => ∀ t3, t3 = x_w1 t1 345 22 0 → (x_CV d mX12_emits [.ref 345, .int 408, .int 0] t3 (fun t4 => ∀ t6, t6 = x_w1 t4 345 30 ((t4.1 345 30) + 1) → (x_CV d mX12_next [.ref 345] t6 (fun t7 => ∀ t9, t9 = x_w1 t7 345 28 4 → (K t9))))))) : x_CV (d + 1) mX12_clauseIsOver [.ref 345] τ K := by
  refine x_CV_of (by decide) (Nat.le_of_ble_eq_true rfl) ?_
  show x_WV (d + 1) mX12_clauseIsOver K 0 [(0, .ref 345)] [] τ
  refine o_aload_n (k := 0) 0 (by decide +kernel) rfl ?_
  refine o_iconst (n := 1) (v := 1) (by decide +kernel) (by decide) ?_
  refine f_callVV (μ' := mX12_works) (i := 252) (vs := [.int 1]) (by decide +kernel) lk_1649 (vok_mX12_works) sh_345 rfl rfl rfl rfl (Nat.le_of_ble_eq_true rfl) ?_
  refine x_CV.mono h (fun t1 h => ?_)
  refine o_aload_n (k := 0) 0 (by decide +kernel) rfl ?_
  refine o_iconst (n := 0) (v := 0) (by decide +kernel) (by decide) ?_
  refine f_putI (t := 12) (k := 22) (i := 226) (by decide +kernel) sh_345 rfl (by decide) lk_1383 rfl rfl ?_
  refine f_name (fun t3 et3 => ?_)
  replace h := h t3 et3
  refine o_aload_n (k := 0) 0 (by decide +kernel) rfl ?_
  refine o_sipush (n := 408) (v := 408) (by decide +kernel) (by decide) ?_
  refine o_iconst (n := 0) (v := 0) (by decide +kernel) (by decide) ?_
  refine f_callVV (μ' := mX12_emits) (i := 248) (vs := [.int 408, .int 0]) (by decide +kernel) lk_1615 (vok_mX12_emits) sh_345 rfl rfl rfl rfl (Nat.le_of_ble_eq_true rfl) ?_
  refine x_CV.mono h (fun t4 h => ?_)
  refine o_aload_n (k := 0) 0 (by decide +kernel) rfl ?_
  refine o_dup (by decide +kernel) rfl ?_
  refine f_getI (t := 12) (k := 30) (i := 302) (by decide +kernel) sh_345 rfl (by decide) lk_1391 rfl ?_
  refine o_iconst (n := 1) (v := 1) (by decide +kernel) (by decide) ?_
  refine o_iadd (by decide +kernel) ?_
  refine f_putI (t := 12) (k := 30) (i := 302) (by decide +kernel) sh_345 rfl (by decide) lk_1391 rfl rfl ?_
  refine f_name (fun t6 et6 => ?_)
  replace h := h t6 et6
  refine o_aload_n (k := 0) 0 (by decide +kernel) rfl ?_
  refine f_callVV (μ' := mX12_next) (i := 238) (vs := []) (by decide +kernel) lk_1543 (vok_mX12_next) sh_345 rfl rfl rfl rfl (Nat.le_of_ble_eq_true rfl) ?_
  refine x_CV.mono h (fun t7 h => ?_)
  refine o_aload_n (k := 0) 0 (by decide +kernel) rfl ?_
  refine o_iconst (n := 4) (v := 4) (by decide +kernel) (by decide) ?_
  refine f_putI (t := 12) (k := 28) (i := 261) (by decide +kernel) sh_345 rfl (by decide) lk_1389 rfl rfl ?_
  refine f_name (fun t9 et9 => ?_)
  replace h := h t9 et9
  exact f_vret rfl (by decide +kernel) rfl h
set_option maxRecDepth 20000 in
theorem e_X12_number {d : Nat} {K : x_T → Int32 → Prop} {v1 : Int32} {v2 : Int32} {τ : x_T} (h : (0 < τ.1 345 19 → x_WI (d + 1) mX12_number K 15 [(0, .ref 345), (1, .int v1)] [] τ) ∧ (¬ 0 < τ.1 345 19 → (τ.1 345 17 = 2 → x_CI d mX12_in [.int (τ.1 345 18), .int v1, .int v2] τ (fun t1 a2 => (¬ a2 = 0 → ∀ y3, y3 = t1.1 345 18 → (x_CV d mX12_next [.ref 345] t1 (fun t4 => K t4 y3))) ∧ (a2 = 0 → x_CV d mX12_errs [.ref 345, .int 2] t1 (fun t6 => K t6 v1)))) ∧ (¬ τ.1 345 17 = 2 → x_WI (d + 1) mX12_number K 15 [(0, .ref 345), (1, .int v1)] [] τ))) : x_CI (d + 1) mX12_number [.ref 345, .int v1, .int v2] τ K := by
  refine x_CI_of (by decide) (Nat.le_of_ble_eq_true rfl) ?_
  show x_WI (d + 1) mX12_number K 0 [(0, .ref 345), (1, .int v1), (2, .int v2)] [] τ
  refine o_aload_n (k := 0) 0 (by decide +kernel) rfl ?_
  refine f_getI (t := 12) (k := 19) (i := 217) (by decide +kernel) sh_345 rfl (by decide) lk_1380 rfl ?_
  refine o_if_gt (off := 11) 15 (by decide +kernel) (by decide) (fun q => ?_) (fun q => ?_)
  · replace h := h.1 q
    refine o_sub [0, 1] rfl ?_
    exact h
  · replace h := h.2 q
    refine o_aload_n (k := 0) 0 (by decide +kernel) rfl ?_
    refine f_getI (t := 12) (k := 17) (i := 201) (by decide +kernel) sh_345 rfl (by decide) lk_1378 rfl ?_
    refine o_iconst (n := 2) (v := 2) (by decide +kernel) (by decide) ?_
    refine o_icmp_eq (off := 10) 22 (by decide +kernel) (by decide) (fun q => ?_) (fun q => ?_)
    · replace h := h.1 q
      refine o_aload_n (k := 0) 0 (by decide +kernel) rfl ?_
      refine f_getI (t := 12) (k := 18) (i := 213) (by decide +kernel) sh_345 rfl (by decide) lk_1379 rfl ?_
      refine o_iload_n (k := 1) 1 (by decide +kernel) rfl ?_
      refine o_iload_n (k := 2) 2 (by decide +kernel) rfl ?_
      refine f_callSI (μ' := mX12_in) (i := 113) (vs := [.int (τ.1 345 18), .int v1, .int v2]) (by decide +kernel) lk_1508 (cok_mX12_in) rfl (stt_mX12_in) rfl rfl (Nat.le_of_ble_eq_true rfl) ?_
      refine x_CI.mono h (fun t1 a2 h => ?_)
      refine o_if_ne (off := 10) 41 (by decide +kernel) (by decide) (fun q => ?_) (fun q => ?_)
      · replace h := h.1 q
        refine o_aload_n (k := 0) 0 (by decide +kernel) rfl ?_
        refine f_getI (t := 12) (k := 18) (i := 213) (by decide +kernel) sh_345 rfl (by decide) lk_1379 rfl ?_
        refine o_name (fun y3 ey3 => ?_)
        replace h := h y3 ey3
        refine o_istore_n (k := 3) (L' := [(3, .int y3), (0, .ref 345), (1, .int v1), (2, .int v2)]) (by decide +kernel) (by decide) rfl ?_
        refine o_aload_n (k := 0) 1 (by decide +kernel) rfl ?_
        refine f_callVV (μ' := mX12_next) (i := 238) (vs := []) (by decide +kernel) lk_1543 (vok_mX12_next) sh_345 rfl rfl rfl rfl (Nat.le_of_ble_eq_true rfl) ?_
        refine x_CV.mono h (fun t4 h => ?_)
        refine o_iload_n (k := 3) 0 (by decide +kernel) rfl ?_
        exact f_iret (ty := .int) rfl rfl (by decide +kernel) rfl h
      · replace h := h.2 q
        refine o_aload_n (k := 0) 0 (by decide +kernel) rfl ?_
        refine o_iconst (n := 2) (v := 2) (by decide +kernel) (by decide) ?_
        refine f_callVV (μ' := mX12_errs) (i := 232) (vs := [.int 2]) (by decide +kernel) lk_1599 (vok_mX12_errs) sh_345 rfl rfl rfl rfl (Nat.le_of_ble_eq_true rfl) ?_
        refine x_CV.mono h (fun t6 h => ?_)
        refine o_iload_n (k := 1) 1 (by decide +kernel) rfl ?_
        exact f_iret (ty := .int) rfl rfl (by decide +kernel) rfl h
    · replace h := h.2 q
      refine o_sub [0, 1] rfl ?_
      exact h
set_option maxRecDepth 20000 in
theorem k_X12_number_15 {d : Nat} {K : x_T → Int32 → Prop} {v1 : Int32} {τ : x_T} (h : x_CV d mX12_errs [.ref 345, .int 1] τ (fun t1 => K t1 v1)) : x_WI (d + 1) mX12_number K 15 [(0, .ref 345), (1, .int v1)] [] τ := by
  refine o_aload_n (k := 0) 0 (by decide +kernel) rfl ?_
  refine o_iconst (n := 1) (v := 1) (by decide +kernel) (by decide) ?_
  refine f_callVV (μ' := mX12_errs) (i := 232) (vs := [.int 1]) (by decide +kernel) lk_1599 (vok_mX12_errs) sh_345 rfl rfl rfl rfl (Nat.le_of_ble_eq_true rfl) ?_
  refine x_CV.mono h (fun t1 h => ?_)
  refine o_iload_n (k := 1) 1 (by decide +kernel) rfl ?_
  exact f_iret (ty := .int) rfl rfl (by decide +kernel) rfl h
set_option maxRecDepth 20000 in
theorem e_X12_wasTold {d : Nat} {K : x_T → Int32 → Prop} {v1 : Int32} {τ : x_T} (h : x_WI d mX12_wasTold K 4 [(0, .ref 345), (1, .int v1), (2, .int 0), (3, .int 0)] [] τ) : x_CI d mX12_wasTold [.ref 345, .int v1] τ K := by
  refine x_CI_of (by decide) (Nat.le_of_ble_eq_true rfl) ?_
  show x_WI d mX12_wasTold K 0 [(0, .ref 345), (1, .int v1)] [] τ
  refine o_iconst (n := 0) (v := 0) (by decide +kernel) (by decide) ?_
  refine o_istore_n (k := 2) (L' := [(2, .int 0), (0, .ref 345), (1, .int v1)]) (by decide +kernel) (by decide) rfl ?_
  refine o_iconst (n := 0) (v := 0) (by decide +kernel) (by decide) ?_
  refine o_istore_n (k := 3) (L' := [(3, .int 0), (2, .int 0), (0, .ref 345), (1, .int v1)]) (by decide +kernel) (by decide) rfl ?_
  refine o_sub [2, 3, 1, 0] rfl ?_
  exact h
set_option maxRecDepth 20000 in
theorem k_X12_wasTold_4 {d : Nat} {K : x_T → Int32 → Prop} {v1 : Int32} {v2 : Int32} {v3 : Int32} {τ : x_T} (h : (τ.1 345 30 ≤ v3 → (narrow .boolean (.int v2) = .int v2 ∧ K τ v2)) ∧ (¬ τ.1 345 30 ≤ v3 → (¬ v2 = 0 → x_WI d mX12_wasTold K 26 [(0, .ref 345), (1, .int v1), (3, .int v3)] [] τ) ∧ (v2 = 0 → vp_in v3 24 ∧ ((¬ τ.1 362 v3.toNatClampNeg = v1 → x_WI d mX12_wasTold K 31 [(0, .ref 345), (1, .int v1), (3, .int v3)] [.int 0] τ) ∧ (τ.1 362 v3.toNatClampNeg = v1 → x_WI d mX12_wasTold K 26 [(0, .ref 345), (1, .int v1), (3, .int v3)] [] τ))))) : x_WI d mX12_wasTold K 4 [(0, .ref 345), (1, .int v1), (2, .int v2), (3, .int v3)] [] τ := by
  refine o_iload_n (k := 3) 3 (by decide +kernel) rfl ?_
  refine o_aload_n (k := 0) 0 (by decide +kernel) rfl ?_
  refine f_getI (t := 12) (k := 30) (i := 302) (by decide +kernel) sh_345 rfl (by decide) lk_1391 rfl ?_
  refine o_icmp_ge (off := 29) 38 (by decide +kernel) (by decide) (fun q => ?_) (fun q => ?_)
  · replace h := h.1 q
    refine o_iload_n (k := 2) 2 (by decide +kernel) rfl ?_
    exact f_iret (ty := .boolean) rfl h.1 (by decide +kernel) rfl h.2
  · replace h := h.2 q
    refine o_iload_n (k := 2) 2 (by decide +kernel) rfl ?_
    refine o_if_ne (off := 13) 26 (by decide +kernel) (by decide) (fun q => ?_) (fun q => ?_)
    · replace h := h.1 q
      refine o_sub [0, 1, 3] rfl ?_
      exact h
    · replace h := h.2 q
      refine o_aload_n (k := 0) 0 (by decide +kernel) rfl ?_
      refine f_getR (r := 362) (t := 12) (k := 32) (i := 66) (by decide +kernel) sh_345 rfl (by decide) lk_1393 (by simp [x_ty, tyX12]) (gr_12_32 sh_345) ?_
      refine o_iload_n (k := 3) 3 (by decide +kernel) rfl ?_
      obtain ⟨hi, h⟩ := h
      refine f_iald (by decide +kernel) sh_362 hi rfl ?_
      refine o_iload_n (k := 1) 1 (by decide +kernel) rfl ?_
      refine o_icmp_ne (off := 7) 30 (by decide +kernel) (by decide) (fun q => ?_) (fun q => ?_)
      · replace h := h.1 q
        refine o_iconst (n := 0) (v := 0) (by decide +kernel) (by decide) ?_
        refine o_sub [0, 1, 3] rfl ?_
        exact h
      · replace h := h.2 q
        refine o_sub [0, 1, 3] rfl ?_
        exact h
set_option maxRecDepth 20000 in
theorem k_X12_wasTold_26 {d : Nat} {K : x_T → Int32 → Prop} {v1 : Int32} {v3 : Int32} {τ : x_T} (h : x_WI d mX12_wasTold K 31 [(0, .ref 345), (1, .int v1), (3, .int v3)] [.int 1] τ) : x_WI d mX12_wasTold K 26 [(0, .ref 345), (1, .int v1), (3, .int v3)] [] τ := by
  refine o_iconst (n := 1) (v := 1) (by decide +kernel) (by decide) ?_
  refine o_goto (off := 4) 31 (by decide +kernel) (by decide) ?_
  exact h
set_option maxRecDepth 20000 in
theorem k_X12_wasTold_31 {d : Nat} {K : x_T → Int32 → Prop} {v1 : Int32} {v3 : Int32} {s0 : Int32} {τ : x_T} (h : ∀ y1, y1 = v3 + 1 → (x_WI d mX12_wasTold K 4 [(0, .ref 345), (1, .int v1), (2, .int s0), (3, .int y1)] [] τ)) : x_WI d mX12_wasTold K 31 [(0, .ref 345), (1, .int v1), (3, .int v3)] [.int s0] τ := by
  refine o_istore_n (k := 2) (L' := [(2, .int s0), (0, .ref 345), (1, .int v1), (3, .int v3)]) (by decide +kernel) (by decide) rfl ?_
  obtain ⟨y1, ey1⟩ : ∃ y : Int32, y = v3 + 1 := ⟨_, rfl⟩
  replace h := h y1 ey1
  refine o_iinc (i := 3) (n := 1) (v := y1) (L' := [(3, .int y1), (2, .int s0), (0, .ref 345), (1, .int v1)]) 3 (by decide +kernel) rfl (by rw [ey1]; rfl) (by decide) rfl ?_
  refine o_goto (off := -31) 4 (by decide +kernel) (by decide) ?_
  refine o_sub [2, 3, 1, 0] rfl ?_
  exact h
set_option maxRecDepth 20000 in
theorem e_X12_numberBehind {d : Nat} {K : x_T → Int32 → Prop} {v1 : Int32} {v2 : Int32} {v3 : Int32} {τ : x_T} (h : (¬ τ.1 345 19 = 0 → x_WI (d + 1) mX12_numberBehind K 20 [(0, .ref 345), (2, .int v2), (3, .int v3)] [] τ) ∧ (τ.1 345 19 = 0 → x_CI d mX12_isWord [.ref 345, .int v1] τ (fun t1 a2 => (¬ a2 = 0 → x_WI (d + 1) mX12_numberBehind K 20 [(0, .ref 345), (2, .int v2), (3, .int v3)] [] t1) ∧ (a2 = 0 → x_CV d mX12_errs [.ref 345, .int 1] t1 (fun t3 => x_WI (d + 1) mX12_numberBehind K 20 [(0, .ref 345), (2, .int v2), (3, .int v3)] [] t3))))) : x_CI (d + 1) mX12_numberBehind [.ref 345, .int v1, .int v2, .int v3] τ K := by
  refine x_CI_of (by decide) (Nat.le_of_ble_eq_true rfl) ?_
  show x_WI (d + 1) mX12_numberBehind K 0 [(0, .ref 345), (1, .int v1), (2, .int v2), (3, .int v3)] [] τ
  refine o_aload_n (k := 0) 0 (by decide +kernel) rfl ?_
  refine f_getI (t := 12) (k := 19) (i := 217) (by decide +kernel) sh_345 rfl (by decide) lk_1380 rfl ?_
  refine o_if_ne (off := 16) 20 (by decide +kernel) (by decide) (fun q => ?_) (fun q => ?_)
  · replace h := h.1 q
    refine o_sub [0, 2, 3] rfl ?_
    exact h
  · replace h := h.2 q
    refine o_aload_n (k := 0) 0 (by decide +kernel) rfl ?_
    refine o_iload_n (k := 1) 1 (by decide +kernel) rfl ?_
    refine f_callVI (μ' := mX12_isWord) (i := 255) (vs := [.int v1]) (by decide +kernel) lk_1591 (vok_mX12_isWord) sh_345 rfl rfl rfl rfl (Nat.le_of_ble_eq_true rfl) ?_
    refine x_CI.mono h (fun t1 a2 h => ?_)
    refine o_if_ne (off := 8) 20 (by decide +kernel) (by decide) (fun q => ?_) (fun q => ?_)
    · replace h := h.1 q
      refine o_sub [0, 2, 3] rfl ?_
      exact h
    · replace h := h.2 q
      refine o_aload_n (k := 0) 0 (by decide +kernel) rfl ?_
      refine o_iconst (n := 1) (v := 1) (by decide +kernel) (by decide) ?_
      refine f_callVV (μ' := mX12_errs) (i := 232) (vs := [.int 1]) (by decide +kernel) lk_1599 (vok_mX12_errs) sh_345 rfl rfl rfl rfl (Nat.le_of_ble_eq_true rfl) ?_
      refine x_CV.mono h (fun t3 h => ?_)
      refine o_sub [0, 2, 3] rfl ?_
      exact h
set_option maxRecDepth 20000 in
theorem k_X12_numberBehind_20 {d : Nat} {K : x_T → Int32 → Prop} {v2 : Int32} {v3 : Int32} {τ : x_T} (h : (¬ τ.1 345 19 = 0 → x_WI (d + 1) mX12_numberBehind K 31 [(0, .ref 345), (2, .int v2), (3, .int v3)] [] τ) ∧ (τ.1 345 19 = 0 → x_CV d mX12_next [.ref 345] τ (fun t1 => x_WI (d + 1) mX12_numberBehind K 31 [(0, .ref 345), (2, .int v2), (3, .int v3)] [] t1))) : x_WI (d + 1) mX12_numberBehind K 20 [(0, .ref 345), (2, .int v2), (3, .int v3)] [] τ := by
  refine o_aload_n (k := 0) 0 (by decide +kernel) rfl ?_
  refine f_getI (t := 12) (k := 19) (i := 217) (by decide +kernel) sh_345 rfl (by decide) lk_1380 rfl ?_
  refine o_if_ne (off := 7) 31 (by decide +kernel) (by decide) (fun q => ?_) (fun q => ?_)
  · replace h := h.1 q
    exact h
  · replace h := h.2 q
    refine o_aload_n (k := 0) 0 (by decide +kernel) rfl ?_
    refine f_callVV (μ' := mX12_next) (i := 238) (vs := []) (by decide +kernel) lk_1543 (vok_mX12_next) sh_345 rfl rfl rfl rfl (Nat.le_of_ble_eq_true rfl) ?_
    refine x_CV.mono h (fun t1 h => ?_)
    exact h
set_option maxRecDepth 20000 in
theorem k_X12_numberBehind_31 {d : Nat} {K : x_T → Int32 → Prop} {v2 : Int32} {v3 : Int32} {τ : x_T} (h : x_CI d mX12_number [.ref 345, .int v2, .int v3] τ (fun t1 a2 => K t1 a2)) : x_WI (d + 1) mX12_numberBehind K 31 [(0, .ref 345), (2, .int v2), (3, .int v3)] [] τ := by
  refine o_aload_n (k := 0) 0 (by decide +kernel) rfl ?_
  refine o_iload_n (k := 2) 1 (by decide +kernel) rfl ?_
  refine o_iload_n (k := 3) 2 (by decide +kernel) rfl ?_
  refine f_callVI (μ' := mX12_number) (i := 305) (vs := [.int v2, .int v3]) (by decide +kernel) lk_1684 (vok_mX12_number) sh_345 rfl rfl rfl rfl (Nat.le_of_ble_eq_true rfl) ?_
  refine x_CI.mono h (fun t1 a2 h => ?_)
  exact f_iret (ty := .int) rfl rfl (by decide +kernel) rfl h
theorem d_X12_doing_10 : decode mX12_doing.2.1 10 = .ok (.tableswitch (126) (4) (10) #[(42), (53), (84), (95), (126), (126), (115)], 42) := by decide +kernel
set_option maxRecDepth 20000 in
theorem e_X12_doing {d : Nat} {K : x_T → Prop}  {τ : x_T} (h : ∀ y1, y1 = τ.1 345 31 → ((y1 = 4 → x_CI d mX12_number [.ref 345, .int 0, .int 9] τ (fun t2 a3 => x_WV (d + 1) mX12_doing K 136 [(0, .ref 345), (1, .int a3), (2, .int (-1)), (3, .int (-1))] [] t2)) ∧ (¬ y1 = 4 → (y1 = 5 → x_CI d mX12_number [.ref 345, .int 0, .int 7] τ (fun t4 a5 => x_CI d mX12_numberBehind [.ref 345, .int 11, .int 0, .int 7] t4 (fun t6 a7 => x_CI d mX12_numberBehind [.ref 345, .int 12, .int 0, .int 9] t6 (fun t8 a9 => x_WV (d + 1) mX12_doing K 136 [(0, .ref 345), (1, .int a5), (2, .int a7), (3, .int a9)] [] t8)))) ∧ (¬ y1 = 5 → (y1 = 6 → x_CI d mX12_number [.ref 345, .int 1, .int 9] τ (fun t10 a11 => x_WV (d + 1) mX12_doing K 136 [(0, .ref 345), (1, .int a11), (2, .int (-1)), (3, .int (-1))] [] t10)) ∧ (¬ y1 = 6 → (y1 = 7 → x_CI d mX12_number [.ref 345, .int 0, .int 7] τ (fun t12 a13 => x_CI d mX12_numberBehind [.ref 345, .int 13, .int 0, .int 3] t12 (fun t14 a15 => x_WV (d + 1) mX12_doing K 136 [(0, .ref 345), (1, .int a13), (2, .int a15), (3, .int (-1))] [] t14))) ∧ (¬ y1 = 7 → (y1 = 8 → x_WV (d + 1) mX12_doing K 136 [(0, .ref 345), (1, .int (-1)), (2, .int (-1)), (3, .int (-1))] [] τ) ∧ (¬ y1 = 8 → (y1 = 9 → x_WV (d + 1) mX12_doing K 136 [(0, .ref 345), (1, .int (-1)), (2, .int (-1)), (3, .int (-1))] [] τ) ∧ (¬ y1 = 9 → (y1 = 10 → x_CI d mX12_number [.ref 345, .int 1, .int 60] τ (fun t16 a17 => x_WV (d + 1) mX12_doing K 136 [(0, .ref 345), (1, .int a17), (2, .int (-1)), (3, .int (-1))] [] t16)) ∧ (¬ y1 = 10 → (x_WV (d + 1) mX12_doing K 136 [(0, .ref 345), (1, .int (-1)), (2, .int (-1)), (3, .int (-1))] [] τ)))))))))) : x_CV (d + 1) mX12_doing [.ref 345] τ K := by
  refine x_CV_of (by decide) (Nat.le_of_ble_eq_true rfl) ?_
  show x_WV (d + 1) mX12_doing K 0 [(0, .ref 345)] [] τ
  refine o_iconst (n := -1) (v := (-1)) (by decide +kernel) (by decide) ?_
  refine o_istore_n (k := 1) (L' := [(1, .int (-1)), (0, .ref 345)]) (by decide +kernel) (by decide) rfl ?_
  refine o_iconst (n := -1) (v := (-1)) (by decide +kernel) (by decide) ?_
  refine o_istore_n (k := 2) (L' := [(2, .int (-1)), (1, .int (-1)), (0, .ref 345)]) (by decide +kernel) (by decide) rfl ?_
  refine o_iconst (n := -1) (v := (-1)) (by decide +kernel) (by decide) ?_
  refine o_istore_n (k := 3) (L' := [(3, .int (-1)), (2, .int (-1)), (1, .int (-1)), (0, .ref 345)]) (by decide +kernel) (by decide) rfl ?_
  refine o_aload_n (k := 0) 3 (by decide +kernel) rfl ?_
  refine f_getI (t := 12) (k := 31) (i := 271) (by decide +kernel) sh_345 rfl (by decide) lk_1392 rfl ?_
  refine o_name (fun y1 ey1 => ?_)
  replace h := h y1 ey1
  by_cases c4 : y1 = 4
  · replace h := h.1 c4
    refine o_tableIn (off := 42) (tgt := 52) (d_X12_doing_10) (by rw [c4]; decide) (by rw [c4]; decide) (by rw [c4]; rfl) (by decide) ?_
    refine o_aload_n (k := 0) 3 (by decide +kernel) rfl ?_
    refine o_iconst (n := 0) (v := 0) (by decide +kernel) (by decide) ?_
    refine o_bipush (n := 9) (v := 9) (by decide +kernel) (by decide) ?_
    refine f_callVI (μ' := mX12_number) (i := 305) (vs := [.int 0, .int 9]) (by decide +kernel) lk_1684 (vok_mX12_number) sh_345 rfl rfl rfl rfl (Nat.le_of_ble_eq_true rfl) ?_
    refine x_CI.mono h (fun t2 a3 h => ?_)
    refine o_istore_n (k := 1) (L' := [(1, .int a3), (3, .int (-1)), (2, .int (-1)), (0, .ref 345)]) (by decide +kernel) (by decide) rfl ?_
    refine o_goto (off := 76) 136 (by decide +kernel) (by decide) ?_
    refine o_sub [3, 0, 2, 1] rfl ?_
    exact h
  replace h := h.2 c4
  by_cases c5 : y1 = 5
  · replace h := h.1 c5
    refine o_tableIn (off := 53) (tgt := 63) (d_X12_doing_10) (by rw [c5]; decide) (by rw [c5]; decide) (by rw [c5]; rfl) (by decide) ?_
    refine o_aload_n (k := 0) 3 (by decide +kernel) rfl ?_
    refine o_iconst (n := 0) (v := 0) (by decide +kernel) (by decide) ?_
    refine o_bipush (n := 7) (v := 7) (by decide +kernel) (by decide) ?_
    refine f_callVI (μ' := mX12_number) (i := 305) (vs := [.int 0, .int 7]) (by decide +kernel) lk_1684 (vok_mX12_number) sh_345 rfl rfl rfl rfl (Nat.le_of_ble_eq_true rfl) ?_
    refine x_CI.mono h (fun t4 a5 h => ?_)
    refine o_istore_n (k := 1) (L' := [(1, .int a5), (3, .int (-1)), (2, .int (-1)), (0, .ref 345)]) (by decide +kernel) (by decide) rfl ?_
    refine o_aload_n (k := 0) 3 (by decide +kernel) rfl ?_
    refine o_bipush (n := 11) (v := 11) (by decide +kernel) (by decide) ?_
    refine o_iconst (n := 0) (v := 0) (by decide +kernel) (by decide) ?_
    refine o_bipush (n := 7) (v := 7) (by decide +kernel) (by decide) ?_
    refine f_callVI (μ' := mX12_numberBehind) (i := 309) (vs := [.int 11, .int 0, .int 7]) (by decide +kernel) lk_1688 (vok_mX12_numberBehind) sh_345 rfl rfl rfl rfl (Nat.le_of_ble_eq_true rfl) ?_
    refine x_CI.mono h (fun t6 a7 h => ?_)
    refine o_istore_n (k := 2) (L' := [(2, .int a7), (1, .int a5), (3, .int (-1)), (0, .ref 345)]) (by decide +kernel) (by decide) rfl ?_
    refine o_aload_n (k := 0) 3 (by decide +kernel) rfl ?_
    refine o_bipush (n := 12) (v := 12) (by decide +kernel) (by decide) ?_
    refine o_iconst (n := 0) (v := 0) (by decide +kernel) (by decide) ?_
    refine o_bipush (n := 9) (v := 9) (by decide +kernel) (by decide) ?_
    refine f_callVI (μ' := mX12_numberBehind) (i := 309) (vs := [.int 12, .int 0, .int 9]) (by decide +kernel) lk_1688 (vok_mX12_numberBehind) sh_345 rfl rfl rfl rfl (Nat.le_of_ble_eq_true rfl) ?_
    refine x_CI.mono h (fun t8 a9 h => ?_)
    refine o_istore_n (k := 3) (L' := [(3, .int a9), (2, .int a7), (1, .int a5), (0, .ref 345)]) (by decide +kernel) (by decide) rfl ?_
    refine o_goto (off := 45) 136 (by decide +kernel) (by decide) ?_
    refine o_sub [3, 2, 1, 0] rfl ?_
    exact h
  replace h := h.2 c5
  by_cases c6 : y1 = 6
  · replace h := h.1 c6
    refine o_tableIn (off := 84) (tgt := 94) (d_X12_doing_10) (by rw [c6]; decide) (by rw [c6]; decide) (by rw [c6]; rfl) (by decide) ?_
    refine o_aload_n (k := 0) 3 (by decide +kernel) rfl ?_
    refine o_iconst (n := 1) (v := 1) (by decide +kernel) (by decide) ?_
    refine o_bipush (n := 9) (v := 9) (by decide +kernel) (by decide) ?_
    refine f_callVI (μ' := mX12_number) (i := 305) (vs := [.int 1, .int 9]) (by decide +kernel) lk_1684 (vok_mX12_number) sh_345 rfl rfl rfl rfl (Nat.le_of_ble_eq_true rfl) ?_
    refine x_CI.mono h (fun t10 a11 h => ?_)
    refine o_istore_n (k := 1) (L' := [(1, .int a11), (3, .int (-1)), (2, .int (-1)), (0, .ref 345)]) (by decide +kernel) (by decide) rfl ?_
    refine o_goto (off := 34) 136 (by decide +kernel) (by decide) ?_
    refine o_sub [3, 0, 2, 1] rfl ?_
    exact h
  replace h := h.2 c6
  by_cases c7 : y1 = 7
  · replace h := h.1 c7
    refine o_tableIn (off := 95) (tgt := 105) (d_X12_doing_10) (by rw [c7]; decide) (by rw [c7]; decide) (by rw [c7]; rfl) (by decide) ?_
    refine o_aload_n (k := 0) 3 (by decide +kernel) rfl ?_
    refine o_iconst (n := 0) (v := 0) (by decide +kernel) (by decide) ?_
    refine o_bipush (n := 7) (v := 7) (by decide +kernel) (by decide) ?_
    refine f_callVI (μ' := mX12_number) (i := 305) (vs := [.int 0, .int 7]) (by decide +kernel) lk_1684 (vok_mX12_number) sh_345 rfl rfl rfl rfl (Nat.le_of_ble_eq_true rfl) ?_
    refine x_CI.mono h (fun t12 a13 h => ?_)
    refine o_istore_n (k := 1) (L' := [(1, .int a13), (3, .int (-1)), (2, .int (-1)), (0, .ref 345)]) (by decide +kernel) (by decide) rfl ?_
    refine o_aload_n (k := 0) 3 (by decide +kernel) rfl ?_
    refine o_bipush (n := 13) (v := 13) (by decide +kernel) (by decide) ?_
    refine o_iconst (n := 0) (v := 0) (by decide +kernel) (by decide) ?_
    refine o_iconst (n := 3) (v := 3) (by decide +kernel) (by decide) ?_
    refine f_callVI (μ' := mX12_numberBehind) (i := 309) (vs := [.int 13, .int 0, .int 3]) (by decide +kernel) lk_1688 (vok_mX12_numberBehind) sh_345 rfl rfl rfl rfl (Nat.le_of_ble_eq_true rfl) ?_
    refine x_CI.mono h (fun t14 a15 h => ?_)
    refine o_istore_n (k := 2) (L' := [(2, .int a15), (1, .int a13), (3, .int (-1)), (0, .ref 345)]) (by decide +kernel) (by decide) rfl ?_
    refine o_goto (off := 14) 136 (by decide +kernel) (by decide) ?_
    refine o_sub [3, 1, 0, 2] rfl ?_
    exact h
  replace h := h.2 c7
  by_cases c8 : y1 = 8
  · replace h := h.1 c8
    refine o_tableIn (off := 126) (tgt := 136) (d_X12_doing_10) (by rw [c8]; decide) (by rw [c8]; decide) (by rw [c8]; rfl) (by decide) ?_
    refine o_sub [3, 2, 1, 0] rfl ?_
    exact h
  replace h := h.2 c8
  by_cases c9 : y1 = 9
  · replace h := h.1 c9
    refine o_tableIn (off := 126) (tgt := 136) (d_X12_doing_10) (by rw [c9]; decide) (by rw [c9]; decide) (by rw [c9]; rfl) (by decide) ?_
    refine o_sub [3, 2, 1, 0] rfl ?_
    exact h
  replace h := h.2 c9
  by_cases c10 : y1 = 10
  · replace h := h.1 c10
    refine o_tableIn (off := 115) (tgt := 125) (d_X12_doing_10) (by rw [c10]; decide) (by rw [c10]; decide) (by rw [c10]; rfl) (by decide) ?_
    refine o_aload_n (k := 0) 3 (by decide +kernel) rfl ?_
    refine o_iconst (n := 1) (v := 1) (by decide +kernel) (by decide) ?_
    refine o_bipush (n := 60) (v := 60) (by decide +kernel) (by decide) ?_
    refine f_callVI (μ' := mX12_number) (i := 305) (vs := [.int 1, .int 60]) (by decide +kernel) lk_1684 (vok_mX12_number) sh_345 rfl rfl rfl rfl (Nat.le_of_ble_eq_true rfl) ?_
    refine x_CI.mono h (fun t16 a17 h => ?_)
    refine o_istore_n (k := 1) (L' := [(1, .int a17), (3, .int (-1)), (2, .int (-1)), (0, .ref 345)]) (by decide +kernel) (by decide) rfl ?_
    refine o_goto (off := 3) 136 (by decide +kernel) (by decide) ?_
    refine o_sub [3, 0, 2, 1] rfl ?_
    exact h
  replace h := h.2 c10
  refine o_tableOut (tgt := 136) (d_X12_doing_10) (by have := x_ne (z := 4) (by decide) c4; have := x_ne (z := 5) (by decide) c5; have := x_ne (z := 6) (by decide) c6; have := x_ne (z := 7) (by decide) c7; have := x_ne (z := 8) (by decide) c8; have := x_ne (z := 9) (by decide) c9; have := x_ne (z := 10) (by decide) c10; omega) (by decide) ?_
  refine o_sub [3, 2, 1, 0] rfl ?_
  exact h
set_option maxRecDepth 20000 in
theorem k_X12_doing_136 {d : Nat} {K : x_T → Prop} {v1 : Int32} {v2 : Int32} {v3 : Int32} {τ : x_T} (h : vp_in (τ.1 345 30) 24 ∧ (∀ t1, t1 = x_w1 τ 364 ((τ.1 345 30).toNatClampNeg) v1 → (vp_in (t1.1 345 30) 24 ∧ (∀ t2, t2 = x_w1 t1 365 ((t1.1 345 30).toNatClampNeg) v2 → (vp_in (t2.1 345 30) 24 ∧ (∀ t3, t3 = x_w1 t2 366 ((t2.1 345 30).toNatClampNeg) v3 → (K t3))))))) : x_WV (d + 1) mX12_doing K 136 [(0, .ref 345), (1, .int v1), (2, .int v2), (3, .int v3)] [] τ := by
  refine o_aload_n (k := 0) 0 (by decide +kernel) rfl ?_
  refine f_getR (r := 364) (t := 12) (k := 34) (i := 72) (by decide +kernel) sh_345 rfl (by decide) lk_1395 (by simp [x_ty, tyX12]) (gr_12_34 sh_345) ?_
  refine o_aload_n (k := 0) 0 (by decide +kernel) rfl ?_
  refine f_getI (t := 12) (k := 30) (i := 302) (by decide +kernel) sh_345 rfl (by decide) lk_1391 rfl ?_
  refine o_iload_n (k := 1) 1 (by decide +kernel) rfl ?_
  obtain ⟨hi, h⟩ := h
  refine f_iast (by decide +kernel) sh_364 hi rfl ?_
  refine f_name (fun t1 et1 => ?_)
  replace h := h t1 et1
  refine o_aload_n (k := 0) 0 (by decide +kernel) rfl ?_
  refine f_getR (r := 365) (t := 12) (k := 35) (i := 75) (by decide +kernel) sh_345 rfl (by decide) lk_1396 (by simp [x_ty, tyX12]) (gr_12_35 sh_345) ?_
  refine o_aload_n (k := 0) 0 (by decide +kernel) rfl ?_
  refine f_getI (t := 12) (k := 30) (i := 302) (by decide +kernel) sh_345 rfl (by decide) lk_1391 rfl ?_
  refine o_iload_n (k := 2) 2 (by decide +kernel) rfl ?_
  obtain ⟨hi, h⟩ := h
  refine f_iast (by decide +kernel) sh_365 hi rfl ?_
  refine f_name (fun t2 et2 => ?_)
  replace h := h t2 et2
  refine o_aload_n (k := 0) 0 (by decide +kernel) rfl ?_
  refine f_getR (r := 366) (t := 12) (k := 36) (i := 78) (by decide +kernel) sh_345 rfl (by decide) lk_1397 (by simp [x_ty, tyX12]) (gr_12_36 sh_345) ?_
  refine o_aload_n (k := 0) 0 (by decide +kernel) rfl ?_
  refine f_getI (t := 12) (k := 30) (i := 302) (by decide +kernel) sh_345 rfl (by decide) lk_1391 rfl ?_
  refine o_iload_n (k := 3) 3 (by decide +kernel) rfl ?_
  obtain ⟨hi, h⟩ := h
  refine f_iast (by decide +kernel) sh_366 hi rfl ?_
  refine f_name (fun t3 et3 => ?_)
  replace h := h t3 et3
  exact f_vret rfl (by decide +kernel) rfl h
