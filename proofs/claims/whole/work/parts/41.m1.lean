set_option maxRecDepth 20000 in
theorem e_X12_next {d : Nat} {K : x_T → Prop}  {τ : x_T} (h : x_WV (d + 1) mX12_next K 0 [(0, .ref 345)] [] τ) : x_CV (d + 1) mX12_next [.ref 345] τ K := by
  exact x_CV_of (by decide) (Nat.le_of_ble_eq_true rfl) h
set_option maxRecDepth 20000 in
theorem k_X12_next_0 {d : Nat} {K : x_T → Prop}  {τ : x_T} (h : (τ.1 345 14 ≤ τ.1 345 15 → x_WV (d + 1) mX12_next K 52 [(0, .ref 345)] [] τ) ∧ (¬ τ.1 345 14 ≤ τ.1 345 15 → vp_in (τ.1 345 15) 300 ∧ ((τ.1 348 (τ.1 345 15).toNatClampNeg = 32 → x_WV (d + 1) mX12_next K 39 [(0, .ref 345)] [] τ) ∧ (¬ τ.1 348 (τ.1 345 15).toNatClampNeg = 32 → vp_in (τ.1 345 15) 300 ∧ ((¬ τ.1 348 (τ.1 345 15).toNatClampNeg = 10 → x_WV (d + 1) mX12_next K 52 [(0, .ref 345)] [] τ) ∧ (τ.1 348 (τ.1 345 15).toNatClampNeg = 10 → x_WV (d + 1) mX12_next K 39 [(0, .ref 345)] [] τ)))))) : x_WV (d + 1) mX12_next K 0 [(0, .ref 345)] [] τ := by
  refine o_aload_n (k := 0) 0 (by decide +kernel) rfl ?_
  refine f_getI (t := 12) (k := 15) (i := 192) (by decide +kernel) sh_345 rfl (by decide) lk_1376 rfl ?_
  refine o_aload_n (k := 0) 0 (by decide +kernel) rfl ?_
  refine f_getI (t := 12) (k := 14) (i := 195) (by decide +kernel) sh_345 rfl (by decide) lk_1375 rfl ?_
  refine o_icmp_ge (off := 44) 52 (by decide +kernel) (by decide) (fun q => ?_) (fun q => ?_)
  · replace h := h.1 q
    exact h
  · replace h := h.2 q
    refine o_aload_n (k := 0) 0 (by decide +kernel) rfl ?_
    refine f_getR (r := 348) (t := 12) (k := 2) (i := 16) (by decide +kernel) sh_345 rfl (by decide) lk_1363 (by simp [x_ty, tyX12]) (gr_12_2 sh_345) ?_
    refine o_aload_n (k := 0) 0 (by decide +kernel) rfl ?_
    refine f_getI (t := 12) (k := 15) (i := 192) (by decide +kernel) sh_345 rfl (by decide) lk_1376 rfl ?_
    obtain ⟨hi, h⟩ := h
    refine f_bald (by decide +kernel) sh_348 hi rfl ?_
    refine o_bipush (n := 32) (v := 32) (by decide +kernel) (by decide) ?_
    refine o_icmp_eq (off := 17) 39 (by decide +kernel) (by decide) (fun q => ?_) (fun q => ?_)
    · replace h := h.1 q
      exact h
    · replace h := h.2 q
      refine o_aload_n (k := 0) 0 (by decide +kernel) rfl ?_
      refine f_getR (r := 348) (t := 12) (k := 2) (i := 16) (by decide +kernel) sh_345 rfl (by decide) lk_1363 (by simp [x_ty, tyX12]) (gr_12_2 sh_345) ?_
      refine o_aload_n (k := 0) 0 (by decide +kernel) rfl ?_
      refine f_getI (t := 12) (k := 15) (i := 192) (by decide +kernel) sh_345 rfl (by decide) lk_1376 rfl ?_
      obtain ⟨hi, h⟩ := h
      refine f_bald (by decide +kernel) sh_348 hi rfl ?_
      refine o_bipush (n := 10) (v := 10) (by decide +kernel) (by decide) ?_
      refine o_icmp_ne (off := 16) 52 (by decide +kernel) (by decide) (fun q => ?_) (fun q => ?_)
      · replace h := h.1 q
        exact h
      · replace h := h.2 q
        exact h
set_option maxRecDepth 20000 in
theorem k_X12_next_39 {d : Nat} {K : x_T → Prop}  {τ : x_T} (h : ∀ t1, t1 = x_w1 τ 345 15 ((τ.1 345 15) + 1) → (x_WV (d + 1) mX12_next K 0 [(0, .ref 345)] [] t1)) : x_WV (d + 1) mX12_next K 39 [(0, .ref 345)] [] τ := by
  refine o_aload_n (k := 0) 0 (by decide +kernel) rfl ?_
  refine o_dup (by decide +kernel) rfl ?_
  refine f_getI (t := 12) (k := 15) (i := 192) (by decide +kernel) sh_345 rfl (by decide) lk_1376 rfl ?_
  refine o_iconst (n := 1) (v := 1) (by decide +kernel) (by decide) ?_
  refine o_iadd (by decide +kernel) ?_
  refine f_putI (t := 12) (k := 15) (i := 192) (by decide +kernel) sh_345 rfl (by decide) lk_1376 rfl rfl ?_
  refine f_name (fun t1 et1 => ?_)
  replace h := h t1 et1
  refine o_goto (off := -49) 0 (by decide +kernel) (by decide) ?_
  exact h
set_option maxRecDepth 20000 in
theorem k_X12_next_52 {d : Nat} {K : x_T → Prop}  {τ : x_T} (h : ∀ t1, t1 = x_w1 τ 345 16 (τ.1 345 15) → ((¬ t1.1 345 15 = t1.1 345 14 → vp_in (t1.1 345 15) 300 ∧ (∀ y2, y2 = t1.1 348 (t1.1 345 15).toNatClampNeg → (x_CI d mX12_isLetter [.int y2] t1 (fun t3 a4 => (a4 = 0 → x_CI d mX12_in [.int y2, .int 48, .int 57] t3 (fun t5 a6 => (a6 = 0 → ∀ t7, t7 = x_w1 t5 345 15 ((t5.1 345 15) + 1) → (∀ t8, t8 = x_w1 t7 345 18 y2 → (x_CI d mX12_in [.int y2, .int 59, .int 62] t8 (fun t9 a10 => (¬ a10 = 0 → x_WV (d + 1) mX12_next K 365 [(0, .ref 345), (1, .int y2)] [.ref 345] t9) ∧ (a10 = 0 → x_CI d mX12_in [.int y2, .int 40, .int 45] t9 (fun t11 a12 => (¬ a12 = 0 → x_WV (d + 1) mX12_next K 365 [(0, .ref 345), (1, .int y2)] [.ref 345] t11) ∧ (a12 = 0 → (y2 = 47 → x_WV (d + 1) mX12_next K 365 [(0, .ref 345), (1, .int y2)] [.ref 345] t11) ∧ (¬ y2 = 47 → (¬ y2 = 35 → x_WV (d + 1) mX12_next K 370 [(0, .ref 345), (1, .int y2)] [.int 4, .ref 345] t11) ∧ (y2 = 35 → x_WV (d + 1) mX12_next K 365 [(0, .ref 345), (1, .int y2)] [.ref 345] t11))))))))) ∧ (¬ a6 = 0 → ∀ t13, t13 = x_w1 t5 345 17 2 → (∀ t14, t14 = x_w1 t13 345 18 0 → (x_WV (d + 1) mX12_next K 232 [(0, .ref 345)] [] t14))))) ∧ (¬ a4 = 0 → x_WV (d + 1) mX12_next K 99 [(0, .ref 345), (2, .long 0), (4, .int 0)] [] t3))))) ∧ (t1.1 345 15 = t1.1 345 14 → ∀ t15, t15 = x_w1 t1 345 17 0 → (K t15)))) : x_WV (d + 1) mX12_next K 52 [(0, .ref 345)] [] τ := by
  refine o_aload_n (k := 0) 0 (by decide +kernel) rfl ?_
  refine o_aload_n (k := 0) 0 (by decide +kernel) rfl ?_
  refine f_getI (t := 12) (k := 15) (i := 192) (by decide +kernel) sh_345 rfl (by decide) lk_1376 rfl ?_
  refine f_putI (t := 12) (k := 16) (i := 198) (by decide +kernel) sh_345 rfl (by decide) lk_1377 rfl rfl ?_
  refine f_name (fun t1 et1 => ?_)
  replace h := h t1 et1
  refine o_aload_n (k := 0) 0 (by decide +kernel) rfl ?_
  refine f_getI (t := 12) (k := 15) (i := 192) (by decide +kernel) sh_345 rfl (by decide) lk_1376 rfl ?_
  refine o_aload_n (k := 0) 0 (by decide +kernel) rfl ?_
  refine f_getI (t := 12) (k := 14) (i := 195) (by decide +kernel) sh_345 rfl (by decide) lk_1375 rfl ?_
  refine o_icmp_ne (off := 9) 77 (by decide +kernel) (by decide) (fun q => ?_) (fun q => ?_)
  · replace h := h.1 q
    refine o_aload_n (k := 0) 0 (by decide +kernel) rfl ?_
    refine f_getR (r := 348) (t := 12) (k := 2) (i := 16) (by decide +kernel) sh_345 rfl (by decide) lk_1363 (by simp [x_ty, tyX12]) (gr_12_2 sh_345) ?_
    refine o_aload_n (k := 0) 0 (by decide +kernel) rfl ?_
    refine f_getI (t := 12) (k := 15) (i := 192) (by decide +kernel) sh_345 rfl (by decide) lk_1376 rfl ?_
    obtain ⟨hi, h⟩ := h
    refine f_bald (by decide +kernel) sh_348 hi rfl ?_
    refine o_name (fun y2 ey2 => ?_)
    replace h := h y2 ey2
    refine o_istore_n (k := 1) (L' := [(1, .int y2), (0, .ref 345)]) (by decide +kernel) (by decide) rfl ?_
    refine o_iload_n (k := 1) 0 (by decide +kernel) rfl ?_
    refine f_callSI (μ' := mX12_isLetter) (i := 204) (vs := [.int y2]) (by decide +kernel) lk_1547 (cok_mX12_isLetter) rfl (stt_mX12_isLetter) rfl rfl (Nat.le_of_ble_eq_true rfl) ?_
    refine x_CI.mono h (fun t3 a4 h => ?_)
    refine o_if_eq (off := 120) 211 (by decide +kernel) (by decide) (fun q => ?_) (fun q => ?_)
    · replace h := h.1 q
      refine o_iload_n (k := 1) 0 (by decide +kernel) rfl ?_
      refine o_bipush (n := 48) (v := 48) (by decide +kernel) (by decide) ?_
      refine o_bipush (n := 57) (v := 57) (by decide +kernel) (by decide) ?_
      refine f_callSI (μ' := mX12_in) (i := 113) (vs := [.int y2, .int 48, .int 57]) (by decide +kernel) lk_1508 (cok_mX12_in) rfl (stt_mX12_in) rfl rfl (Nat.le_of_ble_eq_true rfl) ?_
      refine x_CI.mono h (fun t5 a6 h => ?_)
      refine o_if_eq (off := 96) 315 (by decide +kernel) (by decide) (fun q => ?_) (fun q => ?_)
      · replace h := h.1 q
        refine o_aload_n (k := 0) 1 (by decide +kernel) rfl ?_
        refine o_dup (by decide +kernel) rfl ?_
        refine f_getI (t := 12) (k := 15) (i := 192) (by decide +kernel) sh_345 rfl (by decide) lk_1376 rfl ?_
        refine o_iconst (n := 1) (v := 1) (by decide +kernel) (by decide) ?_
        refine o_iadd (by decide +kernel) ?_
        refine f_putI (t := 12) (k := 15) (i := 192) (by decide +kernel) sh_345 rfl (by decide) lk_1376 rfl rfl ?_
        refine f_name (fun t7 et7 => ?_)
        replace h := h t7 et7
        refine o_aload_n (k := 0) 1 (by decide +kernel) rfl ?_
        refine o_iload_n (k := 1) 0 (by decide +kernel) rfl ?_
        refine f_putI (t := 12) (k := 18) (i := 213) (by decide +kernel) sh_345 rfl (by decide) lk_1379 rfl rfl ?_
        refine f_name (fun t8 et8 => ?_)
        replace h := h t8 et8
        refine o_aload_n (k := 0) 1 (by decide +kernel) rfl ?_
        refine o_iload_n (k := 1) 0 (by decide +kernel) rfl ?_
        refine o_bipush (n := 59) (v := 59) (by decide +kernel) (by decide) ?_
        refine o_bipush (n := 62) (v := 62) (by decide +kernel) (by decide) ?_
        refine f_callSI (μ' := mX12_in) (i := 113) (vs := [.int y2, .int 59, .int 62]) (by decide +kernel) lk_1508 (cok_mX12_in) rfl (stt_mX12_in) rfl rfl (Nat.le_of_ble_eq_true rfl) ?_
        refine x_CI.mono h (fun t9 a10 h => ?_)
        refine o_if_ne (off := 26) 365 (by decide +kernel) (by decide) (fun q => ?_) (fun q => ?_)
        · replace h := h.1 q
          refine o_sub [1, 0] rfl ?_
          exact h
        · replace h := h.2 q
          refine o_iload_n (k := 1) 0 (by decide +kernel) rfl ?_
          refine o_bipush (n := 40) (v := 40) (by decide +kernel) (by decide) ?_
          refine o_bipush (n := 45) (v := 45) (by decide +kernel) (by decide) ?_
          refine f_callSI (μ' := mX12_in) (i := 113) (vs := [.int y2, .int 40, .int 45]) (by decide +kernel) lk_1508 (cok_mX12_in) rfl (stt_mX12_in) rfl rfl (Nat.le_of_ble_eq_true rfl) ?_
          refine x_CI.mono h (fun t11 a12 h => ?_)
          refine o_if_ne (off := 15) 365 (by decide +kernel) (by decide) (fun q => ?_) (fun q => ?_)
          · replace h := h.1 q
            refine o_sub [1, 0] rfl ?_
            exact h
          · replace h := h.2 q
            refine o_iload_n (k := 1) 0 (by decide +kernel) rfl ?_
            refine o_bipush (n := 47) (v := 47) (by decide +kernel) (by decide) ?_
            refine o_icmp_eq (off := 9) 365 (by decide +kernel) (by decide) (fun q => ?_) (fun q => ?_)
            · replace h := h.1 q
              refine o_sub [1, 0] rfl ?_
              exact h
            · replace h := h.2 q
              refine o_iload_n (k := 1) 0 (by decide +kernel) rfl ?_
              refine o_bipush (n := 35) (v := 35) (by decide +kernel) (by decide) ?_
              refine o_icmp_ne (off := 7) 369 (by decide +kernel) (by decide) (fun q => ?_) (fun q => ?_)
              · replace h := h.1 q
                refine o_iconst (n := 4) (v := 4) (by decide +kernel) (by decide) ?_
                refine o_sub [1, 0] rfl ?_
                exact h
              · replace h := h.2 q
                refine o_sub [1, 0] rfl ?_
                exact h
      · replace h := h.2 q
        refine o_aload_n (k := 0) 1 (by decide +kernel) rfl ?_
        refine o_iconst (n := 2) (v := 2) (by decide +kernel) (by decide) ?_
        refine f_putI (t := 12) (k := 17) (i := 201) (by decide +kernel) sh_345 rfl (by decide) lk_1378 rfl rfl ?_
        refine f_name (fun t13 et13 => ?_)
        replace h := h t13 et13
        refine o_aload_n (k := 0) 1 (by decide +kernel) rfl ?_
        refine o_iconst (n := 0) (v := 0) (by decide +kernel) (by decide) ?_
        refine f_putI (t := 12) (k := 18) (i := 213) (by decide +kernel) sh_345 rfl (by decide) lk_1379 rfl rfl ?_
        refine f_name (fun t14 et14 => ?_)
        replace h := h t14 et14
        refine o_sub [1] rfl ?_
        exact h
    · replace h := h.2 q
      refine o_lconst (n := 0) (v := 0) (by decide +kernel) (by decide) ?_
      refine o_lstore_n (k := 2) (L' := [(2, .long 0), (1, .int y2), (0, .ref 345)]) (by decide +kernel) (by decide) rfl ?_
      refine o_iconst (n := 0) (v := 0) (by decide +kernel) (by decide) ?_
      refine o_istore (k := 4) (L' := [(4, .int 0), (2, .long 0), (1, .int y2), (0, .ref 345)]) (by decide +kernel) (by decide) rfl ?_
      refine o_sub [3, 1, 0] rfl ?_
      exact h
  · replace h := h.2 q
    refine o_aload_n (k := 0) 0 (by decide +kernel) rfl ?_
    refine o_iconst (n := 0) (v := 0) (by decide +kernel) (by decide) ?_
    refine f_putI (t := 12) (k := 17) (i := 201) (by decide +kernel) sh_345 rfl (by decide) lk_1378 rfl rfl ?_
    refine f_name (fun t15 et15 => ?_)
    replace h := h t15 et15
    exact f_vret rfl (by decide +kernel) rfl h
set_option maxRecDepth 20000 in
theorem k_X12_next_99 {d : Nat} {K : x_T → Prop} {w2 : Int64} {v4 : Int32} {τ : x_T} (h : (τ.1 345 14 ≤ τ.1 345 15 → x_WV (d + 1) mX12_next K 173 [(0, .ref 345), (2, .long w2), (4, .int v4)] [] τ) ∧ (¬ τ.1 345 14 ≤ τ.1 345 15 → vp_in (τ.1 345 15) 300 ∧ (x_CI d mX12_isLetter [.int (τ.1 348 (τ.1 345 15).toNatClampNeg)] τ (fun t1 a2 => (a2 = 0 → x_WV (d + 1) mX12_next K 173 [(0, .ref 345), (2, .long w2), (4, .int v4)] [] t1) ∧ (¬ a2 = 0 → (9 ≤ v4 → x_WV (d + 1) mX12_next K 156 [(0, .ref 345), (4, .int v4)] [.long w2] t1) ∧ (¬ 9 ≤ v4 → vp_in (t1.1 345 15) 300 ∧ (x_WV (d + 1) mX12_next K 156 [(0, .ref 345), (4, .int v4)] [.long (((64 * w2) + ((t1.1 348 (t1.1 345 15).toNatClampNeg).toInt64)) - 64)] t1))))))) : x_WV (d + 1) mX12_next K 99 [(0, .ref 345), (2, .long w2), (4, .int v4)] [] τ := by
  refine o_aload_n (k := 0) 0 (by decide +kernel) rfl ?_
  refine f_getI (t := 12) (k := 15) (i := 192) (by decide +kernel) sh_345 rfl (by decide) lk_1376 rfl ?_
  refine o_aload_n (k := 0) 0 (by decide +kernel) rfl ?_
  refine f_getI (t := 12) (k := 14) (i := 195) (by decide +kernel) sh_345 rfl (by decide) lk_1375 rfl ?_
  refine o_icmp_ge (off := 66) 173 (by decide +kernel) (by decide) (fun q => ?_) (fun q => ?_)
  · replace h := h.1 q
    exact h
  · replace h := h.2 q
    refine o_aload_n (k := 0) 0 (by decide +kernel) rfl ?_
    refine f_getR (r := 348) (t := 12) (k := 2) (i := 16) (by decide +kernel) sh_345 rfl (by decide) lk_1363 (by simp [x_ty, tyX12]) (gr_12_2 sh_345) ?_
    refine o_aload_n (k := 0) 0 (by decide +kernel) rfl ?_
    refine f_getI (t := 12) (k := 15) (i := 192) (by decide +kernel) sh_345 rfl (by decide) lk_1376 rfl ?_
    obtain ⟨hi, h⟩ := h
    refine f_bald (by decide +kernel) sh_348 hi rfl ?_
    refine f_callSI (μ' := mX12_isLetter) (i := 204) (vs := [.int (τ.1 348 (τ.1 345 15).toNatClampNeg)]) (by decide +kernel) lk_1547 (cok_mX12_isLetter) rfl (stt_mX12_isLetter) rfl rfl (Nat.le_of_ble_eq_true rfl) ?_
    refine x_CI.mono h (fun t1 a2 h => ?_)
    refine o_if_eq (off := 51) 173 (by decide +kernel) (by decide) (fun q => ?_) (fun q => ?_)
    · replace h := h.1 q
      exact h
    · replace h := h.2 q
      refine o_iload (k := 4) 2 (by decide +kernel) rfl ?_
      refine o_bipush (n := 9) (v := 9) (by decide +kernel) (by decide) ?_
      refine o_icmp_ge (off := 26) 155 (by decide +kernel) (by decide) (fun q => ?_) (fun q => ?_)
      · replace h := h.1 q
        refine o_lload_n (k := 2) 1 (by decide +kernel) rfl ?_
        refine o_sub [0, 2] rfl ?_
        exact h
      · replace h := h.2 q
        refine o_ldc2 (i := 207) (v := 64) (by decide +kernel) lk_1550 ?_
        refine o_lload_n (k := 2) 1 (by decide +kernel) rfl ?_
        refine o_lmul (by decide +kernel) ?_
        refine o_aload_n (k := 0) 0 (by decide +kernel) rfl ?_
        refine f_getR (r := 348) (t := 12) (k := 2) (i := 16) (by decide +kernel) sh_345 rfl (by decide) lk_1363 (by simp [x_ty, tyX12]) (gr_12_2 sh_345) ?_
        refine o_aload_n (k := 0) 0 (by decide +kernel) rfl ?_
        refine f_getI (t := 12) (k := 15) (i := 192) (by decide +kernel) sh_345 rfl (by decide) lk_1376 rfl ?_
        obtain ⟨hi, h⟩ := h
        refine f_bald (by decide +kernel) sh_348 hi rfl ?_
        refine o_i2l (by decide +kernel) ?_
        refine o_ladd (by decide +kernel) ?_
        refine o_ldc2 (i := 207) (v := 64) (by decide +kernel) lk_1550 ?_
        refine o_lsub (by decide +kernel) ?_
        refine o_goto (off := 4) 156 (by decide +kernel) (by decide) ?_
        refine o_sub [0, 2] rfl ?_
        exact h
set_option maxRecDepth 20000 in
theorem k_X12_next_156 {d : Nat} {K : x_T → Prop} {v4 : Int32} {s0 : Int64} {τ : x_T} (h : ∀ y1, y1 = v4 + 1 → (∀ t2, t2 = x_w1 τ 345 15 ((τ.1 345 15) + 1) → (x_WV (d + 1) mX12_next K 99 [(0, .ref 345), (2, .long s0), (4, .int y1)] [] t2))) : x_WV (d + 1) mX12_next K 156 [(0, .ref 345), (4, .int v4)] [.long s0] τ := by
  refine o_lstore_n (k := 2) (L' := [(2, .long s0), (0, .ref 345), (4, .int v4)]) (by decide +kernel) (by decide) rfl ?_
  obtain ⟨y1, ey1⟩ : ∃ y : Int32, y = v4 + 1 := ⟨_, rfl⟩
  replace h := h y1 ey1
  refine o_iinc (i := 4) (n := 1) (v := y1) (L' := [(4, .int y1), (2, .long s0), (0, .ref 345)]) 2 (by decide +kernel) rfl (by rw [ey1]; rfl) (by decide) rfl ?_
  refine o_aload_n (k := 0) 2 (by decide +kernel) rfl ?_
  refine o_dup (by decide +kernel) rfl ?_
  refine f_getI (t := 12) (k := 15) (i := 192) (by decide +kernel) sh_345 rfl (by decide) lk_1376 rfl ?_
  refine o_iconst (n := 1) (v := 1) (by decide +kernel) (by decide) ?_
  refine o_iadd (by decide +kernel) ?_
  refine f_putI (t := 12) (k := 15) (i := 192) (by decide +kernel) sh_345 rfl (by decide) lk_1376 rfl rfl ?_
  refine f_name (fun t2 et2 => ?_)
  replace h := h t2 et2
  refine o_goto (off := -71) 99 (by decide +kernel) (by decide) ?_
  refine o_sub [2, 1, 0] rfl ?_
  exact h
set_option maxRecDepth 20000 in
theorem k_X12_next_173 {d : Nat} {K : x_T → Prop} {w2 : Int64} {v4 : Int32} {τ : x_T} (h : (v4 ≤ 8 → x_CI d mX12_wordOf [.long w2] τ (fun t1 a2 => x_WV (d + 1) mX12_next K 189 [(0, .ref 345)] [.int a2, .ref 345] t1)) ∧ (¬ v4 ≤ 8 → x_WV (d + 1) mX12_next K 189 [(0, .ref 345)] [.int (-1), .ref 345] τ)) : x_WV (d + 1) mX12_next K 173 [(0, .ref 345), (2, .long w2), (4, .int v4)] [] τ := by
  refine o_aload_n (k := 0) 0 (by decide +kernel) rfl ?_
  refine o_iload (k := 4) 2 (by decide +kernel) rfl ?_
  refine o_bipush (n := 8) (v := 8) (by decide +kernel) (by decide) ?_
  refine o_icmp_le (off := 7) 185 (by decide +kernel) (by decide) (fun q => ?_) (fun q => ?_)
  · replace h := h.1 q
    refine o_lload_n (k := 2) 1 (by decide +kernel) rfl ?_
    refine f_callSI (μ' := mX12_wordOf) (i := 209) (vs := [.long w2]) (by decide +kernel) lk_1551 (cok_mX12_wordOf) rfl (stt_mX12_wordOf) rfl rfl (Nat.le_of_ble_eq_true rfl) ?_
    refine x_CI.mono h (fun t1 a2 h => ?_)
    refine o_sub [0] rfl ?_
    exact h
  · replace h := h.2 q
    refine o_iconst (n := -1) (v := (-1)) (by decide +kernel) (by decide) ?_
    refine o_goto (off := 7) 189 (by decide +kernel) (by decide) ?_
    refine o_sub [0] rfl ?_
    exact h
set_option maxRecDepth 20000 in
theorem k_X12_next_189 {d : Nat} {K : x_T → Prop} {s0 : Int32} {τ : x_T} (h : ∀ t1, t1 = x_w1 τ 345 18 s0 → ((0 ≤ t1.1 345 18 → x_WV (d + 1) mX12_next K 205 [] [.int 1, .ref 345] t1) ∧ (¬ 0 ≤ t1.1 345 18 → x_WV (d + 1) mX12_next K 205 [] [.int 4, .ref 345] t1))) : x_WV (d + 1) mX12_next K 189 [(0, .ref 345)] [.int s0, .ref 345] τ := by
  refine f_putI (t := 12) (k := 18) (i := 213) (by decide +kernel) sh_345 rfl (by decide) lk_1379 rfl rfl ?_
  refine f_name (fun t1 et1 => ?_)
  replace h := h t1 et1
  refine o_aload_n (k := 0) 0 (by decide +kernel) rfl ?_
  refine o_aload_n (k := 0) 0 (by decide +kernel) rfl ?_
  refine f_getI (t := 12) (k := 18) (i := 213) (by decide +kernel) sh_345 rfl (by decide) lk_1379 rfl ?_
  refine o_if_ge (off := 7) 204 (by decide +kernel) (by decide) (fun q => ?_) (fun q => ?_)
  · replace h := h.1 q
    refine o_iconst (n := 1) (v := 1) (by decide +kernel) (by decide) ?_
    refine o_sub [] rfl ?_
    exact h
  · replace h := h.2 q
    refine o_iconst (n := 4) (v := 4) (by decide +kernel) (by decide) ?_
    refine o_goto (off := 4) 205 (by decide +kernel) (by decide) ?_
    refine o_sub [] rfl ?_
    exact h
set_option maxRecDepth 20000 in
theorem k_X12_next_205 {d : Nat} {K : x_T → Prop} {s0 : Int32} {τ : x_T} (h : ∀ t1, t1 = x_w1 τ 345 17 s0 → (K t1)) : x_WV (d + 1) mX12_next K 205 [] [.int s0, .ref 345] τ := by
  refine f_putI (t := 12) (k := 17) (i := 201) (by decide +kernel) sh_345 rfl (by decide) lk_1378 rfl rfl ?_
  refine f_name (fun t1 et1 => ?_)
  replace h := h t1 et1
  refine o_goto (off := 231) 439 (by decide +kernel) (by decide) ?_
  exact f_vret rfl (by decide +kernel) rfl h
set_option maxRecDepth 20000 in
theorem k_X12_next_232 {d : Nat} {K : x_T → Prop}  {τ : x_T} (h : (τ.1 345 14 ≤ τ.1 345 15 → K τ) ∧ (¬ τ.1 345 14 ≤ τ.1 345 15 → vp_in (τ.1 345 15) 300 ∧ (x_CI d mX12_in [.int (τ.1 348 (τ.1 345 15).toNatClampNeg), .int 48, .int 57] τ (fun t1 a2 => (a2 = 0 → K t1) ∧ (¬ a2 = 0 → (t1.1 345 18 ≤ 99999 → vp_in (t1.1 345 15) 300 ∧ (x_WV (d + 1) mX12_next K 299 [(0, .ref 345)] [.int (((10 * (t1.1 345 18)) + (t1.1 348 (t1.1 345 15).toNatClampNeg)) - 48), .ref 345] t1)) ∧ (¬ t1.1 345 18 ≤ 99999 → x_WV (d + 1) mX12_next K 299 [(0, .ref 345)] [.int (t1.1 345 18), .ref 345] t1)))))) : x_WV (d + 1) mX12_next K 232 [(0, .ref 345)] [] τ := by
  refine o_aload_n (k := 0) 0 (by decide +kernel) rfl ?_
  refine f_getI (t := 12) (k := 15) (i := 192) (by decide +kernel) sh_345 rfl (by decide) lk_1376 rfl ?_
  refine o_aload_n (k := 0) 0 (by decide +kernel) rfl ?_
  refine f_getI (t := 12) (k := 14) (i := 195) (by decide +kernel) sh_345 rfl (by decide) lk_1375 rfl ?_
  refine o_icmp_ge (off := 199) 439 (by decide +kernel) (by decide) (fun q => ?_) (fun q => ?_)
  · replace h := h.1 q
    exact f_vret rfl (by decide +kernel) rfl h
  · replace h := h.2 q
    refine o_aload_n (k := 0) 0 (by decide +kernel) rfl ?_
    refine f_getR (r := 348) (t := 12) (k := 2) (i := 16) (by decide +kernel) sh_345 rfl (by decide) lk_1363 (by simp [x_ty, tyX12]) (gr_12_2 sh_345) ?_
    refine o_aload_n (k := 0) 0 (by decide +kernel) rfl ?_
    refine f_getI (t := 12) (k := 15) (i := 192) (by decide +kernel) sh_345 rfl (by decide) lk_1376 rfl ?_
    obtain ⟨hi, h⟩ := h
    refine f_bald (by decide +kernel) sh_348 hi rfl ?_
    refine o_bipush (n := 48) (v := 48) (by decide +kernel) (by decide) ?_
    refine o_bipush (n := 57) (v := 57) (by decide +kernel) (by decide) ?_
    refine f_callSI (μ' := mX12_in) (i := 113) (vs := [.int (τ.1 348 (τ.1 345 15).toNatClampNeg), .int 48, .int 57]) (by decide +kernel) lk_1508 (cok_mX12_in) rfl (stt_mX12_in) rfl rfl (Nat.le_of_ble_eq_true rfl) ?_
    refine x_CI.mono h (fun t1 a2 h => ?_)
    refine o_if_eq (off := 180) 439 (by decide +kernel) (by decide) (fun q => ?_) (fun q => ?_)
    · replace h := h.1 q
      exact f_vret rfl (by decide +kernel) rfl h
    · replace h := h.2 q
      refine o_aload_n (k := 0) 0 (by decide +kernel) rfl ?_
      refine o_aload_n (k := 0) 0 (by decide +kernel) rfl ?_
      refine f_getI (t := 12) (k := 18) (i := 213) (by decide +kernel) sh_345 rfl (by decide) lk_1379 rfl ?_
      refine o_ldc (i := 216) (v := 99999) (by decide +kernel) lk_1586 ?_
      refine o_icmp_le (off := 10) 279 (by decide +kernel) (by decide) (fun q => ?_) (fun q => ?_)
      · replace h := h.1 q
        refine o_bipush (n := 10) (v := 10) (by decide +kernel) (by decide) ?_
        refine o_aload_n (k := 0) 0 (by decide +kernel) rfl ?_
        refine f_getI (t := 12) (k := 18) (i := 213) (by decide +kernel) sh_345 rfl (by decide) lk_1379 rfl ?_
        refine o_imul (by decide +kernel) ?_
        refine o_aload_n (k := 0) 0 (by decide +kernel) rfl ?_
        refine f_getR (r := 348) (t := 12) (k := 2) (i := 16) (by decide +kernel) sh_345 rfl (by decide) lk_1363 (by simp [x_ty, tyX12]) (gr_12_2 sh_345) ?_
        refine o_aload_n (k := 0) 0 (by decide +kernel) rfl ?_
        refine f_getI (t := 12) (k := 15) (i := 192) (by decide +kernel) sh_345 rfl (by decide) lk_1376 rfl ?_
        obtain ⟨hi, h⟩ := h
        refine f_bald (by decide +kernel) sh_348 hi rfl ?_
        refine o_iadd (by decide +kernel) ?_
        refine o_bipush (n := 48) (v := 48) (by decide +kernel) (by decide) ?_
        refine o_isub (by decide +kernel) ?_
        exact h
      · replace h := h.2 q
        refine o_aload_n (k := 0) 0 (by decide +kernel) rfl ?_
        refine f_getI (t := 12) (k := 18) (i := 213) (by decide +kernel) sh_345 rfl (by decide) lk_1379 rfl ?_
        refine o_goto (off := 23) 299 (by decide +kernel) (by decide) ?_
        exact h
set_option maxRecDepth 20000 in
theorem k_X12_next_299 {d : Nat} {K : x_T → Prop} {s0 : Int32} {τ : x_T} (h : ∀ t1, t1 = x_w1 τ 345 18 s0 → (∀ t2, t2 = x_w1 t1 345 15 ((t1.1 345 15) + 1) → (x_WV (d + 1) mX12_next K 232 [(0, .ref 345)] [] t2))) : x_WV (d + 1) mX12_next K 299 [(0, .ref 345)] [.int s0, .ref 345] τ := by
  refine f_putI (t := 12) (k := 18) (i := 213) (by decide +kernel) sh_345 rfl (by decide) lk_1379 rfl rfl ?_
  refine f_name (fun t1 et1 => ?_)
  replace h := h t1 et1
  refine o_aload_n (k := 0) 0 (by decide +kernel) rfl ?_
  refine o_dup (by decide +kernel) rfl ?_
  refine f_getI (t := 12) (k := 15) (i := 192) (by decide +kernel) sh_345 rfl (by decide) lk_1376 rfl ?_
  refine o_iconst (n := 1) (v := 1) (by decide +kernel) (by decide) ?_
  refine o_iadd (by decide +kernel) ?_
  refine f_putI (t := 12) (k := 15) (i := 192) (by decide +kernel) sh_345 rfl (by decide) lk_1376 rfl rfl ?_
  refine f_name (fun t2 et2 => ?_)
  replace h := h t2 et2
  refine o_goto (off := -80) 232 (by decide +kernel) (by decide) ?_
  exact h
set_option maxRecDepth 20000 in
theorem k_X12_next_365 {d : Nat} {K : x_T → Prop} {v1 : Int32} {τ : x_T} (h : x_WV (d + 1) mX12_next K 370 [(0, .ref 345), (1, .int v1)] [.int 3, .ref 345] τ) : x_WV (d + 1) mX12_next K 365 [(0, .ref 345), (1, .int v1)] [.ref 345] τ := by
  refine o_iconst (n := 3) (v := 3) (by decide +kernel) (by decide) ?_
  refine o_goto (off := 4) 370 (by decide +kernel) (by decide) ?_
  exact h
set_option maxRecDepth 20000 in
theorem k_X12_next_370 {d : Nat} {K : x_T → Prop} {v1 : Int32} {s0 : Int32} {τ : x_T} (h : ∀ t1, t1 = x_w1 τ 345 17 s0 → ((v1 = 60 → x_WV (d + 1) mX12_next K 385 [(0, .ref 345), (1, .int v1)] [] t1) ∧ (¬ v1 = 60 → (¬ v1 = 62 → K t1) ∧ (v1 = 62 → x_WV (d + 1) mX12_next K 385 [(0, .ref 345), (1, .int v1)] [] t1)))) : x_WV (d + 1) mX12_next K 370 [(0, .ref 345), (1, .int v1)] [.int s0, .ref 345] τ := by
  refine f_putI (t := 12) (k := 17) (i := 201) (by decide +kernel) sh_345 rfl (by decide) lk_1378 rfl rfl ?_
  refine f_name (fun t1 et1 => ?_)
  replace h := h t1 et1
  refine o_iload_n (k := 1) 1 (by decide +kernel) rfl ?_
  refine o_bipush (n := 60) (v := 60) (by decide +kernel) (by decide) ?_
  refine o_icmp_eq (off := 9) 385 (by decide +kernel) (by decide) (fun q => ?_) (fun q => ?_)
  · replace h := h.1 q
    exact h
  · replace h := h.2 q
    refine o_iload_n (k := 1) 1 (by decide +kernel) rfl ?_
    refine o_bipush (n := 62) (v := 62) (by decide +kernel) (by decide) ?_
    refine o_icmp_ne (off := 57) 439 (by decide +kernel) (by decide) (fun q => ?_) (fun q => ?_)
    · replace h := h.1 q
      exact f_vret rfl (by decide +kernel) rfl h
    · replace h := h.2 q
      exact h
set_option maxRecDepth 20000 in
theorem k_X12_next_385 {d : Nat} {K : x_T → Prop} {v1 : Int32} {τ : x_T} (h : (τ.1 345 14 ≤ τ.1 345 15 → K τ) ∧ (¬ τ.1 345 14 ≤ τ.1 345 15 → vp_in (τ.1 345 15) 300 ∧ ((¬ τ.1 348 (τ.1 345 15).toNatClampNeg = 61 → K τ) ∧ (τ.1 348 (τ.1 345 15).toNatClampNeg = 61 → (¬ v1 = 60 → x_WV (d + 1) mX12_next K 426 [(0, .ref 345)] [.int 301, .ref 345] τ) ∧ (v1 = 60 → x_WV (d + 1) mX12_next K 426 [(0, .ref 345)] [.int 300, .ref 345] τ))))) : x_WV (d + 1) mX12_next K 385 [(0, .ref 345), (1, .int v1)] [] τ := by
  refine o_aload_n (k := 0) 0 (by decide +kernel) rfl ?_
  refine f_getI (t := 12) (k := 15) (i := 192) (by decide +kernel) sh_345 rfl (by decide) lk_1376 rfl ?_
  refine o_aload_n (k := 0) 0 (by decide +kernel) rfl ?_
  refine f_getI (t := 12) (k := 14) (i := 195) (by decide +kernel) sh_345 rfl (by decide) lk_1375 rfl ?_
  refine o_icmp_ge (off := 46) 439 (by decide +kernel) (by decide) (fun q => ?_) (fun q => ?_)
  · replace h := h.1 q
    exact f_vret rfl (by decide +kernel) rfl h
  · replace h := h.2 q
    refine o_aload_n (k := 0) 0 (by decide +kernel) rfl ?_
    refine f_getR (r := 348) (t := 12) (k := 2) (i := 16) (by decide +kernel) sh_345 rfl (by decide) lk_1363 (by simp [x_ty, tyX12]) (gr_12_2 sh_345) ?_
    refine o_aload_n (k := 0) 0 (by decide +kernel) rfl ?_
    refine f_getI (t := 12) (k := 15) (i := 192) (by decide +kernel) sh_345 rfl (by decide) lk_1376 rfl ?_
    obtain ⟨hi, h⟩ := h
    refine f_bald (by decide +kernel) sh_348 hi rfl ?_
    refine o_bipush (n := 61) (v := 61) (by decide +kernel) (by decide) ?_
    refine o_icmp_ne (off := 32) 439 (by decide +kernel) (by decide) (fun q => ?_) (fun q => ?_)
    · replace h := h.1 q
      exact f_vret rfl (by decide +kernel) rfl h
    · replace h := h.2 q
      refine o_aload_n (k := 0) 0 (by decide +kernel) rfl ?_
      refine o_iload_n (k := 1) 1 (by decide +kernel) rfl ?_
      refine o_bipush (n := 60) (v := 60) (by decide +kernel) (by decide) ?_
      refine o_icmp_ne (off := 9) 423 (by decide +kernel) (by decide) (fun q => ?_) (fun q => ?_)
      · replace h := h.1 q
        refine o_sipush (n := 301) (v := 301) (by decide +kernel) (by decide) ?_
        refine o_sub [0] rfl ?_
        exact h
      · replace h := h.2 q
        refine o_sipush (n := 300) (v := 300) (by decide +kernel) (by decide) ?_
        refine o_goto (off := 6) 426 (by decide +kernel) (by decide) ?_
        refine o_sub [0] rfl ?_
        exact h
set_option maxRecDepth 20000 in
theorem k_X12_next_426 {d : Nat} {K : x_T → Prop} {s0 : Int32} {τ : x_T} (h : ∀ t1, t1 = x_w1 τ 345 18 s0 → (∀ t2, t2 = x_w1 t1 345 15 ((t1.1 345 15) + 1) → (K t2))) : x_WV (d + 1) mX12_next K 426 [(0, .ref 345)] [.int s0, .ref 345] τ := by
  refine f_putI (t := 12) (k := 18) (i := 213) (by decide +kernel) sh_345 rfl (by decide) lk_1379 rfl rfl ?_
  refine f_name (fun t1 et1 => ?_)
  replace h := h t1 et1
  refine o_aload_n (k := 0) 0 (by decide +kernel) rfl ?_
  refine o_dup (by decide +kernel) rfl ?_
  refine f_getI (t := 12) (k := 15) (i := 192) (by decide +kernel) sh_345 rfl (by decide) lk_1376 rfl ?_
  refine o_iconst (n := 1) (v := 1) (by decide +kernel) (by decide) ?_
  refine o_iadd (by decide +kernel) ?_
  refine f_putI (t := 12) (k := 15) (i := 192) (by decide +kernel) sh_345 rfl (by decide) lk_1376 rfl rfl ?_
  refine f_name (fun t2 et2 => ?_)
  replace h := h t2 et2
  exact f_vret rfl (by decide +kernel) rfl h
set_option maxRecDepth 20000 in
theorem e_X12_isSign {d : Nat} {K : x_T → Int32 → Prop} {v1 : Int32} {τ : x_T} (h : (¬ τ.1 345 17 = 3 → K τ 0) ∧ (τ.1 345 17 = 3 → (¬ τ.1 345 18 = v1 → K τ 0) ∧ (τ.1 345 18 = v1 → K τ 1))) : x_CI d mX12_isSign [.ref 345, .int v1] τ K := by
  refine x_CI_of (by decide) (Nat.le_of_ble_eq_true rfl) ?_
  show x_WI d mX12_isSign K 0 [(0, .ref 345), (1, .int v1)] [] τ
  refine o_aload_n (k := 0) 0 (by decide +kernel) rfl ?_
  refine f_getI (t := 12) (k := 17) (i := 201) (by decide +kernel) sh_345 rfl (by decide) lk_1378 rfl ?_
  refine o_iconst (n := 3) (v := 3) (by decide +kernel) (by decide) ?_
  refine o_icmp_ne (off := 15) 20 (by decide +kernel) (by decide) (fun q => ?_) (fun q => ?_)
  · replace h := h.1 q
    refine o_iconst (n := 0) (v := 0) (by decide +kernel) (by decide) ?_
    exact f_iret (ty := .boolean) rfl (by decide) (by decide +kernel) rfl h
  · replace h := h.2 q
    refine o_aload_n (k := 0) 0 (by decide +kernel) rfl ?_
    refine f_getI (t := 12) (k := 18) (i := 213) (by decide +kernel) sh_345 rfl (by decide) lk_1379 rfl ?_
    refine o_iload_n (k := 1) 1 (by decide +kernel) rfl ?_
    refine o_icmp_ne (off := 7) 20 (by decide +kernel) (by decide) (fun q => ?_) (fun q => ?_)
    · replace h := h.1 q
      refine o_iconst (n := 0) (v := 0) (by decide +kernel) (by decide) ?_
      exact f_iret (ty := .boolean) rfl (by decide) (by decide +kernel) rfl h
    · replace h := h.2 q
      refine o_iconst (n := 1) (v := 1) (by decide +kernel) (by decide) ?_
      refine o_goto (off := 4) 21 (by decide +kernel) (by decide) ?_
      exact f_iret (ty := .boolean) rfl (by decide) (by decide +kernel) rfl h
set_option maxRecDepth 20000 in
theorem e_X12_isWord {d : Nat} {K : x_T → Int32 → Prop} {v1 : Int32} {τ : x_T} (h : (¬ τ.1 345 17 = 1 → K τ 0) ∧ (τ.1 345 17 = 1 → (¬ τ.1 345 18 = v1 → K τ 0) ∧ (τ.1 345 18 = v1 → K τ 1))) : x_CI d mX12_isWord [.ref 345, .int v1] τ K := by
  refine x_CI_of (by decide) (Nat.le_of_ble_eq_true rfl) ?_
  show x_WI d mX12_isWord K 0 [(0, .ref 345), (1, .int v1)] [] τ
  refine o_aload_n (k := 0) 0 (by decide +kernel) rfl ?_
  refine f_getI (t := 12) (k := 17) (i := 201) (by decide +kernel) sh_345 rfl (by decide) lk_1378 rfl ?_
  refine o_iconst (n := 1) (v := 1) (by decide +kernel) (by decide) ?_
  refine o_icmp_ne (off := 15) 20 (by decide +kernel) (by decide) (fun q => ?_) (fun q => ?_)
  · replace h := h.1 q
    refine o_iconst (n := 0) (v := 0) (by decide +kernel) (by decide) ?_
    exact f_iret (ty := .boolean) rfl (by decide) (by decide +kernel) rfl h
  · replace h := h.2 q
    refine o_aload_n (k := 0) 0 (by decide +kernel) rfl ?_
    refine f_getI (t := 12) (k := 18) (i := 213) (by decide +kernel) sh_345 rfl (by decide) lk_1379 rfl ?_
    refine o_iload_n (k := 1) 1 (by decide +kernel) rfl ?_
    refine o_icmp_ne (off := 7) 20 (by decide +kernel) (by decide) (fun q => ?_) (fun q => ?_)
    · replace h := h.1 q
      refine o_iconst (n := 0) (v := 0) (by decide +kernel) (by decide) ?_
      exact f_iret (ty := .boolean) rfl (by decide) (by decide +kernel) rfl h
    · replace h := h.2 q
      refine o_iconst (n := 1) (v := 1) (by decide +kernel) (by decide) ?_
      refine o_goto (off := 4) 21 (by decide +kernel) (by decide) ?_
      exact f_iret (ty := .boolean) rfl (by decide) (by decide +kernel) rfl h
set_option maxRecDepth 20000 in
theorem e_X12_errs {d : Nat} {K : x_T → Prop} {v1 : Int32} {τ : x_T} (h : (¬ τ.1 345 19 = 0 → K τ) ∧ (τ.1 345 19 = 0 → ∀ t1, t1 = x_w1 τ 345 19 v1 → (∀ t2, t2 = x_w1 t1 345 20 (t1.1 345 16) → (K t2)))) : x_CV d mX12_errs [.ref 345, .int v1] τ K := by
  refine x_CV_of (by decide) (Nat.le_of_ble_eq_true rfl) ?_
  show x_WV d mX12_errs K 0 [(0, .ref 345), (1, .int v1)] [] τ
  refine o_aload_n (k := 0) 0 (by decide +kernel) rfl ?_
  refine f_getI (t := 12) (k := 19) (i := 217) (by decide +kernel) sh_345 rfl (by decide) lk_1380 rfl ?_
  refine o_if_ne (off := 16) 20 (by decide +kernel) (by decide) (fun q => ?_) (fun q => ?_)
  · replace h := h.1 q
    exact f_vret rfl (by decide +kernel) rfl h
  · replace h := h.2 q
    refine o_aload_n (k := 0) 0 (by decide +kernel) rfl ?_
    refine o_iload_n (k := 1) 1 (by decide +kernel) rfl ?_
    refine f_putI (t := 12) (k := 19) (i := 217) (by decide +kernel) sh_345 rfl (by decide) lk_1380 rfl rfl ?_
    refine f_name (fun t1 et1 => ?_)
    replace h := h t1 et1
    refine o_aload_n (k := 0) 0 (by decide +kernel) rfl ?_
    refine o_aload_n (k := 0) 0 (by decide +kernel) rfl ?_
    refine f_getI (t := 12) (k := 16) (i := 198) (by decide +kernel) sh_345 rfl (by decide) lk_1377 rfl ?_
    refine f_putI (t := 12) (k := 20) (i := 220) (by decide +kernel) sh_345 rfl (by decide) lk_1381 rfl rfl ?_
    refine f_name (fun t2 et2 => ?_)
    replace h := h t2 et2
    exact f_vret rfl (by decide +kernel) rfl h
set_option maxRecDepth 20000 in
theorem e_X12_emits {d : Nat} {K : x_T → Prop} {v1 : Int32} {v2 : Int32} {τ : x_T} (h : vp_in (τ.1 345 37) 400 ∧ (∀ t1, t1 = x_w1 τ 367 ((τ.1 345 37).toNatClampNeg) v1 → (vp_in (t1.1 345 37) 400 ∧ (∀ t2, t2 = x_w1 t1 368 ((t1.1 345 37).toNatClampNeg) v2 → (∀ t3, t3 = x_w1 t2 345 37 ((t2.1 345 37) + 1) → (K t3)))))) : x_CV d mX12_emits [.ref 345, .int v1, .int v2] τ K := by
  refine x_CV_of (by decide) (Nat.le_of_ble_eq_true rfl) ?_
  show x_WV d mX12_emits K 0 [(0, .ref 345), (1, .int v1), (2, .int v2)] [] τ
  refine o_aload_n (k := 0) 0 (by decide +kernel) rfl ?_
  refine f_getR (r := 367) (t := 12) (k := 38) (i := 81) (by decide +kernel) sh_345 rfl (by decide) lk_1399 (by simp [x_ty, tyX12]) (gr_12_38 sh_345) ?_
  refine o_aload_n (k := 0) 0 (by decide +kernel) rfl ?_
  refine f_getI (t := 12) (k := 37) (i := 223) (by decide +kernel) sh_345 rfl (by decide) lk_1398 rfl ?_
  refine o_iload_n (k := 1) 1 (by decide +kernel) rfl ?_
  obtain ⟨hi, h⟩ := h
  refine f_iast (by decide +kernel) sh_367 hi rfl ?_
  refine f_name (fun t1 et1 => ?_)
  replace h := h t1 et1
  refine o_aload_n (k := 0) 0 (by decide +kernel) rfl ?_
  refine f_getR (r := 368) (t := 12) (k := 39) (i := 84) (by decide +kernel) sh_345 rfl (by decide) lk_1400 (by simp [x_ty, tyX12]) (gr_12_39 sh_345) ?_
  refine o_aload_n (k := 0) 0 (by decide +kernel) rfl ?_
  refine f_getI (t := 12) (k := 37) (i := 223) (by decide +kernel) sh_345 rfl (by decide) lk_1398 rfl ?_
  refine o_iload_n (k := 2) 2 (by decide +kernel) rfl ?_
  obtain ⟨hi, h⟩ := h
  refine f_iast (by decide +kernel) sh_368 hi rfl ?_
  refine f_name (fun t2 et2 => ?_)
  replace h := h t2 et2
  refine o_aload_n (k := 0) 0 (by decide +kernel) rfl ?_
  refine o_dup (by decide +kernel) rfl ?_
  refine f_getI (t := 12) (k := 37) (i := 223) (by decide +kernel) sh_345 rfl (by decide) lk_1398 rfl ?_
  refine o_iconst (n := 1) (v := 1) (by decide +kernel) (by decide) ?_
  refine o_iadd (by decide +kernel) ?_
  refine f_putI (t := 12) (k := 37) (i := 223) (by decide +kernel) sh_345 rfl (by decide) lk_1398 rfl rfl ?_
  refine f_name (fun t3 et3 => ?_)
  replace h := h t3 et3
  exact f_vret rfl (by decide +kernel) rfl h
set_option maxRecDepth 20000 in
theorem e_X12_opensFrame {d : Nat} {K : x_T → Prop} {v1 : Int32} {τ : x_T} (h : vp_in (τ.1 345 22) 40 ∧ (∀ t1, t1 = x_w1 τ 357 ((τ.1 345 22).toNatClampNeg) v1 → (∀ t2, t2 = x_w1 t1 345 22 ((t1.1 345 22) + 1) → (K t2)))) : x_CV d mX12_opensFrame [.ref 345, .int v1] τ K := by
  refine x_CV_of (by decide) (Nat.le_of_ble_eq_true rfl) ?_
  show x_WV d mX12_opensFrame K 0 [(0, .ref 345), (1, .int v1)] [] τ
  refine o_aload_n (k := 0) 0 (by decide +kernel) rfl ?_
  refine f_getR (r := 357) (t := 12) (k := 23) (i := 51) (by decide +kernel) sh_345 rfl (by decide) lk_1384 (by simp [x_ty, tyX12]) (gr_12_23 sh_345) ?_
  refine o_aload_n (k := 0) 0 (by decide +kernel) rfl ?_
  refine f_getI (t := 12) (k := 22) (i := 226) (by decide +kernel) sh_345 rfl (by decide) lk_1383 rfl ?_
  refine o_iload_n (k := 1) 1 (by decide +kernel) rfl ?_
  obtain ⟨hi, h⟩ := h
  refine f_iast (by decide +kernel) sh_357 hi rfl ?_
  refine f_name (fun t1 et1 => ?_)
  replace h := h t1 et1
  refine o_aload_n (k := 0) 0 (by decide +kernel) rfl ?_
  refine o_dup (by decide +kernel) rfl ?_
  refine f_getI (t := 12) (k := 22) (i := 226) (by decide +kernel) sh_345 rfl (by decide) lk_1383 rfl ?_
  refine o_iconst (n := 1) (v := 1) (by decide +kernel) (by decide) ?_
  refine o_iadd (by decide +kernel) ?_
  refine f_putI (t := 12) (k := 22) (i := 226) (by decide +kernel) sh_345 rfl (by decide) lk_1383 rfl rfl ?_
  refine f_name (fun t2 et2 => ?_)
  replace h := h t2 et2
  exact f_vret rfl (by decide +kernel) rfl h
set_option maxRecDepth 20000 in
theorem e_X12_top {d : Nat} {K : x_T → Int32 → Prop}  {τ : x_T} (h : vp_in ((τ.1 345 22) - 1) 40 ∧ (K τ (τ.1 357 ((τ.1 345 22) - 1).toNatClampNeg))) : x_CI d mX12_top [.ref 345] τ K := by
  refine x_CI_of (by decide) (Nat.le_of_ble_eq_true rfl) ?_
  show x_WI d mX12_top K 0 [(0, .ref 345)] [] τ
  refine o_aload_n (k := 0) 0 (by decide +kernel) rfl ?_
  refine f_getR (r := 357) (t := 12) (k := 23) (i := 51) (by decide +kernel) sh_345 rfl (by decide) lk_1384 (by simp [x_ty, tyX12]) (gr_12_23 sh_345) ?_
  refine o_aload_n (k := 0) 0 (by decide +kernel) rfl ?_
  refine f_getI (t := 12) (k := 22) (i := 226) (by decide +kernel) sh_345 rfl (by decide) lk_1383 rfl ?_
  refine o_iconst (n := 1) (v := 1) (by decide +kernel) (by decide) ?_
  refine o_isub (by decide +kernel) ?_
  obtain ⟨hi, h⟩ := h
  refine f_iald (by decide +kernel) sh_357 hi rfl ?_
  exact f_iret (ty := .int) rfl rfl (by decide +kernel) rfl h
set_option maxRecDepth 20000 in
theorem e_X12_opensSign {d : Nat} {K : x_T → Int32 → Prop} {v1 : Int32} {τ : x_T} (h : (¬ τ.1 345 21 = 8 → ∀ t1, t1 = x_w1 τ 345 21 ((τ.1 345 21) + 1) → (x_CV d mX12_opensFrame [.ref 345, .int v1] t1 (fun t2 => x_CV d mX12_next [.ref 345] t2 (fun t4 => K t4 1)))) ∧ (τ.1 345 21 = 8 → x_CV d mX12_errs [.ref 345, .int 3] τ (fun t6 => K t6 0))) : x_CI (d + 1) mX12_opensSign [.ref 345, .int v1] τ K := by
  refine x_CI_of (by decide) (Nat.le_of_ble_eq_true rfl) ?_
  show x_WI (d + 1) mX12_opensSign K 0 [(0, .ref 345), (1, .int v1)] [] τ
  refine o_aload_n (k := 0) 0 (by decide +kernel) rfl ?_
  refine f_getI (t := 12) (k := 21) (i := 229) (by decide +kernel) sh_345 rfl (by decide) lk_1382 rfl ?_
  refine o_bipush (n := 8) (v := 8) (by decide +kernel) (by decide) ?_
  refine o_icmp_ne (off := 10) 16 (by decide +kernel) (by decide) (fun q => ?_) (fun q => ?_)
  · replace h := h.1 q
    refine o_aload_n (k := 0) 0 (by decide +kernel) rfl ?_
    refine o_dup (by decide +kernel) rfl ?_
    refine f_getI (t := 12) (k := 21) (i := 229) (by decide +kernel) sh_345 rfl (by decide) lk_1382 rfl ?_
    refine o_iconst (n := 1) (v := 1) (by decide +kernel) (by decide) ?_
    refine o_iadd (by decide +kernel) ?_
    refine f_putI (t := 12) (k := 21) (i := 229) (by decide +kernel) sh_345 rfl (by decide) lk_1382 rfl rfl ?_
    refine f_name (fun t1 et1 => ?_)
    replace h := h t1 et1
    refine o_aload_n (k := 0) 0 (by decide +kernel) rfl ?_
    refine o_iload_n (k := 1) 1 (by decide +kernel) rfl ?_
    refine f_callVV (μ' := mX12_opensFrame) (i := 235) (vs := [.int v1]) (by decide +kernel) lk_1603 (vok_mX12_opensFrame) sh_345 rfl rfl rfl rfl (Nat.le_of_ble_eq_true rfl) ?_
    refine x_CV.mono h (fun t2 h => ?_)
    refine o_aload_n (k := 0) 0 (by decide +kernel) rfl ?_
    refine f_callVV (μ' := mX12_next) (i := 238) (vs := []) (by decide +kernel) lk_1543 (vok_mX12_next) sh_345 rfl rfl rfl rfl (Nat.le_of_ble_eq_true rfl) ?_
    refine x_CV.mono h (fun t4 h => ?_)
    refine o_iconst (n := 1) (v := 1) (by decide +kernel) (by decide) ?_
    exact f_iret (ty := .boolean) rfl (by decide) (by decide +kernel) rfl h
  · replace h := h.2 q
    refine o_aload_n (k := 0) 0 (by decide +kernel) rfl ?_
    refine o_iconst (n := 3) (v := 3) (by decide +kernel) (by decide) ?_
    refine f_callVV (μ' := mX12_errs) (i := 232) (vs := [.int 3]) (by decide +kernel) lk_1599 (vok_mX12_errs) sh_345 rfl rfl rfl rfl (Nat.le_of_ble_eq_true rfl) ?_
    refine x_CV.mono h (fun t6 h => ?_)
    refine o_iconst (n := 0) (v := 0) (by decide +kernel) (by decide) ?_
    exact f_iret (ty := .boolean) rfl (by decide) (by decide +kernel) rfl h
set_option maxRecDepth 20000 in
theorem e_X12_rank {d : Nat} {K : x_T → Int32 → Prop} {v0 : Int32} {τ : x_T} (h : (¬ v0 = 407 → (¬ v0 = 406 → (v0 = 43 → K τ 3) ∧ (¬ v0 = 43 → (¬ v0 = 45 → K τ 4) ∧ (v0 = 45 → K τ 3))) ∧ (v0 = 406 → K τ 2)) ∧ (v0 = 407 → K τ 1)) : x_CI d mX12_rank [.int v0] τ K := by
  refine x_CI_of (by decide) (Nat.le_of_ble_eq_true rfl) ?_
  show x_WI d mX12_rank K 0 [(0, .int v0)] [] τ
  refine o_iload_n (k := 0) 0 (by decide +kernel) rfl ?_
  refine o_sipush (n := 407) (v := 407) (by decide +kernel) (by decide) ?_
  refine o_icmp_ne (off := 7) 11 (by decide +kernel) (by decide) (fun q => ?_) (fun q => ?_)
  · replace h := h.1 q
    refine o_iload_n (k := 0) 0 (by decide +kernel) rfl ?_
    refine o_sipush (n := 406) (v := 406) (by decide +kernel) (by decide) ?_
    refine o_icmp_ne (off := 7) 22 (by decide +kernel) (by decide) (fun q => ?_) (fun q => ?_)
    · replace h := h.1 q
      refine o_iload_n (k := 0) 0 (by decide +kernel) rfl ?_
      refine o_bipush (n := 43) (v := 43) (by decide +kernel) (by decide) ?_
      refine o_icmp_eq (off := 9) 34 (by decide +kernel) (by decide) (fun q => ?_) (fun q => ?_)
      · replace h := h.1 q
        refine o_iconst (n := 3) (v := 3) (by decide +kernel) (by decide) ?_
        refine o_goto (off := 4) 39 (by decide +kernel) (by decide) ?_
        exact f_iret (ty := .int) rfl rfl (by decide +kernel) rfl h
      · replace h := h.2 q
        refine o_iload_n (k := 0) 0 (by decide +kernel) rfl ?_
        refine o_bipush (n := 45) (v := 45) (by decide +kernel) (by decide) ?_
        refine o_icmp_ne (off := 7) 38 (by decide +kernel) (by decide) (fun q => ?_) (fun q => ?_)
        · replace h := h.1 q
          refine o_iconst (n := 4) (v := 4) (by decide +kernel) (by decide) ?_
          exact f_iret (ty := .int) rfl rfl (by decide +kernel) rfl h
        · replace h := h.2 q
          refine o_iconst (n := 3) (v := 3) (by decide +kernel) (by decide) ?_
          refine o_goto (off := 4) 39 (by decide +kernel) (by decide) ?_
          exact f_iret (ty := .int) rfl rfl (by decide +kernel) rfl h
    · replace h := h.2 q
      refine o_iconst (n := 2) (v := 2) (by decide +kernel) (by decide) ?_
      refine o_goto (off := 20) 39 (by decide +kernel) (by decide) ?_
      exact f_iret (ty := .int) rfl rfl (by decide +kernel) rfl h
  · replace h := h.2 q
    refine o_iconst (n := 1) (v := 1) (by decide +kernel) (by decide) ?_
    refine o_goto (off := 31) 39 (by decide +kernel) (by decide) ?_
    exact f_iret (ty := .int) rfl rfl (by decide +kernel) rfl h
set_option maxRecDepth 20000 in
theorem e_X12_works {d : Nat} {K : x_T → Prop} {v1 : Int32} {τ : x_T} (h : x_WV (d + 1) mX12_works K 0 [(0, .ref 345), (1, .int v1)] [] τ) : x_CV (d + 1) mX12_works [.ref 345, .int v1] τ K := by
  exact x_CV_of (by decide) (Nat.le_of_ble_eq_true rfl) h
set_option maxRecDepth 20000 in
theorem k_X12_works_0 {d : Nat} {K : x_T → Prop} {v1 : Int32} {τ : x_T} (h : (τ.1 345 25 ≤ 0 → K τ) ∧ (¬ τ.1 345 25 ≤ 0 → vp_in ((τ.1 345 25) - 1) 80 ∧ ((¬ τ.1 360 ((τ.1 345 25) - 1).toNatClampNeg = τ.1 345 22 → K τ) ∧ (τ.1 360 ((τ.1 345 25) - 1).toNatClampNeg = τ.1 345 22 → vp_in ((τ.1 345 25) - 1) 80 ∧ (x_CI d mX12_rank [.int (τ.1 359 ((τ.1 345 25) - 1).toNatClampNeg)] τ (fun t1 a2 => (a2 < v1 → K t1) ∧ (¬ a2 < v1 → ∀ t3, t3 = x_w1 t1 345 25 ((t1.1 345 25) - 1) → (vp_in (t3.1 345 25) 80 ∧ (x_CV d mX12_emits [.ref 345, .int (t3.1 359 (t3.1 345 25).toNatClampNeg), .int 0] t3 (fun t4 => x_WV (d + 1) mX12_works K 0 [(0, .ref 345), (1, .int v1)] [] t4)))))))))) : x_WV (d + 1) mX12_works K 0 [(0, .ref 345), (1, .int v1)] [] τ := by
  refine o_aload_n (k := 0) 0 (by decide +kernel) rfl ?_
  refine f_getI (t := 12) (k := 25) (i := 241) (by decide +kernel) sh_345 rfl (by decide) lk_1386 rfl ?_
  refine o_if_le (off := 66) 70 (by decide +kernel) (by decide) (fun q => ?_) (fun q => ?_)
  · replace h := h.1 q
    exact f_vret rfl (by decide +kernel) rfl h
  · replace h := h.2 q
    refine o_aload_n (k := 0) 0 (by decide +kernel) rfl ?_
    refine f_getR (r := 360) (t := 12) (k := 27) (i := 60) (by decide +kernel) sh_345 rfl (by decide) lk_1388 (by simp [x_ty, tyX12]) (gr_12_27 sh_345) ?_
    refine o_aload_n (k := 0) 0 (by decide +kernel) rfl ?_
    refine f_getI (t := 12) (k := 25) (i := 241) (by decide +kernel) sh_345 rfl (by decide) lk_1386 rfl ?_
    refine o_iconst (n := 1) (v := 1) (by decide +kernel) (by decide) ?_
    refine o_isub (by decide +kernel) ?_
    obtain ⟨hi, h⟩ := h
    refine f_iald (by decide +kernel) sh_360 hi rfl ?_
    refine o_aload_n (k := 0) 0 (by decide +kernel) rfl ?_
    refine f_getI (t := 12) (k := 22) (i := 226) (by decide +kernel) sh_345 rfl (by decide) lk_1383 rfl ?_
    refine o_icmp_ne (off := 48) 70 (by decide +kernel) (by decide) (fun q => ?_) (fun q => ?_)
    · replace h := h.1 q
      exact f_vret rfl (by decide +kernel) rfl h
    · replace h := h.2 q
      refine o_aload_n (k := 0) 0 (by decide +kernel) rfl ?_
      refine f_getR (r := 359) (t := 12) (k := 26) (i := 57) (by decide +kernel) sh_345 rfl (by decide) lk_1387 (by simp [x_ty, tyX12]) (gr_12_26 sh_345) ?_
      refine o_aload_n (k := 0) 0 (by decide +kernel) rfl ?_
      refine f_getI (t := 12) (k := 25) (i := 241) (by decide +kernel) sh_345 rfl (by decide) lk_1386 rfl ?_
      refine o_iconst (n := 1) (v := 1) (by decide +kernel) (by decide) ?_
      refine o_isub (by decide +kernel) ?_
      obtain ⟨hi, h⟩ := h
      refine f_iald (by decide +kernel) sh_359 hi rfl ?_
      refine f_callSI (μ' := mX12_rank) (i := 244) (vs := [.int (τ.1 359 ((τ.1 345 25) - 1).toNatClampNeg)]) (by decide +kernel) lk_1646 (cok_mX12_rank) rfl (stt_mX12_rank) rfl rfl (Nat.le_of_ble_eq_true rfl) ?_
      refine x_CI.mono h (fun t1 a2 h => ?_)
      refine o_iload_n (k := 1) 1 (by decide +kernel) rfl ?_
      refine o_icmp_lt (off := 30) 70 (by decide +kernel) (by decide) (fun q => ?_) (fun q => ?_)
      · replace h := h.1 q
        exact f_vret rfl (by decide +kernel) rfl h
      · replace h := h.2 q
        refine o_aload_n (k := 0) 0 (by decide +kernel) rfl ?_
        refine o_dup (by decide +kernel) rfl ?_
        refine f_getI (t := 12) (k := 25) (i := 241) (by decide +kernel) sh_345 rfl (by decide) lk_1386 rfl ?_
        refine o_iconst (n := 1) (v := 1) (by decide +kernel) (by decide) ?_
        refine o_isub (by decide +kernel) ?_
        refine f_putI (t := 12) (k := 25) (i := 241) (by decide +kernel) sh_345 rfl (by decide) lk_1386 rfl rfl ?_
        refine f_name (fun t3 et3 => ?_)
        replace h := h t3 et3
        refine o_aload_n (k := 0) 0 (by decide +kernel) rfl ?_
        refine o_aload_n (k := 0) 0 (by decide +kernel) rfl ?_
        refine f_getR (r := 359) (t := 12) (k := 26) (i := 57) (by decide +kernel) sh_345 rfl (by decide) lk_1387 (by simp [x_ty, tyX12]) (gr_12_26 sh_345) ?_
        refine o_aload_n (k := 0) 0 (by decide +kernel) rfl ?_
        refine f_getI (t := 12) (k := 25) (i := 241) (by decide +kernel) sh_345 rfl (by decide) lk_1386 rfl ?_
        obtain ⟨hi, h⟩ := h
        refine f_iald (by decide +kernel) sh_359 hi rfl ?_
        refine o_iconst (n := 0) (v := 0) (by decide +kernel) (by decide) ?_
        refine f_callVV (μ' := mX12_emits) (i := 248) (vs := [.int (t3.1 359 (t3.1 345 25).toNatClampNeg), .int 0]) (by decide +kernel) lk_1615 (vok_mX12_emits) sh_345 rfl rfl rfl rfl (Nat.le_of_ble_eq_true rfl) ?_
        refine x_CV.mono h (fun t4 h => ?_)
        refine o_goto (off := -67) 0 (by decide +kernel) (by decide) ?_
        exact h
set_option maxRecDepth 20000 in
theorem e_X12_waitsFor {d : Nat} {K : x_T → Prop} {v1 : Int32} {τ : x_T} (h : x_CI d mX12_rank [.int v1] τ (fun t1 a2 => x_CV d mX12_works [.ref 345, .int a2] t1 (fun t3 => vp_in (t3.1 345 25) 80 ∧ (∀ t5, t5 = x_w1 t3 359 ((t3.1 345 25).toNatClampNeg) v1 → (vp_in (t5.1 345 25) 80 ∧ (∀ t6, t6 = x_w1 t5 360 ((t5.1 345 25).toNatClampNeg) (t5.1 345 22) → (∀ t7, t7 = x_w1 t6 345 25 ((t6.1 345 25) + 1) → (x_CV d mX12_next [.ref 345] t7 (fun t8 => K t8))))))))) : x_CV (d + 1) mX12_waitsFor [.ref 345, .int v1] τ K := by
  refine x_CV_of (by decide) (Nat.le_of_ble_eq_true rfl) ?_
  show x_WV (d + 1) mX12_waitsFor K 0 [(0, .ref 345), (1, .int v1)] [] τ
  refine o_aload_n (k := 0) 0 (by decide +kernel) rfl ?_
  refine o_iload_n (k := 1) 1 (by decide +kernel) rfl ?_
  refine f_callSI (μ' := mX12_rank) (i := 244) (vs := [.int v1]) (by decide +kernel) lk_1646 (cok_mX12_rank) rfl (stt_mX12_rank) rfl rfl (Nat.le_of_ble_eq_true rfl) ?_
  refine x_CI.mono h (fun t1 a2 h => ?_)
  refine f_callVV (μ' := mX12_works) (i := 252) (vs := [.int a2]) (by decide +kernel) lk_1649 (vok_mX12_works) sh_345 rfl rfl rfl rfl (Nat.le_of_ble_eq_true rfl) ?_
  refine x_CV.mono h (fun t3 h => ?_)
  refine o_aload_n (k := 0) 0 (by decide +kernel) rfl ?_
  refine f_getR (r := 359) (t := 12) (k := 26) (i := 57) (by decide +kernel) sh_345 rfl (by decide) lk_1387 (by simp [x_ty, tyX12]) (gr_12_26 sh_345) ?_
  refine o_aload_n (k := 0) 0 (by decide +kernel) rfl ?_
  refine f_getI (t := 12) (k := 25) (i := 241) (by decide +kernel) sh_345 rfl (by decide) lk_1386 rfl ?_
  refine o_iload_n (k := 1) 1 (by decide +kernel) rfl ?_
  obtain ⟨hi, h⟩ := h
  refine f_iast (by decide +kernel) sh_359 hi rfl ?_
  refine f_name (fun t5 et5 => ?_)
  replace h := h t5 et5
  refine o_aload_n (k := 0) 0 (by decide +kernel) rfl ?_
  refine f_getR (r := 360) (t := 12) (k := 27) (i := 60) (by decide +kernel) sh_345 rfl (by decide) lk_1388 (by simp [x_ty, tyX12]) (gr_12_27 sh_345) ?_
  refine o_aload_n (k := 0) 0 (by decide +kernel) rfl ?_
  refine f_getI (t := 12) (k := 25) (i := 241) (by decide +kernel) sh_345 rfl (by decide) lk_1386 rfl ?_
  refine o_aload_n (k := 0) 0 (by decide +kernel) rfl ?_
  refine f_getI (t := 12) (k := 22) (i := 226) (by decide +kernel) sh_345 rfl (by decide) lk_1383 rfl ?_
  obtain ⟨hi, h⟩ := h
  refine f_iast (by decide +kernel) sh_360 hi rfl ?_
  refine f_name (fun t6 et6 => ?_)
  replace h := h t6 et6
  refine o_aload_n (k := 0) 0 (by decide +kernel) rfl ?_
  refine o_dup (by decide +kernel) rfl ?_
  refine f_getI (t := 12) (k := 25) (i := 241) (by decide +kernel) sh_345 rfl (by decide) lk_1386 rfl ?_
  refine o_iconst (n := 1) (v := 1) (by decide +kernel) (by decide) ?_
  refine o_iadd (by decide +kernel) ?_
  refine f_putI (t := 12) (k := 25) (i := 241) (by decide +kernel) sh_345 rfl (by decide) lk_1386 rfl rfl ?_
  refine f_name (fun t7 et7 => ?_)
  replace h := h t7 et7
  refine o_aload_n (k := 0) 0 (by decide +kernel) rfl ?_
  refine f_callVV (μ' := mX12_next) (i := 238) (vs := []) (by decide +kernel) lk_1543 (vok_mX12_next) sh_345 rfl rfl rfl rfl (Nat.le_of_ble_eq_true rfl) ?_
  refine x_CV.mono h (fun t8 h => ?_)
  exact f_vret rfl (by decide +kernel) rfl h
set_option maxRecDepth 20000 in
theorem e_X12_asks {d : Nat} {K : x_T → Prop}  {τ : x_T} (h : x_CI d mX12_isWord [.ref 345, .int 21] τ (fun t1 a2 => (a2 = 0 → x_CV d mX12_opensFrame [.ref 345, .int 4] t1 (fun t3 => ∀ t5, t5 = x_w1 t3 345 28 1 → (K t5))) ∧ (¬ a2 = 0 → x_CI d mX12_opensSign [.ref 345, .int 3] t1 (fun t6 a7 => K t6)))) : x_CV (d + 1) mX12_asks [.ref 345] τ K := by
  refine x_CV_of (by decide) (Nat.le_of_ble_eq_true rfl) ?_
  show x_WV (d + 1) mX12_asks K 0 [(0, .ref 345)] [] τ
  refine o_aload_n (k := 0) 0 (by decide +kernel) rfl ?_
  refine o_bipush (n := 21) (v := 21) (by decide +kernel) (by decide) ?_
  refine f_callVI (μ' := mX12_isWord) (i := 255) (vs := [.int 21]) (by decide +kernel) lk_1591 (vok_mX12_isWord) sh_345 rfl rfl rfl rfl (Nat.le_of_ble_eq_true rfl) ?_
  refine x_CI.mono h (fun t1 a2 h => ?_)
  refine o_if_eq (off := 12) 18 (by decide +kernel) (by decide) (fun q => ?_) (fun q => ?_)
  · replace h := h.1 q
    refine o_aload_n (k := 0) 0 (by decide +kernel) rfl ?_
    refine o_iconst (n := 4) (v := 4) (by decide +kernel) (by decide) ?_
    refine f_callVV (μ' := mX12_opensFrame) (i := 235) (vs := [.int 4]) (by decide +kernel) lk_1603 (vok_mX12_opensFrame) sh_345 rfl rfl rfl rfl (Nat.le_of_ble_eq_true rfl) ?_
    refine x_CV.mono h (fun t3 h => ?_)
    refine o_aload_n (k := 0) 0 (by decide +kernel) rfl ?_
    refine o_iconst (n := 1) (v := 1) (by decide +kernel) (by decide) ?_
    refine f_putI (t := 12) (k := 28) (i := 261) (by decide +kernel) sh_345 rfl (by decide) lk_1389 rfl rfl ?_
    refine f_name (fun t5 et5 => ?_)
    replace h := h t5 et5
    exact f_vret rfl (by decide +kernel) rfl h
  · replace h := h.2 q
    refine o_aload_n (k := 0) 0 (by decide +kernel) rfl ?_
    refine o_iconst (n := 3) (v := 3) (by decide +kernel) (by decide) ?_
    refine f_callVI (μ' := mX12_opensSign) (i := 258) (vs := [.int 3]) (by decide +kernel) lk_1595 (vok_mX12_opensSign) sh_345 rfl rfl rfl rfl (Nat.le_of_ble_eq_true rfl) ?_
    refine x_CI.mono h (fun t6 a7 h => ?_)
    refine o_istore_n (k := 1) (L' := [(1, .int a7), (0, .ref 345)]) (by decide +kernel) (by decide) rfl ?_
    refine o_goto (off := 13) 28 (by decide +kernel) (by decide) ?_
    exact f_vret rfl (by decide +kernel) rfl h
set_option maxRecDepth 20000 in
theorem e_X12_mayName {d : Nat} {K : x_T → Int32 → Prop} {v0 : Int32} {v1 : Int32} {τ : x_T} (h : (v0 < 3 → K τ 1) ∧ (¬ v0 < 3 → (6 ≤ v0 → (9 ≤ v0 → (11 ≤ v0 → (¬ v1 = 3 → K τ 0) ∧ (v1 = 3 → K τ 1)) ∧ (¬ 11 ≤ v0 → (¬ v1 = 1 → K τ 0) ∧ (v1 = 1 → K τ 1))) ∧ (¬ 9 ≤ v0 → (¬ v1 = 0 → K τ 0) ∧ (v1 = 0 → K τ 1))) ∧ (¬ 6 ≤ v0 → (¬ v1 = 2 → K τ 0) ∧ (v1 = 2 → K τ 1)))) : x_CI d mX12_mayName [.int v0, .int v1] τ K := by
  refine x_CI_of (by decide) (Nat.le_of_ble_eq_true rfl) ?_
  show x_WI d mX12_mayName K 0 [(0, .int v0), (1, .int v1)] [] τ
  refine o_iload_n (k := 0) 0 (by decide +kernel) rfl ?_
  refine o_iconst (n := 3) (v := 3) (by decide +kernel) (by decide) ?_
  refine o_icmp_lt (off := 49) 51 (by decide +kernel) (by decide) (fun q => ?_) (fun q => ?_)
  · replace h := h.1 q
    refine o_iconst (n := 1) (v := 1) (by decide +kernel) (by decide) ?_
    refine o_goto (off := 4) 56 (by decide +kernel) (by decide) ?_
    exact f_iret (ty := .boolean) rfl (by decide) (by decide +kernel) rfl h
  · replace h := h.2 q
    refine o_iload_n (k := 0) 0 (by decide +kernel) rfl ?_
    refine o_bipush (n := 6) (v := 6) (by decide +kernel) (by decide) ?_
    refine o_icmp_ge (off := 11) 19 (by decide +kernel) (by decide) (fun q => ?_) (fun q => ?_)
    · replace h := h.1 q
      refine o_iload_n (k := 0) 0 (by decide +kernel) rfl ?_
      refine o_bipush (n := 9) (v := 9) (by decide +kernel) (by decide) ?_
      refine o_icmp_ge (off := 10) 32 (by decide +kernel) (by decide) (fun q => ?_) (fun q => ?_)
      · replace h := h.1 q
        refine o_iload_n (k := 0) 0 (by decide +kernel) rfl ?_
        refine o_bipush (n := 11) (v := 11) (by decide +kernel) (by decide) ?_
        refine o_icmp_ge (off := 11) 46 (by decide +kernel) (by decide) (fun q => ?_) (fun q => ?_)
        · replace h := h.1 q
          refine o_iload_n (k := 1) 1 (by decide +kernel) rfl ?_
          refine o_iconst (n := 3) (v := 3) (by decide +kernel) (by decide) ?_
          refine o_icmp_ne (off := 7) 55 (by decide +kernel) (by decide) (fun q => ?_) (fun q => ?_)
          · replace h := h.1 q
            refine o_iconst (n := 0) (v := 0) (by decide +kernel) (by decide) ?_
            exact f_iret (ty := .boolean) rfl (by decide) (by decide +kernel) rfl h
          · replace h := h.2 q
            refine o_iconst (n := 1) (v := 1) (by decide +kernel) (by decide) ?_
            refine o_goto (off := 4) 56 (by decide +kernel) (by decide) ?_
            exact f_iret (ty := .boolean) rfl (by decide) (by decide +kernel) rfl h
        · replace h := h.2 q
          refine o_iload_n (k := 1) 1 (by decide +kernel) rfl ?_
          refine o_iconst (n := 1) (v := 1) (by decide +kernel) (by decide) ?_
          refine o_icmp_ne (off := 15) 55 (by decide +kernel) (by decide) (fun q => ?_) (fun q => ?_)
          · replace h := h.1 q
            refine o_iconst (n := 0) (v := 0) (by decide +kernel) (by decide) ?_
            exact f_iret (ty := .boolean) rfl (by decide) (by decide +kernel) rfl h
          · replace h := h.2 q
            refine o_goto (off := 8) 51 (by decide +kernel) (by decide) ?_
            refine o_iconst (n := 1) (v := 1) (by decide +kernel) (by decide) ?_
            refine o_goto (off := 4) 56 (by decide +kernel) (by decide) ?_
            exact f_iret (ty := .boolean) rfl (by decide) (by decide +kernel) rfl h
      · replace h := h.2 q
        refine o_iload_n (k := 1) 1 (by decide +kernel) rfl ?_
        refine o_if_ne (off := 29) 55 (by decide +kernel) (by decide) (fun q => ?_) (fun q => ?_)
        · replace h := h.1 q
          refine o_iconst (n := 0) (v := 0) (by decide +kernel) (by decide) ?_
          exact f_iret (ty := .boolean) rfl (by decide) (by decide +kernel) rfl h
        · replace h := h.2 q
          refine o_goto (off := 22) 51 (by decide +kernel) (by decide) ?_
          refine o_iconst (n := 1) (v := 1) (by decide +kernel) (by decide) ?_
          refine o_goto (off := 4) 56 (by decide +kernel) (by decide) ?_
          exact f_iret (ty := .boolean) rfl (by decide) (by decide +kernel) rfl h
    · replace h := h.2 q
      refine o_iload_n (k := 1) 1 (by decide +kernel) rfl ?_
      refine o_iconst (n := 2) (v := 2) (by decide +kernel) (by decide) ?_
      refine o_icmp_ne (off := 42) 55 (by decide +kernel) (by decide) (fun q => ?_) (fun q => ?_)
      · replace h := h.1 q
        refine o_iconst (n := 0) (v := 0) (by decide +kernel) (by decide) ?_
        exact f_iret (ty := .boolean) rfl (by decide) (by decide +kernel) rfl h
      · replace h := h.2 q
        refine o_goto (off := 35) 51 (by decide +kernel) (by decide) ?_
        refine o_iconst (n := 1) (v := 1) (by decide +kernel) (by decide) ?_
        refine o_goto (off := 4) 56 (by decide +kernel) (by decide) ?_
        exact f_iret (ty := .boolean) rfl (by decide) (by decide +kernel) rfl h
set_option maxRecDepth 20000 in
theorem e_X12_nameNow {d : Nat} {K : x_T → Int32 → Prop}  {τ : x_T} (h : (τ.1 345 17 = 1 → (¬ τ.1 345 18 = 10 → (¬ τ.1 345 18 = 5 → (τ.1 345 18 < 28 → (τ.1 345 18 < 22 → K τ (-1)) ∧ (¬ τ.1 345 18 < 22 → K τ (((τ.1 345 18) - 22) + 1))) ∧ (¬ τ.1 345 18 < 28 → K τ (((τ.1 345 18) - 28) + 8))) ∧ (τ.1 345 18 = 5 → K τ 7)) ∧ (τ.1 345 18 = 10 → K τ 0)) ∧ (¬ τ.1 345 17 = 1 → K τ (-1))) : x_CI d mX12_nameNow [.ref 345] τ K := by
  refine x_CI_of (by decide) (Nat.le_of_ble_eq_true rfl) ?_
  show x_WI d mX12_nameNow K 0 [(0, .ref 345)] [] τ
  refine o_aload_n (k := 0) 0 (by decide +kernel) rfl ?_
  refine f_getI (t := 12) (k := 17) (i := 201) (by decide +kernel) sh_345 rfl (by decide) lk_1378 rfl ?_
  refine o_iconst (n := 1) (v := 1) (by decide +kernel) (by decide) ?_
  refine o_icmp_eq (off := 5) 10 (by decide +kernel) (by decide) (fun q => ?_) (fun q => ?_)
  · replace h := h.1 q
    refine o_aload_n (k := 0) 0 (by decide +kernel) rfl ?_
    refine f_getI (t := 12) (k := 18) (i := 213) (by decide +kernel) sh_345 rfl (by decide) lk_1379 rfl ?_
    refine o_bipush (n := 10) (v := 10) (by decide +kernel) (by decide) ?_
    refine o_icmp_ne (off := 7) 23 (by decide +kernel) (by decide) (fun q => ?_) (fun q => ?_)
    · replace h := h.1 q
      refine o_aload_n (k := 0) 0 (by decide +kernel) rfl ?_
      refine f_getI (t := 12) (k := 18) (i := 213) (by decide +kernel) sh_345 rfl (by decide) lk_1379 rfl ?_
      refine o_iconst (n := 5) (v := 5) (by decide +kernel) (by decide) ?_
      refine o_icmp_ne (off := 8) 36 (by decide +kernel) (by decide) (fun q => ?_) (fun q => ?_)
      · replace h := h.1 q
        refine o_aload_n (k := 0) 0 (by decide +kernel) rfl ?_
        refine f_getI (t := 12) (k := 18) (i := 213) (by decide +kernel) sh_345 rfl (by decide) lk_1379 rfl ?_
        refine o_bipush (n := 28) (v := 28) (by decide +kernel) (by decide) ?_
        refine o_icmp_lt (off := 16) 58 (by decide +kernel) (by decide) (fun q => ?_) (fun q => ?_)
        · replace h := h.1 q
          refine o_aload_n (k := 0) 0 (by decide +kernel) rfl ?_
          refine f_getI (t := 12) (k := 18) (i := 213) (by decide +kernel) sh_345 rfl (by decide) lk_1379 rfl ?_
          refine o_bipush (n := 22) (v := 22) (by decide +kernel) (by decide) ?_
          refine o_icmp_lt (off := 15) 79 (by decide +kernel) (by decide) (fun q => ?_) (fun q => ?_)
          · replace h := h.1 q
            refine o_iconst (n := -1) (v := (-1)) (by decide +kernel) (by decide) ?_
            exact f_iret (ty := .int) rfl rfl (by decide +kernel) rfl h
          · replace h := h.2 q
            refine o_aload_n (k := 0) 0 (by decide +kernel) rfl ?_
            refine f_getI (t := 12) (k := 18) (i := 213) (by decide +kernel) sh_345 rfl (by decide) lk_1379 rfl ?_
            refine o_bipush (n := 22) (v := 22) (by decide +kernel) (by decide) ?_
            refine o_isub (by decide +kernel) ?_
            refine o_iconst (n := 1) (v := 1) (by decide +kernel) (by decide) ?_
            refine o_iadd (by decide +kernel) ?_
            refine o_goto (off := 4) 80 (by decide +kernel) (by decide) ?_
            exact f_iret (ty := .int) rfl rfl (by decide +kernel) rfl h
        · replace h := h.2 q
          refine o_aload_n (k := 0) 0 (by decide +kernel) rfl ?_
          refine f_getI (t := 12) (k := 18) (i := 213) (by decide +kernel) sh_345 rfl (by decide) lk_1379 rfl ?_
          refine o_bipush (n := 28) (v := 28) (by decide +kernel) (by decide) ?_
          refine o_isub (by decide +kernel) ?_
          refine o_bipush (n := 8) (v := 8) (by decide +kernel) (by decide) ?_
          refine o_iadd (by decide +kernel) ?_
          refine o_goto (off := 25) 80 (by decide +kernel) (by decide) ?_
          exact f_iret (ty := .int) rfl rfl (by decide +kernel) rfl h
      · replace h := h.2 q
        refine o_bipush (n := 7) (v := 7) (by decide +kernel) (by decide) ?_
        refine o_goto (off := 47) 80 (by decide +kernel) (by decide) ?_
        exact f_iret (ty := .int) rfl rfl (by decide +kernel) rfl h
    · replace h := h.2 q
      refine o_iconst (n := 0) (v := 0) (by decide +kernel) (by decide) ?_
      refine o_goto (off := 60) 80 (by decide +kernel) (by decide) ?_
      exact f_iret (ty := .int) rfl rfl (by decide +kernel) rfl h
  · replace h := h.2 q
    refine o_iconst (n := -1) (v := (-1)) (by decide +kernel) (by decide) ?_
    exact f_iret (ty := .int) rfl rfl (by decide +kernel) rfl h
set_option maxRecDepth 20000 in
theorem e_X12_begins {d : Nat} {K : x_T → Prop}  {τ : x_T} (h : x_CI d mX12_nameNow [.ref 345] τ (fun t1 a2 => (¬ t1.1 345 17 = 2 → (a2 = (-1) → x_CI d mX12_isWord [.ref 345, .int 15] t1 (fun t3 a4 => (a4 = 0 → x_CI d mX12_isSign [.ref 345, .int 40] t3 (fun t5 a6 => (¬ a6 = 0 → x_WV (d + 1) mX12_begins K 144 [(0, .ref 345)] [] t5) ∧ (a6 = 0 → x_CI d mX12_isSign [.ref 345, .int 45] t5 (fun t7 a8 => (¬ a8 = 0 → x_WV (d + 1) mX12_begins K 144 [(0, .ref 345)] [] t7) ∧ (a8 = 0 → x_CI d mX12_isWord [.ref 345, .int 14] t7 (fun t9 a10 => (a10 = 0 → x_CV d mX12_errs [.ref 345, .int 1] t9 (fun t11 => K t11)) ∧ (¬ a10 = 0 → x_WV (d + 1) mX12_begins K 144 [(0, .ref 345)] [] t9))))))) ∧ (¬ a4 = 0 → x_CI d mX12_opensSign [.ref 345, .int 2] t3 (fun t13 a14 => (a14 = 0 → K t13) ∧ (¬ a14 = 0 → ∀ t15, t15 = x_w1 t13 345 28 0 → (K t15)))))) ∧ (¬ a2 = (-1) → x_CI d mX12_mayName [.int a2, .int (t1.1 345 31)] t1 (fun t16 a17 => (¬ a17 = 0 → x_CV d mX12_emits [.ref 345, .int 401, .int a2] t16 (fun t18 => x_CV d mX12_next [.ref 345] t18 (fun t20 => x_CV d mX12_oneIsOver [.ref 345] t20 (fun t22 => K t22)))) ∧ (a17 = 0 → x_CV d mX12_errs [.ref 345, .int 5] t16 (fun t24 => K t24))))) ∧ (t1.1 345 17 = 2 → (t1.1 345 18 ≤ 9999 → x_CV d mX12_emits [.ref 345, .int 400, .int (t1.1 345 18)] t1 (fun t26 => x_CV d mX12_next [.ref 345] t26 (fun t28 => x_CV d mX12_oneIsOver [.ref 345] t28 (fun t30 => K t30)))) ∧ (¬ t1.1 345 18 ≤ 9999 → x_CV d mX12_errs [.ref 345, .int 2] t1 (fun t32 => K t32))))) : x_CV (d + 1) mX12_begins [.ref 345] τ K := by
  refine x_CV_of (by decide) (Nat.le_of_ble_eq_true rfl) ?_
  show x_WV (d + 1) mX12_begins K 0 [(0, .ref 345)] [] τ
  refine o_aload_n (k := 0) 0 (by decide +kernel) rfl ?_
  refine f_callVI (μ' := mX12_nameNow) (i := 264) (vs := []) (by decide +kernel) lk_1611 (vok_mX12_nameNow) sh_345 rfl rfl rfl rfl (Nat.le_of_ble_eq_true rfl) ?_
  refine x_CI.mono h (fun t1 a2 h => ?_)
  refine o_istore_n (k := 1) (L' := [(1, .int a2), (0, .ref 345)]) (by decide +kernel) (by decide) rfl ?_
  refine o_aload_n (k := 0) 1 (by decide +kernel) rfl ?_
  refine f_getI (t := 12) (k := 17) (i := 201) (by decide +kernel) sh_345 rfl (by decide) lk_1378 rfl ?_
  refine o_iconst (n := 2) (v := 2) (by decide +kernel) (by decide) ?_
  refine o_icmp_ne (off := 41) 51 (by decide +kernel) (by decide) (fun q => ?_) (fun q => ?_)
  · replace h := h.1 q
    refine o_iload_n (k := 1) 0 (by decide +kernel) rfl ?_
    refine o_iconst (n := -1) (v := (-1)) (by decide +kernel) (by decide) ?_
    refine o_icmp_eq (off := 39) 92 (by decide +kernel) (by decide) (fun q => ?_) (fun q => ?_)
    · replace h := h.1 q
      refine o_aload_n (k := 0) 1 (by decide +kernel) rfl ?_
      refine o_bipush (n := 15) (v := 15) (by decide +kernel) (by decide) ?_
      refine f_callVI (μ' := mX12_isWord) (i := 255) (vs := [.int 15]) (by decide +kernel) lk_1591 (vok_mX12_isWord) sh_345 rfl rfl rfl rfl (Nat.le_of_ble_eq_true rfl) ?_
      refine x_CI.mono h (fun t3 a4 h => ?_)
      refine o_if_eq (off := 19) 117 (by decide +kernel) (by decide) (fun q => ?_) (fun q => ?_)
      · replace h := h.1 q
        refine o_aload_n (k := 0) 1 (by decide +kernel) rfl ?_
        refine o_bipush (n := 40) (v := 40) (by decide +kernel) (by decide) ?_
        refine f_callVI (μ' := mX12_isSign) (i := 278) (vs := [.int 40]) (by decide +kernel) lk_1634 (vok_mX12_isSign) sh_345 rfl rfl rfl rfl (Nat.le_of_ble_eq_true rfl) ?_
        refine x_CI.mono h (fun t5 a6 h => ?_)
        refine o_if_ne (off := 21) 144 (by decide +kernel) (by decide) (fun q => ?_) (fun q => ?_)
        · replace h := h.1 q
          refine o_sub [1] rfl ?_
          exact h
        · replace h := h.2 q
          refine o_aload_n (k := 0) 1 (by decide +kernel) rfl ?_
          refine o_bipush (n := 45) (v := 45) (by decide +kernel) (by decide) ?_
          refine f_callVI (μ' := mX12_isSign) (i := 278) (vs := [.int 45]) (by decide +kernel) lk_1634 (vok_mX12_isSign) sh_345 rfl rfl rfl rfl (Nat.le_of_ble_eq_true rfl) ?_
          refine x_CI.mono h (fun t7 a8 h => ?_)
          refine o_if_ne (off := 12) 144 (by decide +kernel) (by decide) (fun q => ?_) (fun q => ?_)
          · replace h := h.1 q
            refine o_sub [1] rfl ?_
            exact h
          · replace h := h.2 q
            refine o_aload_n (k := 0) 1 (by decide +kernel) rfl ?_
            refine o_bipush (n := 14) (v := 14) (by decide +kernel) (by decide) ?_
            refine f_callVI (μ' := mX12_isWord) (i := 255) (vs := [.int 14]) (by decide +kernel) lk_1591 (vok_mX12_isWord) sh_345 rfl rfl rfl rfl (Nat.le_of_ble_eq_true rfl) ?_
            refine x_CI.mono h (fun t9 a10 h => ?_)
            refine o_if_eq (off := 41) 182 (by decide +kernel) (by decide) (fun q => ?_) (fun q => ?_)
            · replace h := h.1 q
              refine o_aload_n (k := 0) 1 (by decide +kernel) rfl ?_
              refine o_iconst (n := 1) (v := 1) (by decide +kernel) (by decide) ?_
              refine f_callVV (μ' := mX12_errs) (i := 232) (vs := [.int 1]) (by decide +kernel) lk_1599 (vok_mX12_errs) sh_345 rfl rfl rfl rfl (Nat.le_of_ble_eq_true rfl) ?_
              refine x_CV.mono h (fun t11 h => ?_)
              exact f_vret rfl (by decide +kernel) rfl h
            · replace h := h.2 q
              refine o_sub [1] rfl ?_
              exact h
      · replace h := h.2 q
        refine o_aload_n (k := 0) 1 (by decide +kernel) rfl ?_
        refine o_iconst (n := 2) (v := 2) (by decide +kernel) (by decide) ?_
        refine f_callVI (μ' := mX12_opensSign) (i := 258) (vs := [.int 2]) (by decide +kernel) lk_1595 (vok_mX12_opensSign) sh_345 rfl rfl rfl rfl (Nat.le_of_ble_eq_true rfl) ?_
        refine x_CI.mono h (fun t13 a14 h => ?_)
        refine o_if_eq (off := 81) 187 (by decide +kernel) (by decide) (fun q => ?_) (fun q => ?_)
        · replace h := h.1 q
          exact f_vret rfl (by decide +kernel) rfl h
        · replace h := h.2 q
          refine o_aload_n (k := 0) 1 (by decide +kernel) rfl ?_
          refine o_iconst (n := 0) (v := 0) (by decide +kernel) (by decide) ?_
          refine f_putI (t := 12) (k := 28) (i := 261) (by decide +kernel) sh_345 rfl (by decide) lk_1389 rfl rfl ?_
          refine f_name (fun t15 et15 => ?_)
          replace h := h t15 et15
          refine o_goto (off := 73) 187 (by decide +kernel) (by decide) ?_
          exact f_vret rfl (by decide +kernel) rfl h
    · replace h := h.2 q
      refine o_iload_n (k := 1) 0 (by decide +kernel) rfl ?_
      refine o_aload_n (k := 0) 1 (by decide +kernel) rfl ?_
      refine f_getI (t := 12) (k := 31) (i := 271) (by decide +kernel) sh_345 rfl (by decide) lk_1392 rfl ?_
      refine f_callSI (μ' := mX12_mayName) (i := 274) (vs := [.int a2, .int (t1.1 345 31)]) (by decide +kernel) lk_1631 (cok_mX12_mayName) rfl (stt_mX12_mayName) rfl rfl (Nat.le_of_ble_eq_true rfl) ?_
      refine x_CI.mono h (fun t16 a17 h => ?_)
      refine o_if_ne (off := 9) 73 (by decide +kernel) (by decide) (fun q => ?_) (fun q => ?_)
      · replace h := h.1 q
        refine o_aload_n (k := 0) 1 (by decide +kernel) rfl ?_
        refine o_sipush (n := 401) (v := 401) (by decide +kernel) (by decide) ?_
        refine o_iload_n (k := 1) 0 (by decide +kernel) rfl ?_
        refine f_callVV (μ' := mX12_emits) (i := 248) (vs := [.int 401, .int a2]) (by decide +kernel) lk_1615 (vok_mX12_emits) sh_345 rfl rfl rfl rfl (Nat.le_of_ble_eq_true rfl) ?_
        refine x_CV.mono h (fun t18 h => ?_)
        refine o_aload_n (k := 0) 1 (by decide +kernel) rfl ?_
        refine f_callVV (μ' := mX12_next) (i := 238) (vs := []) (by decide +kernel) lk_1543 (vok_mX12_next) sh_345 rfl rfl rfl rfl (Nat.le_of_ble_eq_true rfl) ?_
        refine x_CV.mono h (fun t20 h => ?_)
        refine o_aload_n (k := 0) 1 (by decide +kernel) rfl ?_
        refine f_callVV (μ' := mX12_oneIsOver) (i := 268) (vs := []) (by decide +kernel) lk_1619 (vok_mX12_oneIsOver) sh_345 rfl rfl rfl rfl (Nat.le_of_ble_eq_true rfl) ?_
        refine x_CV.mono h (fun t22 h => ?_)
        refine o_goto (off := 98) 187 (by decide +kernel) (by decide) ?_
        exact f_vret rfl (by decide +kernel) rfl h
      · replace h := h.2 q
        refine o_aload_n (k := 0) 1 (by decide +kernel) rfl ?_
        refine o_iconst (n := 5) (v := 5) (by decide +kernel) (by decide) ?_
        refine f_callVV (μ' := mX12_errs) (i := 232) (vs := [.int 5]) (by decide +kernel) lk_1599 (vok_mX12_errs) sh_345 rfl rfl rfl rfl (Nat.le_of_ble_eq_true rfl) ?_
        refine x_CV.mono h (fun t24 h => ?_)
        exact f_vret rfl (by decide +kernel) rfl h
  · replace h := h.2 q
    refine o_aload_n (k := 0) 1 (by decide +kernel) rfl ?_
    refine f_getI (t := 12) (k := 18) (i := 213) (by decide +kernel) sh_345 rfl (by decide) lk_1379 rfl ?_
    refine o_sipush (n := 9999) (v := 9999) (by decide +kernel) (by decide) ?_
    refine o_icmp_le (off := 9) 29 (by decide +kernel) (by decide) (fun q => ?_) (fun q => ?_)
    · replace h := h.1 q
      refine o_aload_n (k := 0) 1 (by decide +kernel) rfl ?_
      refine o_sipush (n := 400) (v := 400) (by decide +kernel) (by decide) ?_
      refine o_aload_n (k := 0) 1 (by decide +kernel) rfl ?_
      refine f_getI (t := 12) (k := 18) (i := 213) (by decide +kernel) sh_345 rfl (by decide) lk_1379 rfl ?_
      refine f_callVV (μ' := mX12_emits) (i := 248) (vs := [.int 400, .int (t1.1 345 18)]) (by decide +kernel) lk_1615 (vok_mX12_emits) sh_345 rfl rfl rfl rfl (Nat.le_of_ble_eq_true rfl) ?_
      refine x_CV.mono h (fun t26 h => ?_)
      refine o_aload_n (k := 0) 1 (by decide +kernel) rfl ?_
      refine f_callVV (μ' := mX12_next) (i := 238) (vs := []) (by decide +kernel) lk_1543 (vok_mX12_next) sh_345 rfl rfl rfl rfl (Nat.le_of_ble_eq_true rfl) ?_
      refine x_CV.mono h (fun t28 h => ?_)
      refine o_aload_n (k := 0) 1 (by decide +kernel) rfl ?_
      refine f_callVV (μ' := mX12_oneIsOver) (i := 268) (vs := []) (by decide +kernel) lk_1619 (vok_mX12_oneIsOver) sh_345 rfl rfl rfl rfl (Nat.le_of_ble_eq_true rfl) ?_
      refine x_CV.mono h (fun t30 h => ?_)
      refine o_goto (off := 139) 187 (by decide +kernel) (by decide) ?_
      exact f_vret rfl (by decide +kernel) rfl h
    · replace h := h.2 q
      refine o_aload_n (k := 0) 1 (by decide +kernel) rfl ?_
      refine o_iconst (n := 2) (v := 2) (by decide +kernel) (by decide) ?_
      refine f_callVV (μ' := mX12_errs) (i := 232) (vs := [.int 2]) (by decide +kernel) lk_1599 (vok_mX12_errs) sh_345 rfl rfl rfl rfl (Nat.le_of_ble_eq_true rfl) ?_
      refine x_CV.mono h (fun t32 h => ?_)
      exact f_vret rfl (by decide +kernel) rfl h
set_option maxRecDepth 20000 in
theorem k_X12_begins_144 {d : Nat} {K : x_T → Prop}  {τ : x_T} (h : x_CI d mX12_isSign [.ref 345, .int 40] τ (fun t1 a2 => (a2 = 0 → x_CI d mX12_isSign [.ref 345, .int 45] t1 (fun t3 a4 => (a4 = 0 → x_WV (d + 1) mX12_begins K 175 [] [.int 10, .ref 345] t3) ∧ (¬ a4 = 0 → x_WV (d + 1) mX12_begins K 175 [] [.int 7, .ref 345] t3))) ∧ (¬ a2 = 0 → x_WV (d + 1) mX12_begins K 175 [] [.int 6, .ref 345] t1))) : x_WV (d + 1) mX12_begins K 144 [(0, .ref 345)] [] τ := by
  refine o_aload_n (k := 0) 0 (by decide +kernel) rfl ?_
  refine o_aload_n (k := 0) 0 (by decide +kernel) rfl ?_
  refine o_bipush (n := 40) (v := 40) (by decide +kernel) (by decide) ?_
  refine f_callVI (μ' := mX12_isSign) (i := 278) (vs := [.int 40]) (by decide +kernel) lk_1634 (vok_mX12_isSign) sh_345 rfl rfl rfl rfl (Nat.le_of_ble_eq_true rfl) ?_
  refine x_CI.mono h (fun t1 a2 h => ?_)
  refine o_if_eq (off := 8) 159 (by decide +kernel) (by decide) (fun q => ?_) (fun q => ?_)
  · replace h := h.1 q
    refine o_aload_n (k := 0) 0 (by decide +kernel) rfl ?_
    refine o_bipush (n := 45) (v := 45) (by decide +kernel) (by decide) ?_
    refine f_callVI (μ' := mX12_isSign) (i := 278) (vs := [.int 45]) (by decide +kernel) lk_1634 (vok_mX12_isSign) sh_345 rfl rfl rfl rfl (Nat.le_of_ble_eq_true rfl) ?_
    refine x_CI.mono h (fun t3 a4 h => ?_)
    refine o_if_eq (off := 8) 173 (by decide +kernel) (by decide) (fun q => ?_) (fun q => ?_)
    · replace h := h.1 q
      refine o_bipush (n := 10) (v := 10) (by decide +kernel) (by decide) ?_
      refine o_sub [] rfl ?_
      exact h
    · replace h := h.2 q
      refine o_bipush (n := 7) (v := 7) (by decide +kernel) (by decide) ?_
      refine o_goto (off := 5) 175 (by decide +kernel) (by decide) ?_
      refine o_sub [] rfl ?_
      exact h
  · replace h := h.2 q
    refine o_bipush (n := 6) (v := 6) (by decide +kernel) (by decide) ?_
    refine o_goto (off := 19) 175 (by decide +kernel) (by decide) ?_
    refine o_sub [] rfl ?_
    exact h
set_option maxRecDepth 20000 in
theorem k_X12_begins_175 {d : Nat} {K : x_T → Prop} {s0 : Int32} {τ : x_T} (h : x_CI d mX12_opensSign [.ref 345, .int s0] τ (fun t1 a2 => K t1)) : x_WV (d + 1) mX12_begins K 175 [] [.int s0, .ref 345] τ := by
  refine f_callVI (μ' := mX12_opensSign) (i := 258) (vs := [.int s0]) (by decide +kernel) lk_1595 (vok_mX12_opensSign) sh_345 rfl rfl rfl rfl (Nat.le_of_ble_eq_true rfl) ?_
  refine x_CI.mono h (fun t1 a2 h => ?_)
  refine o_istore_n (k := 2) (L' := [(2, .int a2)]) (by decide +kernel) (by decide) rfl ?_
  refine o_goto (off := 8) 187 (by decide +kernel) (by decide) ?_
  exact f_vret rfl (by decide +kernel) rfl h
set_option maxRecDepth 20000 in
theorem e_X12_oneIsOver {d : Nat} {K : x_T → Prop}  {τ : x_T} (h : x_WV (d + 1) mX12_oneIsOver K 0 [(0, .ref 345)] [] τ) : x_CV (d + 1) mX12_oneIsOver [.ref 345] τ K := by
  exact x_CV_of (by decide) (Nat.le_of_ble_eq_true rfl) h
set_option maxRecDepth 20000 in
theorem k_X12_oneIsOver_0 {d : Nat} {K : x_T → Prop}  {τ : x_T} (h : x_CI d mX12_top [.ref 345] τ (fun t1 a2 => (a2 = 7 → x_WV (d + 1) mX12_oneIsOver K 18 [(0, .ref 345)] [] t1) ∧ (¬ a2 = 7 → x_CI d mX12_top [.ref 345] t1 (fun t3 a4 => (¬ a4 = 11 → ∀ t5, t5 = x_w1 t3 345 28 2 → (x_CI d mX12_top [.ref 345] t5 (fun t6 a7 => (¬ a7 = 10 → K t6) ∧ (a7 = 10 → x_CV d mX12_bySecond [.ref 345] t6 (fun t8 => K t8))))) ∧ (a4 = 11 → x_WV (d + 1) mX12_oneIsOver K 18 [(0, .ref 345)] [] t3))))) : x_WV (d + 1) mX12_oneIsOver K 0 [(0, .ref 345)] [] τ := by
  refine o_aload_n (k := 0) 0 (by decide +kernel) rfl ?_
  refine f_callVI (μ' := mX12_top) (i := 281) (vs := []) (by decide +kernel) lk_1623 (vok_mX12_top) sh_345 rfl rfl rfl rfl (Nat.le_of_ble_eq_true rfl) ?_
  refine x_CI.mono h (fun t1 a2 h => ?_)
  refine o_bipush (n := 7) (v := 7) (by decide +kernel) (by decide) ?_
  refine o_icmp_eq (off := 12) 18 (by decide +kernel) (by decide) (fun q => ?_) (fun q => ?_)
  · replace h := h.1 q
    exact h
  · replace h := h.2 q
    refine o_aload_n (k := 0) 0 (by decide +kernel) rfl ?_
    refine f_callVI (μ' := mX12_top) (i := 281) (vs := []) (by decide +kernel) lk_1623 (vok_mX12_top) sh_345 rfl rfl rfl rfl (Nat.le_of_ble_eq_true rfl) ?_
    refine x_CI.mono h (fun t3 a4 h => ?_)
    refine o_bipush (n := 11) (v := 11) (by decide +kernel) (by decide) ?_
    refine o_icmp_ne (off := 49) 64 (by decide +kernel) (by decide) (fun q => ?_) (fun q => ?_)
    · replace h := h.1 q
      refine o_aload_n (k := 0) 0 (by decide +kernel) rfl ?_
      refine o_iconst (n := 2) (v := 2) (by decide +kernel) (by decide) ?_
      refine f_putI (t := 12) (k := 28) (i := 261) (by decide +kernel) sh_345 rfl (by decide) lk_1389 rfl rfl ?_
      refine f_name (fun t5 et5 => ?_)
      replace h := h t5 et5
      refine o_aload_n (k := 0) 0 (by decide +kernel) rfl ?_
      refine f_callVI (μ' := mX12_top) (i := 281) (vs := []) (by decide +kernel) lk_1623 (vok_mX12_top) sh_345 rfl rfl rfl rfl (Nat.le_of_ble_eq_true rfl) ?_
      refine x_CI.mono h (fun t6 a7 h => ?_)
      refine o_bipush (n := 10) (v := 10) (by decide +kernel) (by decide) ?_
      refine o_icmp_ne (off := 7) 82 (by decide +kernel) (by decide) (fun q => ?_) (fun q => ?_)
      · replace h := h.1 q
        exact f_vret rfl (by decide +kernel) rfl h
      · replace h := h.2 q
        refine o_aload_n (k := 0) 0 (by decide +kernel) rfl ?_
        refine f_callVV (μ' := mX12_bySecond) (i := 284) (vs := []) (by decide +kernel) lk_1627 (vok_mX12_bySecond) sh_345 rfl rfl rfl rfl (Nat.le_of_ble_eq_true rfl) ?_
        refine x_CV.mono h (fun t8 h => ?_)
        exact f_vret rfl (by decide +kernel) rfl h
    · replace h := h.2 q
      exact h
set_option maxRecDepth 20000 in
theorem k_X12_oneIsOver_18 {d : Nat} {K : x_T → Prop}  {τ : x_T} (h : x_CI d mX12_top [.ref 345] τ (fun t1 a2 => (¬ a2 = 7 → x_WV (d + 1) mX12_oneIsOver K 37 [(0, .ref 345)] [.int 403, .ref 345] t1) ∧ (a2 = 7 → x_WV (d + 1) mX12_oneIsOver K 37 [(0, .ref 345)] [.int 402, .ref 345] t1))) : x_WV (d + 1) mX12_oneIsOver K 18 [(0, .ref 345)] [] τ := by
  refine o_aload_n (k := 0) 0 (by decide +kernel) rfl ?_
  refine o_aload_n (k := 0) 0 (by decide +kernel) rfl ?_
  refine f_callVI (μ' := mX12_top) (i := 281) (vs := []) (by decide +kernel) lk_1623 (vok_mX12_top) sh_345 rfl rfl rfl rfl (Nat.le_of_ble_eq_true rfl) ?_
  refine x_CI.mono h (fun t1 a2 h => ?_)
  refine o_bipush (n := 7) (v := 7) (by decide +kernel) (by decide) ?_
  refine o_icmp_ne (off := 9) 34 (by decide +kernel) (by decide) (fun q => ?_) (fun q => ?_)
  · replace h := h.1 q
    refine o_sipush (n := 403) (v := 403) (by decide +kernel) (by decide) ?_
    exact h
  · replace h := h.2 q
    refine o_sipush (n := 402) (v := 402) (by decide +kernel) (by decide) ?_
    refine o_goto (off := 6) 37 (by decide +kernel) (by decide) ?_
    exact h
set_option maxRecDepth 20000 in
theorem k_X12_oneIsOver_37 {d : Nat} {K : x_T → Prop} {s0 : Int32} {τ : x_T} (h : x_CV d mX12_emits [.ref 345, .int s0, .int 0] τ (fun t1 => ∀ t3, t3 = x_w1 t1 345 22 ((t1.1 345 22) - 1) → (∀ t4, t4 = x_w1 t3 345 21 ((t3.1 345 21) - 1) → (x_WV (d + 1) mX12_oneIsOver K 0 [(0, .ref 345)] [] t4)))) : x_WV (d + 1) mX12_oneIsOver K 37 [(0, .ref 345)] [.int s0, .ref 345] τ := by
  refine o_iconst (n := 0) (v := 0) (by decide +kernel) (by decide) ?_
  refine f_callVV (μ' := mX12_emits) (i := 248) (vs := [.int s0, .int 0]) (by decide +kernel) lk_1615 (vok_mX12_emits) sh_345 rfl rfl rfl rfl (Nat.le_of_ble_eq_true rfl) ?_
  refine x_CV.mono h (fun t1 h => ?_)
  refine o_aload_n (k := 0) 0 (by decide +kernel) rfl ?_
  refine o_dup (by decide +kernel) rfl ?_
  refine f_getI (t := 12) (k := 22) (i := 226) (by decide +kernel) sh_345 rfl (by decide) lk_1383 rfl ?_
  refine o_iconst (n := 1) (v := 1) (by decide +kernel) (by decide) ?_
  refine o_isub (by decide +kernel) ?_
  refine f_putI (t := 12) (k := 22) (i := 226) (by decide +kernel) sh_345 rfl (by decide) lk_1383 rfl rfl ?_
  refine f_name (fun t3 et3 => ?_)
  replace h := h t3 et3
  refine o_aload_n (k := 0) 0 (by decide +kernel) rfl ?_
  refine o_dup (by decide +kernel) rfl ?_
  refine f_getI (t := 12) (k := 21) (i := 229) (by decide +kernel) sh_345 rfl (by decide) lk_1382 rfl ?_
  refine o_iconst (n := 1) (v := 1) (by decide +kernel) (by decide) ?_
  refine o_isub (by decide +kernel) ?_
  refine f_putI (t := 12) (k := 21) (i := 229) (by decide +kernel) sh_345 rfl (by decide) lk_1382 rfl rfl ?_
  refine f_name (fun t4 et4 => ?_)
  replace h := h t4 et4
  refine o_goto (off := -61) 0 (by decide +kernel) (by decide) ?_
  exact h
