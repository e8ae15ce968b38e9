set_option maxRecDepth 20000 in
theorem e_X12_saysOf {d : Nat} {K : x_T → Int64 → Prop} {v1 : Int32} {τ : x_T} (h : x_WL (d + 1) mX12_saysOf K 4 [(0, .ref 345), (2, .int 0), (3, .int v1)] [] τ) : x_CL (d + 1) mX12_saysOf [.ref 345, .int v1] τ K := by
  refine x_CL_of (by decide) (Nat.le_of_ble_eq_true rfl) ?_
  show x_WL (d + 1) mX12_saysOf K 0 [(0, .ref 345), (1, .int v1)] [] τ
  refine o_iconst (n := 0) (v := 0) (by decide +kernel) (by decide) ?_
  refine o_istore_n (k := 2) (L' := [(2, .int 0), (0, .ref 345), (1, .int v1)]) (by decide +kernel) (by decide) rfl ?_
  refine o_iload_n (k := 1) 2 (by decide +kernel) rfl ?_
  refine o_istore_n (k := 3) (L' := [(3, .int v1), (2, .int 0), (0, .ref 345), (1, .int v1)]) (by decide +kernel) (by decide) rfl ?_
  refine o_sub [2, 1, 0] rfl ?_
  exact h
set_option maxRecDepth 20000 in
theorem k_X12_saysOf_4 {d : Nat} {K : x_T → Int64 → Prop} {v2 : Int32} {v3 : Int32} {τ : x_T} (h : vp_in v3 1600 ∧ ((τ.1 355 v3.toNatClampNeg = 408 → K τ (τ.2.1 372 0)) ∧ (¬ τ.1 355 v3.toNatClampNeg = 408 → vp_in v3 1600 ∧ (∀ y1, y1 = τ.1 355 v3.toNatClampNeg → ((y1 = 400 → x_WL (d + 1) mX12_saysOf K 40 [(0, .ref 345), (2, .int v2), (3, .int v3), (4, .int y1)] [] τ) ∧ (¬ y1 = 400 → (¬ y1 = 401 → (¬ y1 = 404 → (¬ y1 = 409 → (¬ y1 = 402 → (¬ y1 = 405 → ∀ y2, y2 = v2 + (-1) → (vp_in (y2 - 1) 200 ∧ (vp_in y2 200 ∧ (x_CL d mX12_worked [.ref 345, .int y1, .long (τ.2.1 372 (y2 - 1).toNatClampNeg), .long (τ.2.1 372 y2.toNatClampNeg)] τ (fun t3 a4 => vp_in (y2 - 1) 200 ∧ (∀ t5, t5 = x_w2 t3 372 ((y2 - 1).toNatClampNeg) a4 → (x_WL (d + 1) mX12_saysOf K 228 [(0, .ref 345), (2, .int y2), (3, .int v3)] [] t5))))))) ∧ (y1 = 405 → vp_in (v2 - 1) 200 ∧ (vp_in (v2 - 1) 200 ∧ (∀ t6, t6 = x_w2 τ 372 ((v2 - 1).toNatClampNeg) (1 - (τ.2.1 372 (v2 - 1).toNatClampNeg)) → (x_WL (d + 1) mX12_saysOf K 228 [(0, .ref 345), (2, .int v2), (3, .int v3)] [] t6))))) ∧ (y1 = 402 → vp_in (v2 - 1) 200 ∧ (vp_in (v2 - 1) 200 ∧ (∀ t7, t7 = x_w2 τ 372 ((v2 - 1).toNatClampNeg) (-(τ.2.1 372 (v2 - 1).toNatClampNeg)) → (x_WL (d + 1) mX12_saysOf K 228 [(0, .ref 345), (2, .int v2), (3, .int v3)] [] t7))))) ∧ (y1 = 409 → vp_in v3 1600 ∧ (∀ y8, y8 = (τ.1 356 v3.toNatClampNeg) - 1 → (x_WL (d + 1) mX12_saysOf K 228 [(0, .ref 345), (2, .int v2), (3, .int y8)] [] τ)))) ∧ (y1 = 404 → ∀ y9, y9 = v2 + (-1) → (vp_in y9 200 ∧ ((¬ lg_cmp (τ.2.1 372 y9.toNatClampNeg) 0 = 0 → x_WL (d + 1) mX12_saysOf K 116 [(0, .ref 345), (2, .int y9)] [.int v3] τ) ∧ (lg_cmp (τ.2.1 372 y9.toNatClampNeg) 0 = 0 → vp_in v3 1600 ∧ (x_WL (d + 1) mX12_saysOf K 116 [(0, .ref 345), (2, .int y9)] [.int ((τ.1 356 v3.toNatClampNeg) - 1)] τ)))))) ∧ (y1 = 401 → x_WL (d + 1) mX12_saysOf K 40 [(0, .ref 345), (2, .int v2), (3, .int v3), (4, .int y1)] [] τ))))))) : x_WL (d + 1) mX12_saysOf K 4 [(0, .ref 345), (2, .int v2), (3, .int v3)] [] τ := by
  refine o_aload_n (k := 0) 0 (by decide +kernel) rfl ?_
  refine f_getR (r := 355) (t := 12) (k := 12) (i := 45) (by decide +kernel) sh_345 rfl (by decide) lk_1373 (by simp [x_ty, tyX12]) (gr_12_12 sh_345) ?_
  refine o_iload_n (k := 3) 2 (by decide +kernel) rfl ?_
  obtain ⟨hi, h⟩ := h
  refine f_iald (by decide +kernel) sh_355 hi rfl ?_
  refine o_sipush (n := 408) (v := 408) (by decide +kernel) (by decide) ?_
  refine o_icmp_eq (off := 221) 234 (by decide +kernel) (by decide) (fun q => ?_) (fun q => ?_)
  · replace h := h.1 q
    refine o_aload_n (k := 0) 0 (by decide +kernel) rfl ?_
    refine f_getR (r := 372) (t := 12) (k := 43) (i := 96) (by decide +kernel) sh_345 rfl (by decide) lk_1404 (by simp [x_ty, tyX12]) (gr_12_43 sh_345) ?_
    refine o_iconst (n := 0) (v := 0) (by decide +kernel) (by decide) ?_
    refine f_lald (k := 0) (by decide +kernel) sh_372 (by unfold vp_in; decide) (by decide) ?_
    exact f_lret rfl (by decide +kernel) rfl h
  · replace h := h.2 q
    refine o_aload_n (k := 0) 0 (by decide +kernel) rfl ?_
    refine f_getR (r := 355) (t := 12) (k := 12) (i := 45) (by decide +kernel) sh_345 rfl (by decide) lk_1373 (by simp [x_ty, tyX12]) (gr_12_12 sh_345) ?_
    refine o_iload_n (k := 3) 2 (by decide +kernel) rfl ?_
    obtain ⟨hi, h⟩ := h
    refine f_iald (by decide +kernel) sh_355 hi rfl ?_
    refine o_name (fun y1 ey1 => ?_)
    replace h := h y1 ey1
    refine o_istore (k := 4) (L' := [(4, .int y1), (0, .ref 345), (2, .int v2), (3, .int v3)]) (by decide +kernel) (by decide) rfl ?_
    refine o_iload (k := 4) 0 (by decide +kernel) rfl ?_
    refine o_sipush (n := 400) (v := 400) (by decide +kernel) (by decide) ?_
    refine o_icmp_eq (off := 11) 40 (by decide +kernel) (by decide) (fun q => ?_) (fun q => ?_)
    · replace h := h.1 q
      refine o_sub [1, 2, 3, 0] rfl ?_
      exact h
    · replace h := h.2 q
      refine o_iload (k := 4) 0 (by decide +kernel) rfl ?_
      refine o_sipush (n := 401) (v := 401) (by decide +kernel) (by decide) ?_
      refine o_icmp_ne (off := 45) 82 (by decide +kernel) (by decide) (fun q => ?_) (fun q => ?_)
      · replace h := h.1 q
        refine o_iload (k := 4) 0 (by decide +kernel) rfl ?_
        refine o_sipush (n := 404) (v := 404) (by decide +kernel) (by decide) ?_
        refine o_icmp_ne (off := 33) 120 (by decide +kernel) (by decide) (fun q => ?_) (fun q => ?_)
        · replace h := h.1 q
          refine o_iload (k := 4) 0 (by decide +kernel) rfl ?_
          refine o_sipush (n := 409) (v := 409) (by decide +kernel) (by decide) ?_
          refine o_icmp_ne (off := 15) 140 (by decide +kernel) (by decide) (fun q => ?_) (fun q => ?_)
          · replace h := h.1 q
            refine o_iload (k := 4) 0 (by decide +kernel) rfl ?_
            refine o_sipush (n := 402) (v := 402) (by decide +kernel) (by decide) ?_
            refine o_icmp_ne (off := 23) 168 (by decide +kernel) (by decide) (fun q => ?_) (fun q => ?_)
            · replace h := h.1 q
              refine o_iload (k := 4) 0 (by decide +kernel) rfl ?_
              refine o_sipush (n := 405) (v := 405) (by decide +kernel) (by decide) ?_
              refine o_icmp_ne (off := 24) 197 (by decide +kernel) (by decide) (fun q => ?_) (fun q => ?_)
              · replace h := h.1 q
                obtain ⟨y2, ey2⟩ : ∃ y : Int32, y = v2 + (-1) := ⟨_, rfl⟩
                replace h := h y2 ey2
                refine o_iinc (i := 2) (n := -1) (v := y2) (L' := [(2, .int y2), (4, .int y1), (0, .ref 345), (3, .int v3)]) 2 (by decide +kernel) rfl (by rw [ey2]; rfl) (by decide) rfl ?_
                refine o_aload_n (k := 0) 2 (by decide +kernel) rfl ?_
                refine f_getR (r := 372) (t := 12) (k := 43) (i := 96) (by decide +kernel) sh_345 rfl (by decide) lk_1404 (by simp [x_ty, tyX12]) (gr_12_43 sh_345) ?_
                refine o_iload_n (k := 2) 0 (by decide +kernel) rfl ?_
                refine o_iconst (n := 1) (v := 1) (by decide +kernel) (by decide) ?_
                refine o_isub (by decide +kernel) ?_
                refine o_aload_n (k := 0) 2 (by decide +kernel) rfl ?_
                refine o_iload (k := 4) 1 (by decide +kernel) rfl ?_
                refine o_aload_n (k := 0) 2 (by decide +kernel) rfl ?_
                refine f_getR (r := 372) (t := 12) (k := 43) (i := 96) (by decide +kernel) sh_345 rfl (by decide) lk_1404 (by simp [x_ty, tyX12]) (gr_12_43 sh_345) ?_
                refine o_iload_n (k := 2) 0 (by decide +kernel) rfl ?_
                refine o_iconst (n := 1) (v := 1) (by decide +kernel) (by decide) ?_
                refine o_isub (by decide +kernel) ?_
                obtain ⟨hi, h⟩ := h
                refine f_lald (by decide +kernel) sh_372 hi rfl ?_
                refine o_aload_n (k := 0) 2 (by decide +kernel) rfl ?_
                refine f_getR (r := 372) (t := 12) (k := 43) (i := 96) (by decide +kernel) sh_345 rfl (by decide) lk_1404 (by simp [x_ty, tyX12]) (gr_12_43 sh_345) ?_
                refine o_iload_n (k := 2) 0 (by decide +kernel) rfl ?_
                obtain ⟨hi, h⟩ := h
                refine f_lald (by decide +kernel) sh_372 hi rfl ?_
                refine f_callVL (μ' := mX12_worked) (i := 351) (vs := [.int y1, .long (τ.2.1 372 (y2 - 1).toNatClampNeg), .long (τ.2.1 372 y2.toNatClampNeg)]) (by decide +kernel) lk_1740 (vok_mX12_worked) sh_345 rfl rfl rfl rfl (Nat.le_of_ble_eq_true rfl) ?_
                refine x_CL.mono h (fun t3 a4 h => ?_)
                obtain ⟨hi, h⟩ := h
                refine f_last (by decide +kernel) sh_372 hi rfl ?_
                refine f_name (fun t5 et5 => ?_)
                replace h := h t5 et5
                refine o_sub [2, 0, 3] rfl ?_
                exact h
              · replace h := h.2 q
                refine o_aload_n (k := 0) 1 (by decide +kernel) rfl ?_
                refine f_getR (r := 372) (t := 12) (k := 43) (i := 96) (by decide +kernel) sh_345 rfl (by decide) lk_1404 (by simp [x_ty, tyX12]) (gr_12_43 sh_345) ?_
                refine o_iload_n (k := 2) 2 (by decide +kernel) rfl ?_
                refine o_iconst (n := 1) (v := 1) (by decide +kernel) (by decide) ?_
                refine o_isub (by decide +kernel) ?_
                refine o_lconst (n := 1) (v := 1) (by decide +kernel) (by decide) ?_
                refine o_aload_n (k := 0) 1 (by decide +kernel) rfl ?_
                refine f_getR (r := 372) (t := 12) (k := 43) (i := 96) (by decide +kernel) sh_345 rfl (by decide) lk_1404 (by simp [x_ty, tyX12]) (gr_12_43 sh_345) ?_
                refine o_iload_n (k := 2) 2 (by decide +kernel) rfl ?_
                refine o_iconst (n := 1) (v := 1) (by decide +kernel) (by decide) ?_
                refine o_isub (by decide +kernel) ?_
                obtain ⟨hi, h⟩ := h
                refine f_lald (by decide +kernel) sh_372 hi rfl ?_
                refine o_lsub (by decide +kernel) ?_
                obtain ⟨hi, h⟩ := h
                refine f_last (by decide +kernel) sh_372 hi rfl ?_
                refine f_name (fun t6 et6 => ?_)
                replace h := h t6 et6
                refine o_goto (off := 34) 228 (by decide +kernel) (by decide) ?_
                refine o_sub [1, 2, 3] rfl ?_
                exact h
            · replace h := h.2 q
              refine o_aload_n (k := 0) 1 (by decide +kernel) rfl ?_
              refine f_getR (r := 372) (t := 12) (k := 43) (i := 96) (by decide +kernel) sh_345 rfl (by decide) lk_1404 (by simp [x_ty, tyX12]) (gr_12_43 sh_345) ?_
              refine o_iload_n (k := 2) 2 (by decide +kernel) rfl ?_
              refine o_iconst (n := 1) (v := 1) (by decide +kernel) (by decide) ?_
              refine o_isub (by decide +kernel) ?_
              refine o_aload_n (k := 0) 1 (by decide +kernel) rfl ?_
              refine f_getR (r := 372) (t := 12) (k := 43) (i := 96) (by decide +kernel) sh_345 rfl (by decide) lk_1404 (by simp [x_ty, tyX12]) (gr_12_43 sh_345) ?_
              refine o_iload_n (k := 2) 2 (by decide +kernel) rfl ?_
              refine o_iconst (n := 1) (v := 1) (by decide +kernel) (by decide) ?_
              refine o_isub (by decide +kernel) ?_
              obtain ⟨hi, h⟩ := h
              refine f_lald (by decide +kernel) sh_372 hi rfl ?_
              refine o_lneg (by decide +kernel) ?_
              obtain ⟨hi, h⟩ := h
              refine f_last (by decide +kernel) sh_372 hi rfl ?_
              refine f_name (fun t7 et7 => ?_)
              replace h := h t7 et7
              refine o_goto (off := 63) 228 (by decide +kernel) (by decide) ?_
              refine o_sub [1, 2, 3] rfl ?_
              exact h
          · replace h := h.2 q
            refine o_aload_n (k := 0) 1 (by decide +kernel) rfl ?_
            refine f_getR (r := 356) (t := 12) (k := 13) (i := 48) (by decide +kernel) sh_345 rfl (by decide) lk_1374 (by simp [x_ty, tyX12]) (gr_12_13 sh_345) ?_
            refine o_iload_n (k := 3) 3 (by decide +kernel) rfl ?_
            obtain ⟨hi, h⟩ := h
            refine f_iald (by decide +kernel) sh_356 hi rfl ?_
            refine o_iconst (n := 1) (v := 1) (by decide +kernel) (by decide) ?_
            refine o_isub (by decide +kernel) ?_
            refine o_name (fun y8 ey8 => ?_)
            replace h := h y8 ey8
            refine o_istore_n (k := 3) (L' := [(3, .int y8), (4, .int y1), (0, .ref 345), (2, .int v2)]) (by decide +kernel) (by decide) rfl ?_
            refine o_goto (off := 91) 228 (by decide +kernel) (by decide) ?_
            refine o_sub [2, 3, 0] rfl ?_
            exact h
        · replace h := h.2 q
          obtain ⟨y9, ey9⟩ : ∃ y : Int32, y = v2 + (-1) := ⟨_, rfl⟩
          replace h := h y9 ey9
          refine o_iinc (i := 2) (n := -1) (v := y9) (L' := [(2, .int y9), (4, .int y1), (0, .ref 345), (3, .int v3)]) 2 (by decide +kernel) rfl (by rw [ey9]; rfl) (by decide) rfl ?_
          refine o_aload_n (k := 0) 2 (by decide +kernel) rfl ?_
          refine f_getR (r := 372) (t := 12) (k := 43) (i := 96) (by decide +kernel) sh_345 rfl (by decide) lk_1404 (by simp [x_ty, tyX12]) (gr_12_43 sh_345) ?_
          refine o_iload_n (k := 2) 0 (by decide +kernel) rfl ?_
          obtain ⟨hi, h⟩ := h
          refine f_lald (by decide +kernel) sh_372 hi rfl ?_
          refine o_lconst (n := 0) (v := 0) (by decide +kernel) (by decide) ?_
          refine o_lcmp (by decide +kernel) ?_
          refine o_if_ne (off := 14) 115 (by decide +kernel) (by decide) (fun q => ?_) (fun q => ?_)
          · replace h := h.1 q
            refine o_iload_n (k := 3) 3 (by decide +kernel) rfl ?_
            refine o_sub [2, 0] rfl ?_
            exact h
          · replace h := h.2 q
            refine o_aload_n (k := 0) 2 (by decide +kernel) rfl ?_
            refine f_getR (r := 356) (t := 12) (k := 13) (i := 48) (by decide +kernel) sh_345 rfl (by decide) lk_1374 (by simp [x_ty, tyX12]) (gr_12_13 sh_345) ?_
            refine o_iload_n (k := 3) 3 (by decide +kernel) rfl ?_
            obtain ⟨hi, h⟩ := h
            refine f_iald (by decide +kernel) sh_356 hi rfl ?_
            refine o_iconst (n := 1) (v := 1) (by decide +kernel) (by decide) ?_
            refine o_isub (by decide +kernel) ?_
            refine o_goto (off := 4) 116 (by decide +kernel) (by decide) ?_
            refine o_sub [2, 0] rfl ?_
            exact h
      · replace h := h.2 q
        refine o_sub [1, 2, 3, 0] rfl ?_
        exact h
set_option maxRecDepth 20000 in
theorem k_X12_saysOf_40 {d : Nat} {K : x_T → Int64 → Prop} {v2 : Int32} {v3 : Int32} {v4 : Int32} {τ : x_T} (h : (¬ v4 = 400 → vp_in v3 1600 ∧ (vp_in (τ.1 356 v3.toNatClampNeg) 12 ∧ (x_WL (d + 1) mX12_saysOf K 75 [(0, .ref 345), (2, .int v2), (3, .int v3)] [.long ((τ.1 371 (τ.1 356 v3.toNatClampNeg).toNatClampNeg).toInt64), .int v2, .ref 372] τ))) ∧ (v4 = 400 → vp_in v3 1600 ∧ (x_WL (d + 1) mX12_saysOf K 75 [(0, .ref 345), (2, .int v2), (3, .int v3)] [.long ((τ.1 356 v3.toNatClampNeg).toInt64), .int v2, .ref 372] τ))) : x_WL (d + 1) mX12_saysOf K 40 [(0, .ref 345), (2, .int v2), (3, .int v3), (4, .int v4)] [] τ := by
  refine o_aload_n (k := 0) 0 (by decide +kernel) rfl ?_
  refine f_getR (r := 372) (t := 12) (k := 43) (i := 96) (by decide +kernel) sh_345 rfl (by decide) lk_1404 (by simp [x_ty, tyX12]) (gr_12_43 sh_345) ?_
  refine o_iload_n (k := 2) 1 (by decide +kernel) rfl ?_
  refine o_iload (k := 4) 3 (by decide +kernel) rfl ?_
  refine o_sipush (n := 400) (v := 400) (by decide +kernel) (by decide) ?_
  refine o_icmp_ne (off := 13) 63 (by decide +kernel) (by decide) (fun q => ?_) (fun q => ?_)
  · replace h := h.1 q
    refine o_aload_n (k := 0) 0 (by decide +kernel) rfl ?_
    refine f_getR (r := 371) (t := 12) (k := 42) (i := 93) (by decide +kernel) sh_345 rfl (by decide) lk_1403 (by simp [x_ty, tyX12]) (gr_12_42 sh_345) ?_
    refine o_aload_n (k := 0) 0 (by decide +kernel) rfl ?_
    refine f_getR (r := 356) (t := 12) (k := 13) (i := 48) (by decide +kernel) sh_345 rfl (by decide) lk_1374 (by simp [x_ty, tyX12]) (gr_12_13 sh_345) ?_
    refine o_iload_n (k := 3) 2 (by decide +kernel) rfl ?_
    obtain ⟨hi, h⟩ := h
    refine f_iald (by decide +kernel) sh_356 hi rfl ?_
    obtain ⟨hi, h⟩ := h
    refine f_iald (by decide +kernel) sh_371 hi rfl ?_
    refine o_i2l (by decide +kernel) ?_
    refine o_sub [0, 1, 2] rfl ?_
    exact h
  · replace h := h.2 q
    refine o_aload_n (k := 0) 0 (by decide +kernel) rfl ?_
    refine f_getR (r := 356) (t := 12) (k := 13) (i := 48) (by decide +kernel) sh_345 rfl (by decide) lk_1374 (by simp [x_ty, tyX12]) (gr_12_13 sh_345) ?_
    refine o_iload_n (k := 3) 2 (by decide +kernel) rfl ?_
    obtain ⟨hi, h⟩ := h
    refine f_iald (by decide +kernel) sh_356 hi rfl ?_
    refine o_i2l (by decide +kernel) ?_
    refine o_goto (off := 15) 75 (by decide +kernel) (by decide) ?_
    refine o_sub [0, 1, 2] rfl ?_
    exact h
set_option maxRecDepth 20000 in
theorem k_X12_saysOf_75 {d : Nat} {K : x_T → Int64 → Prop} {v2 : Int32} {v3 : Int32} {s0 : Int64} {s1 : Int32} {τ : x_T} (h : vp_in s1 200 ∧ (∀ t1, t1 = x_w2 τ 372 s1.toNatClampNeg s0 → (∀ y2, y2 = v2 + 1 → (x_WL (d + 1) mX12_saysOf K 228 [(0, .ref 345), (2, .int y2), (3, .int v3)] [] t1)))) : x_WL (d + 1) mX12_saysOf K 75 [(0, .ref 345), (2, .int v2), (3, .int v3)] [.long s0, .int s1, .ref 372] τ := by
  obtain ⟨hi, h⟩ := h
  refine f_last (by decide +kernel) sh_372 hi rfl ?_
  refine f_name (fun t1 et1 => ?_)
  replace h := h t1 et1
  obtain ⟨y2, ey2⟩ : ∃ y : Int32, y = v2 + 1 := ⟨_, rfl⟩
  replace h := h y2 ey2
  refine o_iinc (i := 2) (n := 1) (v := y2) (L' := [(2, .int y2), (0, .ref 345), (3, .int v3)]) 1 (by decide +kernel) rfl (by rw [ey2]; rfl) (by decide) rfl ?_
  refine o_goto (off := 149) 228 (by decide +kernel) (by decide) ?_
  refine o_sub [1, 0, 2] rfl ?_
  exact h
set_option maxRecDepth 20000 in
theorem k_X12_saysOf_116 {d : Nat} {K : x_T → Int64 → Prop} {v2 : Int32} {s0 : Int32} {τ : x_T} (h : x_WL (d + 1) mX12_saysOf K 228 [(0, .ref 345), (2, .int v2), (3, .int s0)] [] τ) : x_WL (d + 1) mX12_saysOf K 116 [(0, .ref 345), (2, .int v2)] [.int s0] τ := by
  refine o_istore_n (k := 3) (L' := [(3, .int s0), (0, .ref 345), (2, .int v2)]) (by decide +kernel) (by decide) rfl ?_
  refine o_goto (off := 111) 228 (by decide +kernel) (by decide) ?_
  refine o_sub [1, 2, 0] rfl ?_
  exact h
set_option maxRecDepth 20000 in
theorem k_X12_saysOf_228 {d : Nat} {K : x_T → Int64 → Prop} {v2 : Int32} {v3 : Int32} {τ : x_T} (h : ∀ y1, y1 = v3 + 1 → (x_WL (d + 1) mX12_saysOf K 4 [(0, .ref 345), (2, .int v2), (3, .int y1)] [] τ)) : x_WL (d + 1) mX12_saysOf K 228 [(0, .ref 345), (2, .int v2), (3, .int v3)] [] τ := by
  obtain ⟨y1, ey1⟩ : ∃ y : Int32, y = v3 + 1 := ⟨_, rfl⟩
  replace h := h y1 ey1
  refine o_iinc (i := 3) (n := 1) (v := y1) (L' := [(3, .int y1), (0, .ref 345), (2, .int v2)]) 2 (by decide +kernel) rfl (by rw [ey1]; rfl) (by decide) rfl ?_
  refine o_goto (off := -227) 4 (by decide +kernel) (by decide) ?_
  refine o_sub [1, 2, 0] rfl ?_
  exact h
set_option maxRecDepth 20000 in
theorem e_X12_by {d : Nat} {K : x_T → Int32 → Prop} {v1 : Int32} {τ : x_T} (h : (v1 = (-1) → x_WI (d + 1) mX12_by K 23 [(0, .ref 345), (1, .int v1)] [] τ) ∧ (¬ v1 = (-1) → x_CI d mX12_in [.int v1, .int 0, .int ((τ.1 346 2) - 1)] τ (fun t1 a2 => (¬ a2 = 0 → x_WI (d + 1) mX12_by K 23 [(0, .ref 345), (1, .int v1)] [] t1) ∧ (a2 = 0 → K t1 0)))) : x_CI (d + 1) mX12_by [.ref 345, .int v1] τ K := by
  refine x_CI_of (by decide) (Nat.le_of_ble_eq_true rfl) ?_
  show x_WI (d + 1) mX12_by K 0 [(0, .ref 345), (1, .int v1)] [] τ
  refine o_iload_n (k := 1) 1 (by decide +kernel) rfl ?_
  refine o_iconst (n := -1) (v := (-1)) (by decide +kernel) (by decide) ?_
  refine o_icmp_eq (off := 21) 23 (by decide +kernel) (by decide) (fun q => ?_) (fun q => ?_)
  · replace h := h.1 q
    exact h
  · replace h := h.2 q
    refine o_iload_n (k := 1) 1 (by decide +kernel) rfl ?_
    refine o_iconst (n := 0) (v := 0) (by decide +kernel) (by decide) ?_
    refine o_aload_n (k := 0) 0 (by decide +kernel) rfl ?_
    refine f_getR (r := 346) (t := 12) (k := 0) (i := 7) (by decide +kernel) sh_345 rfl (by decide) lk_1361 (by simp [x_ty, tyX12]) (gr_12_0 sh_345) ?_
    refine o_iconst (n := 2) (v := 2) (by decide +kernel) (by decide) ?_
    refine f_iald (k := 2) (by decide +kernel) sh_346 (by unfold vp_in; decide) (by decide) ?_
    refine o_iconst (n := 1) (v := 1) (by decide +kernel) (by decide) ?_
    refine o_isub (by decide +kernel) ?_
    refine f_callSI (μ' := mX12_in) (i := 113) (vs := [.int v1, .int 0, .int ((τ.1 346 2) - 1)]) (by decide +kernel) lk_1508 (cok_mX12_in) rfl (stt_mX12_in) rfl rfl (Nat.le_of_ble_eq_true rfl) ?_
    refine x_CI.mono h (fun t1 a2 h => ?_)
    refine o_if_ne (off := 5) 23 (by decide +kernel) (by decide) (fun q => ?_) (fun q => ?_)
    · replace h := h.1 q
      exact h
    · replace h := h.2 q
      refine o_iconst (n := 0) (v := 0) (by decide +kernel) (by decide) ?_
      exact f_iret (ty := .boolean) rfl (by decide) (by decide +kernel) rfl h
set_option maxRecDepth 20000 in
theorem k_X12_by_23 {d : Nat} {K : x_T → Int32 → Prop} {v1 : Int32} {τ : x_T} (h : ∀ t1, t1 = x_w1 τ 346 3 v1 → (K t1 1)) : x_WI (d + 1) mX12_by K 23 [(0, .ref 345), (1, .int v1)] [] τ := by
  refine o_aload_n (k := 0) 0 (by decide +kernel) rfl ?_
  refine f_getR (r := 346) (t := 12) (k := 0) (i := 7) (by decide +kernel) sh_345 rfl (by decide) lk_1361 (by simp [x_ty, tyX12]) (gr_12_0 sh_345) ?_
  refine o_iconst (n := 3) (v := 3) (by decide +kernel) (by decide) ?_
  refine o_iload_n (k := 1) 1 (by decide +kernel) rfl ?_
  refine f_iast (k := 3) (by decide +kernel) sh_346 (by unfold vp_in; decide) (by decide) ?_
  refine f_name (fun t1 et1 => ?_)
  replace h := h t1 et1
  refine o_iconst (n := 1) (v := 1) (by decide +kernel) (by decide) ?_
  exact f_iret (ty := .boolean) rfl (by decide) (by decide +kernel) rfl h
set_option maxRecDepth 20000 in
theorem e_X12_ordersOf {d : Nat} {K : x_T → Int32 → Prop} {v1 : Int32} {τ : x_T} (h : x_WI d mX12_ordersOf K 4 [(0, .ref 345), (1, .int v1), (2, .int (-1)), (3, .int 0)] [] τ) : x_CI d mX12_ordersOf [.ref 345, .int v1] τ K := by
  refine x_CI_of (by decide) (Nat.le_of_ble_eq_true rfl) ?_
  show x_WI d mX12_ordersOf K 0 [(0, .ref 345), (1, .int v1)] [] τ
  refine o_iconst (n := -1) (v := (-1)) (by decide +kernel) (by decide) ?_
  refine o_istore_n (k := 2) (L' := [(2, .int (-1)), (0, .ref 345), (1, .int v1)]) (by decide +kernel) (by decide) rfl ?_
  refine o_iconst (n := 0) (v := 0) (by decide +kernel) (by decide) ?_
  refine o_istore_n (k := 3) (L' := [(3, .int 0), (2, .int (-1)), (0, .ref 345), (1, .int v1)]) (by decide +kernel) (by decide) rfl ?_
  refine o_sub [2, 3, 1, 0] rfl ?_
  exact h
set_option maxRecDepth 20000 in
theorem k_X12_ordersOf_4 {d : Nat} {K : x_T → Int32 → Prop} {v1 : Int32} {v2 : Int32} {v3 : Int32} {τ : x_T} (h : (τ.1 346 3 = (-1) → K τ v2) ∧ (¬ τ.1 346 3 = (-1) → vp_in (τ.1 346 3) 4 ∧ ((τ.1 349 (τ.1 346 3).toNatClampNeg ≤ v3 → K τ v2) ∧ (¬ τ.1 349 (τ.1 346 3).toNatClampNeg ≤ v3 → ∀ y1, y1 = (24 * (τ.1 346 3)) + v3 → (vp_in y1 96 ∧ ((¬ τ.1 350 y1.toNatClampNeg = v1 → x_WI d mX12_ordersOf K 64 [(0, .ref 345), (1, .int v1), (3, .int v3)] [.int v2] τ) ∧ (τ.1 350 y1.toNatClampNeg = v1 → vp_in y1 96 ∧ (x_WI d mX12_ordersOf K 64 [(0, .ref 345), (1, .int v1), (3, .int v3)] [.int (τ.1 351 y1.toNatClampNeg)] τ)))))))) : x_WI d mX12_ordersOf K 4 [(0, .ref 345), (1, .int v1), (2, .int v2), (3, .int v3)] [] τ := by
  refine o_aload_n (k := 0) 0 (by decide +kernel) rfl ?_
  refine f_getR (r := 346) (t := 12) (k := 0) (i := 7) (by decide +kernel) sh_345 rfl (by decide) lk_1361 (by simp [x_ty, tyX12]) (gr_12_0 sh_345) ?_
  refine o_iconst (n := 3) (v := 3) (by decide +kernel) (by decide) ?_
  refine f_iald (k := 3) (by decide +kernel) sh_346 (by unfold vp_in; decide) (by decide) ?_
  refine o_iconst (n := -1) (v := (-1)) (by decide +kernel) (by decide) ?_
  refine o_icmp_eq (off := 60) 71 (by decide +kernel) (by decide) (fun q => ?_) (fun q => ?_)
  · replace h := h.1 q
    refine o_iload_n (k := 2) 2 (by decide +kernel) rfl ?_
    exact f_iret (ty := .int) rfl rfl (by decide +kernel) rfl h
  · replace h := h.2 q
    refine o_iload_n (k := 3) 3 (by decide +kernel) rfl ?_
    refine o_aload_n (k := 0) 0 (by decide +kernel) rfl ?_
    refine f_getR (r := 349) (t := 12) (k := 6) (i := 27) (by decide +kernel) sh_345 rfl (by decide) lk_1367 (by simp [x_ty, tyX12]) (gr_12_6 sh_345) ?_
    refine o_aload_n (k := 0) 0 (by decide +kernel) rfl ?_
    refine f_getR (r := 346) (t := 12) (k := 0) (i := 7) (by decide +kernel) sh_345 rfl (by decide) lk_1361 (by simp [x_ty, tyX12]) (gr_12_0 sh_345) ?_
    refine o_iconst (n := 3) (v := 3) (by decide +kernel) (by decide) ?_
    refine f_iald (k := 3) (by decide +kernel) sh_346 (by unfold vp_in; decide) (by decide) ?_
    obtain ⟨hi, h⟩ := h
    refine f_iald (by decide +kernel) sh_349 hi rfl ?_
    refine o_icmp_ge (off := 45) 71 (by decide +kernel) (by decide) (fun q => ?_) (fun q => ?_)
    · replace h := h.1 q
      refine o_iload_n (k := 2) 2 (by decide +kernel) rfl ?_
      exact f_iret (ty := .int) rfl rfl (by decide +kernel) rfl h
    · replace h := h.2 q
      refine o_bipush (n := 24) (v := 24) (by decide +kernel) (by decide) ?_
      refine o_aload_n (k := 0) 0 (by decide +kernel) rfl ?_
      refine f_getR (r := 346) (t := 12) (k := 0) (i := 7) (by decide +kernel) sh_345 rfl (by decide) lk_1361 (by simp [x_ty, tyX12]) (gr_12_0 sh_345) ?_
      refine o_iconst (n := 3) (v := 3) (by decide +kernel) (by decide) ?_
      refine f_iald (k := 3) (by decide +kernel) sh_346 (by unfold vp_in; decide) (by decide) ?_
      refine o_imul (by decide +kernel) ?_
      refine o_iload_n (k := 3) 3 (by decide +kernel) rfl ?_
      refine o_iadd (by decide +kernel) ?_
      refine o_name (fun y1 ey1 => ?_)
      replace h := h y1 ey1
      refine o_istore (k := 4) (L' := [(4, .int y1), (0, .ref 345), (1, .int v1), (2, .int v2), (3, .int v3)]) (by decide +kernel) (by decide) rfl ?_
      refine o_aload_n (k := 0) 1 (by decide +kernel) rfl ?_
      refine f_getR (r := 350) (t := 12) (k := 7) (i := 30) (by decide +kernel) sh_345 rfl (by decide) lk_1368 (by simp [x_ty, tyX12]) (gr_12_7 sh_345) ?_
      refine o_iload (k := 4) 0 (by decide +kernel) rfl ?_
      obtain ⟨hi, h⟩ := h
      refine f_iald (by decide +kernel) sh_350 hi rfl ?_
      refine o_iload_n (k := 1) 2 (by decide +kernel) rfl ?_
      refine o_icmp_ne (off := 13) 63 (by decide +kernel) (by decide) (fun q => ?_) (fun q => ?_)
      · replace h := h.1 q
        refine o_iload_n (k := 2) 3 (by decide +kernel) rfl ?_
        refine o_sub [1, 2, 4] rfl ?_
        exact h
      · replace h := h.2 q
        refine o_aload_n (k := 0) 1 (by decide +kernel) rfl ?_
        refine f_getR (r := 351) (t := 12) (k := 8) (i := 33) (by decide +kernel) sh_345 rfl (by decide) lk_1369 (by simp [x_ty, tyX12]) (gr_12_8 sh_345) ?_
        refine o_iload (k := 4) 0 (by decide +kernel) rfl ?_
        obtain ⟨hi, h⟩ := h
        refine f_iald (by decide +kernel) sh_351 hi rfl ?_
        refine o_goto (off := 4) 64 (by decide +kernel) (by decide) ?_
        refine o_sub [1, 2, 4] rfl ?_
        exact h
set_option maxRecDepth 20000 in
theorem k_X12_ordersOf_64 {d : Nat} {K : x_T → Int32 → Prop} {v1 : Int32} {v3 : Int32} {s0 : Int32} {τ : x_T} (h : ∀ y1, y1 = v3 + 1 → (x_WI d mX12_ordersOf K 4 [(0, .ref 345), (1, .int v1), (2, .int s0), (3, .int y1)] [] τ)) : x_WI d mX12_ordersOf K 64 [(0, .ref 345), (1, .int v1), (3, .int v3)] [.int s0] τ := by
  refine o_istore_n (k := 2) (L' := [(2, .int s0), (0, .ref 345), (1, .int v1), (3, .int v3)]) (by decide +kernel) (by decide) rfl ?_
  obtain ⟨y1, ey1⟩ : ∃ y : Int32, y = v3 + 1 := ⟨_, rfl⟩
  replace h := h y1 ey1
  refine o_iinc (i := 3) (n := 1) (v := y1) (L' := [(3, .int y1), (2, .int s0), (0, .ref 345), (1, .int v1)]) 3 (by decide +kernel) rfl (by rw [ey1]; rfl) (by decide) rfl ?_
  refine o_goto (off := -64) 4 (by decide +kernel) (by decide) ?_
  refine o_sub [2, 3, 1, 0] rfl ?_
  exact h
set_option maxRecDepth 20000 in
theorem e_X12_hourBy {d : Nat} {K : x_T → Int32 → Prop} {v0 : Int32} {v1 : Int32} {v2 : Int32} {τ : x_T} (h : (v1 < v0 → x_WI (d + 1) mX12_hourBy K 18 [] [.long ((12 + v2).toInt64)] τ) ∧ (¬ v1 < v0 → x_WI (d + 1) mX12_hourBy K 18 [] [.long ((12 - v2).toInt64)] τ)) : x_CI (d + 1) mX12_hourBy [.int v0, .int v1, .int v2] τ K := by
  refine x_CI_of (by decide) (Nat.le_of_ble_eq_true rfl) ?_
  show x_WI (d + 1) mX12_hourBy K 0 [(0, .int v0), (1, .int v1), (2, .int v2)] [] τ
  refine o_iload_n (k := 0) 0 (by decide +kernel) rfl ?_
  refine o_iload_n (k := 1) 1 (by decide +kernel) rfl ?_
  refine o_icmp_gt (off := 11) 13 (by decide +kernel) (by decide) (fun q => ?_) (fun q => ?_)
  · replace h := h.1 q
    refine o_bipush (n := 12) (v := 12) (by decide +kernel) (by decide) ?_
    refine o_iload_n (k := 2) 2 (by decide +kernel) rfl ?_
    refine o_iadd (by decide +kernel) ?_
    refine o_i2l (by decide +kernel) ?_
    refine o_sub [] rfl ?_
    exact h
  · replace h := h.2 q
    refine o_bipush (n := 12) (v := 12) (by decide +kernel) (by decide) ?_
    refine o_iload_n (k := 2) 2 (by decide +kernel) rfl ?_
    refine o_isub (by decide +kernel) ?_
    refine o_i2l (by decide +kernel) ?_
    refine o_goto (off := 8) 18 (by decide +kernel) (by decide) ?_
    refine o_sub [] rfl ?_
    exact h
set_option maxRecDepth 20000 in
theorem k_X12_hourBy_18 {d : Nat} {K : x_T → Int32 → Prop} {s0 : Int64} {τ : x_T} (h : x_CI d mX12_held [.long s0, .int 0, .int 23] τ (fun t1 a2 => K t1 a2)) : x_WI (d + 1) mX12_hourBy K 18 [] [.long s0] τ := by
  refine o_iconst (n := 0) (v := 0) (by decide +kernel) (by decide) ?_
  refine o_bipush (n := 23) (v := 23) (by decide +kernel) (by decide) ?_
  refine f_callSI (μ' := mX12_held) (i := 355) (vs := [.long s0, .int 0, .int 23]) (by decide +kernel) lk_1754 (cok_mX12_held) rfl (stt_mX12_held) rfl rfl (Nat.le_of_ble_eq_true rfl) ?_
  refine x_CI.mono h (fun t1 a2 h => ?_)
  exact f_iret (ty := .int) rfl rfl (by decide +kernel) rfl h
set_option maxRecDepth 20000 in
theorem e_X12_hourAt {d : Nat} {K : x_T → Int32 → Prop} {v1 : Int32} {v2 : Int32} {τ : x_T} (h : vp_in ((8 * v1) + v2) 64 ∧ (x_CI d mX12_hourBy [.int v1, .int v2, .int (τ.1 369 ((8 * v1) + v2).toNatClampNeg)] τ (fun t1 a2 => K t1 a2))) : x_CI (d + 1) mX12_hourAt [.ref 345, .int v1, .int v2] τ K := by
  refine x_CI_of (by decide) (Nat.le_of_ble_eq_true rfl) ?_
  show x_WI (d + 1) mX12_hourAt K 0 [(0, .ref 345), (1, .int v1), (2, .int v2)] [] τ
  refine o_iload_n (k := 1) 1 (by decide +kernel) rfl ?_
  refine o_iload_n (k := 2) 2 (by decide +kernel) rfl ?_
  refine o_aload_n (k := 0) 0 (by decide +kernel) rfl ?_
  refine f_getR (r := 369) (t := 12) (k := 40) (i := 87) (by decide +kernel) sh_345 rfl (by decide) lk_1401 (by simp [x_ty, tyX12]) (gr_12_40 sh_345) ?_
  refine o_bipush (n := 8) (v := 8) (by decide +kernel) (by decide) ?_
  refine o_iload_n (k := 1) 1 (by decide +kernel) rfl ?_
  refine o_imul (by decide +kernel) ?_
  refine o_iload_n (k := 2) 2 (by decide +kernel) rfl ?_
  refine o_iadd (by decide +kernel) ?_
  obtain ⟨hi, h⟩ := h
  refine f_iald (by decide +kernel) sh_369 hi rfl ?_
  refine f_callSI (μ' := mX12_hourBy) (i := 359) (vs := [.int v1, .int v2, .int (τ.1 369 ((8 * v1) + v2).toNatClampNeg)]) (by decide +kernel) lk_1801 (cok_mX12_hourBy) rfl (stt_mX12_hourBy) rfl rfl (Nat.le_of_ble_eq_true rfl) ?_
  refine x_CI.mono h (fun t1 a2 h => ?_)
  exact f_iret (ty := .int) rfl rfl (by decide +kernel) rfl h
set_option maxRecDepth 20000 in
theorem e_X12_names {d : Nat} {K : x_T → Prop} {v1 : Int32} {τ : x_T} (h : ∀ t1, t1 = x_w1 τ 371 0 (τ.1 370 5) → (∀ t2, t2 = x_w1 t1 371 1 v1 → (vp_in (10 + v1) 3670 ∧ (∀ t3, t3 = x_w1 t2 371 2 (t2.1 346 (10 + v1).toNatClampNeg) → (K t3))))) : x_CV d mX12_names [.ref 345, .int v1] τ K := by
  refine x_CV_of (by decide) (Nat.le_of_ble_eq_true rfl) ?_
  show x_WV d mX12_names K 0 [(0, .ref 345), (1, .int v1)] [] τ
  refine o_aload_n (k := 0) 0 (by decide +kernel) rfl ?_
  refine f_getR (r := 371) (t := 12) (k := 42) (i := 93) (by decide +kernel) sh_345 rfl (by decide) lk_1403 (by simp [x_ty, tyX12]) (gr_12_42 sh_345) ?_
  refine o_iconst (n := 0) (v := 0) (by decide +kernel) (by decide) ?_
  refine o_aload_n (k := 0) 0 (by decide +kernel) rfl ?_
  refine f_getR (r := 370) (t := 12) (k := 41) (i := 90) (by decide +kernel) sh_345 rfl (by decide) lk_1402 (by simp [x_ty, tyX12]) (gr_12_41 sh_345) ?_
  refine o_iconst (n := 5) (v := 5) (by decide +kernel) (by decide) ?_
  refine f_iald (k := 5) (by decide +kernel) sh_370 (by unfold vp_in; decide) (by decide) ?_
  refine f_iast (k := 0) (by decide +kernel) sh_371 (by unfold vp_in; decide) (by decide) ?_
  refine f_name (fun t1 et1 => ?_)
  replace h := h t1 et1
  refine o_aload_n (k := 0) 0 (by decide +kernel) rfl ?_
  refine f_getR (r := 371) (t := 12) (k := 42) (i := 93) (by decide +kernel) sh_345 rfl (by decide) lk_1403 (by simp [x_ty, tyX12]) (gr_12_42 sh_345) ?_
  refine o_iconst (n := 1) (v := 1) (by decide +kernel) (by decide) ?_
  refine o_iload_n (k := 1) 1 (by decide +kernel) rfl ?_
  refine f_iast (k := 1) (by decide +kernel) sh_371 (by unfold vp_in; decide) (by decide) ?_
  refine f_name (fun t2 et2 => ?_)
  replace h := h t2 et2
  refine o_aload_n (k := 0) 0 (by decide +kernel) rfl ?_
  refine f_getR (r := 371) (t := 12) (k := 42) (i := 93) (by decide +kernel) sh_345 rfl (by decide) lk_1403 (by simp [x_ty, tyX12]) (gr_12_42 sh_345) ?_
  refine o_iconst (n := 2) (v := 2) (by decide +kernel) (by decide) ?_
  refine o_aload_n (k := 0) 0 (by decide +kernel) rfl ?_
  refine f_getR (r := 346) (t := 12) (k := 0) (i := 7) (by decide +kernel) sh_345 rfl (by decide) lk_1361 (by simp [x_ty, tyX12]) (gr_12_0 sh_345) ?_
  refine o_bipush (n := 10) (v := 10) (by decide +kernel) (by decide) ?_
  refine o_iload_n (k := 1) 1 (by decide +kernel) rfl ?_
  refine o_iadd (by decide +kernel) ?_
  obtain ⟨hi, h⟩ := h
  refine f_iald (by decide +kernel) sh_346 hi rfl ?_
  refine f_iast (k := 2) (by decide +kernel) sh_371 (by unfold vp_in; decide) (by decide) ?_
  refine f_name (fun t3 et3 => ?_)
  replace h := h t3 et3
  exact f_vret rfl (by decide +kernel) rfl h
set_option maxRecDepth 20000 in
theorem e_X12_hardOf {d : Nat} {K : x_T → Int32 → Prop} {v1 : Int32} {v2 : Int32} {v3 : Int32} {τ : x_T} (h : x_CI d mX12_ordersOf [.ref 345, .int 0] τ (fun t1 a2 => x_CV d mX12_names [.ref 345, .int v1] t1 (fun t3 => ∀ t5, t5 = x_w1 t3 371 6 v2 → (vp_in ((30 + (8 * v1)) + v2) 3670 ∧ (∀ t6, t6 = x_w1 t5 371 7 (t5.1 346 ((30 + (8 * v1)) + v2).toNatClampNeg) → (vp_in (18 + v3) 3670 ∧ (∀ t7, t7 = x_w1 t6 371 8 (t6.1 346 (18 + v3).toNatClampNeg) → ((¬ a2 = (-1) → x_CL d mX12_saysOf [.ref 345, .int a2] t7 (fun t8 a9 => x_WI (d + 1) mX12_hardOf K 99 [] [.long a9] t8)) ∧ (a2 = (-1) → vp_in (10 + v2) 3670 ∧ (x_WI (d + 1) mX12_hardOf K 99 [] [.long ((((3 * (t7.1 371 7)) + (t7.1 346 (10 + v2).toNatClampNeg)) - (t7.1 371 2)).toInt64)] t7)))))))))) : x_CI (d + 1) mX12_hardOf [.ref 345, .int v1, .int v2, .int v3] τ K := by
  refine x_CI_of (by decide) (Nat.le_of_ble_eq_true rfl) ?_
  show x_WI (d + 1) mX12_hardOf K 0 [(0, .ref 345), (1, .int v1), (2, .int v2), (3, .int v3)] [] τ
  refine o_aload_n (k := 0) 0 (by decide +kernel) rfl ?_
  refine o_iconst (n := 0) (v := 0) (by decide +kernel) (by decide) ?_
  refine f_callVI (μ' := mX12_ordersOf) (i := 362) (vs := [.int 0]) (by decide +kernel) lk_1728 (vok_mX12_ordersOf) sh_345 rfl rfl rfl rfl (Nat.le_of_ble_eq_true rfl) ?_
  refine x_CI.mono h (fun t1 a2 h => ?_)
  refine o_istore (k := 4) (L' := [(4, .int a2), (0, .ref 345), (1, .int v1), (2, .int v2), (3, .int v3)]) (by decide +kernel) (by decide) rfl ?_
  refine o_aload_n (k := 0) 1 (by decide +kernel) rfl ?_
  refine o_iload_n (k := 1) 2 (by decide +kernel) rfl ?_
  refine f_callVV (μ' := mX12_names) (i := 365) (vs := [.int v1]) (by decide +kernel) lk_1732 (vok_mX12_names) sh_345 rfl rfl rfl rfl (Nat.le_of_ble_eq_true rfl) ?_
  refine x_CV.mono h (fun t3 h => ?_)
  refine o_aload_n (k := 0) 1 (by decide +kernel) rfl ?_
  refine f_getR (r := 371) (t := 12) (k := 42) (i := 93) (by decide +kernel) sh_345 rfl (by decide) lk_1403 (by simp [x_ty, tyX12]) (gr_12_42 sh_345) ?_
  refine o_bipush (n := 6) (v := 6) (by decide +kernel) (by decide) ?_
  refine o_iload_n (k := 2) 3 (by decide +kernel) rfl ?_
  refine f_iast (k := 6) (by decide +kernel) sh_371 (by unfold vp_in; decide) (by decide) ?_
  refine f_name (fun t5 et5 => ?_)
  replace h := h t5 et5
  refine o_aload_n (k := 0) 1 (by decide +kernel) rfl ?_
  refine f_getR (r := 371) (t := 12) (k := 42) (i := 93) (by decide +kernel) sh_345 rfl (by decide) lk_1403 (by simp [x_ty, tyX12]) (gr_12_42 sh_345) ?_
  refine o_bipush (n := 7) (v := 7) (by decide +kernel) (by decide) ?_
  refine o_aload_n (k := 0) 1 (by decide +kernel) rfl ?_
  refine f_getR (r := 346) (t := 12) (k := 0) (i := 7) (by decide +kernel) sh_345 rfl (by decide) lk_1361 (by simp [x_ty, tyX12]) (gr_12_0 sh_345) ?_
  refine o_bipush (n := 30) (v := 30) (by decide +kernel) (by decide) ?_
  refine o_bipush (n := 8) (v := 8) (by decide +kernel) (by decide) ?_
  refine o_iload_n (k := 1) 2 (by decide +kernel) rfl ?_
  refine o_imul (by decide +kernel) ?_
  refine o_iadd (by decide +kernel) ?_
  refine o_iload_n (k := 2) 3 (by decide +kernel) rfl ?_
  refine o_iadd (by decide +kernel) ?_
  obtain ⟨hi, h⟩ := h
  refine f_iald (by decide +kernel) sh_346 hi rfl ?_
  refine f_iast (k := 7) (by decide +kernel) sh_371 (by unfold vp_in; decide) (by decide) ?_
  refine f_name (fun t6 et6 => ?_)
  replace h := h t6 et6
  refine o_aload_n (k := 0) 1 (by decide +kernel) rfl ?_
  refine f_getR (r := 371) (t := 12) (k := 42) (i := 93) (by decide +kernel) sh_345 rfl (by decide) lk_1403 (by simp [x_ty, tyX12]) (gr_12_42 sh_345) ?_
  refine o_bipush (n := 8) (v := 8) (by decide +kernel) (by decide) ?_
  refine o_aload_n (k := 0) 1 (by decide +kernel) rfl ?_
  refine f_getR (r := 346) (t := 12) (k := 0) (i := 7) (by decide +kernel) sh_345 rfl (by decide) lk_1361 (by simp [x_ty, tyX12]) (gr_12_0 sh_345) ?_
  refine o_bipush (n := 18) (v := 18) (by decide +kernel) (by decide) ?_
  refine o_iload_n (k := 3) 4 (by decide +kernel) rfl ?_
  refine o_iadd (by decide +kernel) ?_
  obtain ⟨hi, h⟩ := h
  refine f_iald (by decide +kernel) sh_346 hi rfl ?_
  refine f_iast (k := 8) (by decide +kernel) sh_371 (by unfold vp_in; decide) (by decide) ?_
  refine f_name (fun t7 et7 => ?_)
  replace h := h t7 et7
  refine o_iload (k := 4) 0 (by decide +kernel) rfl ?_
  refine o_iconst (n := -1) (v := (-1)) (by decide +kernel) (by decide) ?_
  refine o_icmp_ne (off := 33) 93 (by decide +kernel) (by decide) (fun q => ?_) (fun q => ?_)
  · replace h := h.1 q
    refine o_aload_n (k := 0) 1 (by decide +kernel) rfl ?_
    refine o_iload (k := 4) 0 (by decide +kernel) rfl ?_
    refine f_callVL (μ' := mX12_saysOf) (i := 368) (vs := [.int a2]) (by decide +kernel) lk_1736 (vok_mX12_saysOf) sh_345 rfl rfl rfl rfl (Nat.le_of_ble_eq_true rfl) ?_
    refine x_CL.mono h (fun t8 a9 h => ?_)
    refine o_sub [] rfl ?_
    exact h
  · replace h := h.2 q
    refine o_iconst (n := 3) (v := 3) (by decide +kernel) (by decide) ?_
    refine o_aload_n (k := 0) 1 (by decide +kernel) rfl ?_
    refine f_getR (r := 371) (t := 12) (k := 42) (i := 93) (by decide +kernel) sh_345 rfl (by decide) lk_1403 (by simp [x_ty, tyX12]) (gr_12_42 sh_345) ?_
    refine o_bipush (n := 7) (v := 7) (by decide +kernel) (by decide) ?_
    refine f_iald (k := 7) (by decide +kernel) sh_371 (by unfold vp_in; decide) (by decide) ?_
    refine o_imul (by decide +kernel) ?_
    refine o_aload_n (k := 0) 1 (by decide +kernel) rfl ?_
    refine f_getR (r := 346) (t := 12) (k := 0) (i := 7) (by decide +kernel) sh_345 rfl (by decide) lk_1361 (by simp [x_ty, tyX12]) (gr_12_0 sh_345) ?_
    refine o_bipush (n := 10) (v := 10) (by decide +kernel) (by decide) ?_
    refine o_iload_n (k := 2) 3 (by decide +kernel) rfl ?_
    refine o_iadd (by decide +kernel) ?_
    obtain ⟨hi, h⟩ := h
    refine f_iald (by decide +kernel) sh_346 hi rfl ?_
    refine o_iadd (by decide +kernel) ?_
    refine o_aload_n (k := 0) 1 (by decide +kernel) rfl ?_
    refine f_getR (r := 371) (t := 12) (k := 42) (i := 93) (by decide +kernel) sh_345 rfl (by decide) lk_1403 (by simp [x_ty, tyX12]) (gr_12_42 sh_345) ?_
    refine o_iconst (n := 2) (v := 2) (by decide +kernel) (by decide) ?_
    refine f_iald (k := 2) (by decide +kernel) sh_371 (by unfold vp_in; decide) (by decide) ?_
    refine o_isub (by decide +kernel) ?_
    refine o_i2l (by decide +kernel) ?_
    refine o_goto (off := 9) 99 (by decide +kernel) (by decide) ?_
    refine o_sub [] rfl ?_
    exact h
set_option maxRecDepth 20000 in
theorem k_X12_hardOf_99 {d : Nat} {K : x_T → Int32 → Prop} {s0 : Int64} {τ : x_T} (h : x_CI d mX12_held [.long s0, .int 1, .int 999] τ (fun t1 a2 => K t1 a2)) : x_WI (d + 1) mX12_hardOf K 99 [] [.long s0] τ := by
  refine o_iconst (n := 1) (v := 1) (by decide +kernel) (by decide) ?_
  refine o_sipush (n := 999) (v := 999) (by decide +kernel) (by decide) ?_
  refine f_callSI (μ' := mX12_held) (i := 355) (vs := [.long s0, .int 1, .int 999]) (by decide +kernel) lk_1754 (cok_mX12_held) rfl (stt_mX12_held) rfl rfl (Nat.le_of_ble_eq_true rfl) ?_
  refine x_CI.mono h (fun t1 a2 h => ?_)
  exact f_iret (ty := .int) rfl rfl (by decide +kernel) rfl h
set_option maxRecDepth 20000 in
theorem e_X12_wearsNow {d : Nat} {K : x_T → Int32 → Prop}  {τ : x_T} (h : x_CI d mX12_ordersOf [.ref 345, .int 1] τ (fun t1 a2 => x_CV d mX12_names [.ref 345, .int (t1.1 370 0)] t1 (fun t3 => ∀ t5, t5 = x_w1 t3 371 9 (t3.1 370 4) → (∀ t6, t6 = x_w1 t5 371 10 (t5.1 370 2) → ((¬ a2 = (-1) → x_CL d mX12_saysOf [.ref 345, .int a2] t6 (fun t7 a8 => x_WI (d + 1) mX12_wearsNow K 56 [] [.long a8] t7)) ∧ (a2 = (-1) → x_WI (d + 1) mX12_wearsNow K 56 [] [.long 1] t6)))))) : x_CI (d + 1) mX12_wearsNow [.ref 345] τ K := by
  refine x_CI_of (by decide) (Nat.le_of_ble_eq_true rfl) ?_
  show x_WI (d + 1) mX12_wearsNow K 0 [(0, .ref 345)] [] τ
  refine o_aload_n (k := 0) 0 (by decide +kernel) rfl ?_
  refine o_iconst (n := 1) (v := 1) (by decide +kernel) (by decide) ?_
  refine f_callVI (μ' := mX12_ordersOf) (i := 362) (vs := [.int 1]) (by decide +kernel) lk_1728 (vok_mX12_ordersOf) sh_345 rfl rfl rfl rfl (Nat.le_of_ble_eq_true rfl) ?_
  refine x_CI.mono h (fun t1 a2 h => ?_)
  refine o_istore_n (k := 1) (L' := [(1, .int a2), (0, .ref 345)]) (by decide +kernel) (by decide) rfl ?_
  refine o_aload_n (k := 0) 1 (by decide +kernel) rfl ?_
  refine o_aload_n (k := 0) 1 (by decide +kernel) rfl ?_
  refine f_getR (r := 370) (t := 12) (k := 41) (i := 90) (by decide +kernel) sh_345 rfl (by decide) lk_1402 (by simp [x_ty, tyX12]) (gr_12_41 sh_345) ?_
  refine o_iconst (n := 0) (v := 0) (by decide +kernel) (by decide) ?_
  refine f_iald (k := 0) (by decide +kernel) sh_370 (by unfold vp_in; decide) (by decide) ?_
  refine f_callVV (μ' := mX12_names) (i := 365) (vs := [.int (t1.1 370 0)]) (by decide +kernel) lk_1732 (vok_mX12_names) sh_345 rfl rfl rfl rfl (Nat.le_of_ble_eq_true rfl) ?_
  refine x_CV.mono h (fun t3 h => ?_)
  refine o_aload_n (k := 0) 1 (by decide +kernel) rfl ?_
  refine f_getR (r := 371) (t := 12) (k := 42) (i := 93) (by decide +kernel) sh_345 rfl (by decide) lk_1403 (by simp [x_ty, tyX12]) (gr_12_42 sh_345) ?_
  refine o_bipush (n := 9) (v := 9) (by decide +kernel) (by decide) ?_
  refine o_aload_n (k := 0) 1 (by decide +kernel) rfl ?_
  refine f_getR (r := 370) (t := 12) (k := 41) (i := 90) (by decide +kernel) sh_345 rfl (by decide) lk_1402 (by simp [x_ty, tyX12]) (gr_12_41 sh_345) ?_
  refine o_iconst (n := 4) (v := 4) (by decide +kernel) (by decide) ?_
  refine f_iald (k := 4) (by decide +kernel) sh_370 (by unfold vp_in; decide) (by decide) ?_
  refine f_iast (k := 9) (by decide +kernel) sh_371 (by unfold vp_in; decide) (by decide) ?_
  refine f_name (fun t5 et5 => ?_)
  replace h := h t5 et5
  refine o_aload_n (k := 0) 1 (by decide +kernel) rfl ?_
  refine f_getR (r := 371) (t := 12) (k := 42) (i := 93) (by decide +kernel) sh_345 rfl (by decide) lk_1403 (by simp [x_ty, tyX12]) (gr_12_42 sh_345) ?_
  refine o_bipush (n := 10) (v := 10) (by decide +kernel) (by decide) ?_
  refine o_aload_n (k := 0) 1 (by decide +kernel) rfl ?_
  refine f_getR (r := 370) (t := 12) (k := 41) (i := 90) (by decide +kernel) sh_345 rfl (by decide) lk_1402 (by simp [x_ty, tyX12]) (gr_12_41 sh_345) ?_
  refine o_iconst (n := 2) (v := 2) (by decide +kernel) (by decide) ?_
  refine f_iald (k := 2) (by decide +kernel) sh_370 (by unfold vp_in; decide) (by decide) ?_
  refine f_iast (k := 10) (by decide +kernel) sh_371 (by unfold vp_in; decide) (by decide) ?_
  refine f_name (fun t6 et6 => ?_)
  replace h := h t6 et6
  refine o_iload_n (k := 1) 0 (by decide +kernel) rfl ?_
  refine o_iconst (n := -1) (v := (-1)) (by decide +kernel) (by decide) ?_
  refine o_icmp_ne (off := 7) 51 (by decide +kernel) (by decide) (fun q => ?_) (fun q => ?_)
  · replace h := h.1 q
    refine o_aload_n (k := 0) 1 (by decide +kernel) rfl ?_
    refine o_iload_n (k := 1) 0 (by decide +kernel) rfl ?_
    refine f_callVL (μ' := mX12_saysOf) (i := 368) (vs := [.int a2]) (by decide +kernel) lk_1736 (vok_mX12_saysOf) sh_345 rfl rfl rfl rfl (Nat.le_of_ble_eq_true rfl) ?_
    refine x_CL.mono h (fun t7 a8 h => ?_)
    refine o_sub [] rfl ?_
    exact h
  · replace h := h.2 q
    refine o_lconst (n := 1) (v := 1) (by decide +kernel) (by decide) ?_
    refine o_goto (off := 8) 56 (by decide +kernel) (by decide) ?_
    refine o_sub [] rfl ?_
    exact h
set_option maxRecDepth 20000 in
theorem k_X12_wearsNow_56 {d : Nat} {K : x_T → Int32 → Prop} {s0 : Int64} {τ : x_T} (h : x_CI d mX12_held [.long s0, .int 0, .int 99] τ (fun t1 a2 => K t1 a2)) : x_WI (d + 1) mX12_wearsNow K 56 [] [.long s0] τ := by
  refine o_iconst (n := 0) (v := 0) (by decide +kernel) (by decide) ?_
  refine o_bipush (n := 99) (v := 99) (by decide +kernel) (by decide) ?_
  refine f_callSI (μ' := mX12_held) (i := 355) (vs := [.long s0, .int 0, .int 99]) (by decide +kernel) lk_1754 (cok_mX12_held) rfl (stt_mX12_held) rfl rfl (Nat.le_of_ble_eq_true rfl) ?_
  refine x_CI.mono h (fun t1 a2 h => ?_)
  exact f_iret (ty := .int) rfl rfl (by decide +kernel) rfl h
set_option maxRecDepth 20000 in
theorem e_X12_earnsOf {d : Nat} {K : x_T → Int32 → Prop} {v1 : Int32} {τ : x_T} (h : x_CI d mX12_ordersOf [.ref 345, .int 2] τ (fun t1 a2 => x_CV d mX12_names [.ref 345, .int v1] t1 (fun t3 => x_CI d mX12_hourAt [.ref 345, .int v1, .int (t3.1 370 0)] t3 (fun t5 a6 => ∀ t7, t7 = x_w1 t5 371 3 a6 → (vp_in (15 + v1) 114 ∧ (∀ t8, t8 = x_w1 t7 371 4 (t7.1 370 (15 + v1).toNatClampNeg) → (vp_in (7 + v1) 114 ∧ (∀ t9, t9 = x_w1 t8 371 5 (t8.1 370 (7 + v1).toNatClampNeg) → ((¬ a2 = (-1) → x_CL d mX12_saysOf [.ref 345, .int a2] t9 (fun t10 a11 => x_WI (d + 1) mX12_earnsOf K 86 [] [.long a11] t10)) ∧ (a2 = (-1) → x_CI d mX12_away [.int (t9.1 371 3), .int 12] t9 (fun t12 a13 => x_WI (d + 1) mX12_earnsOf K 86 [] [.long ((12 - a13).toInt64)] t12))))))))))) : x_CI (d + 1) mX12_earnsOf [.ref 345, .int v1] τ K := by
  refine x_CI_of (by decide) (Nat.le_of_ble_eq_true rfl) ?_
  show x_WI (d + 1) mX12_earnsOf K 0 [(0, .ref 345), (1, .int v1)] [] τ
  refine o_aload_n (k := 0) 0 (by decide +kernel) rfl ?_
  refine o_iconst (n := 2) (v := 2) (by decide +kernel) (by decide) ?_
  refine f_callVI (μ' := mX12_ordersOf) (i := 362) (vs := [.int 2]) (by decide +kernel) lk_1728 (vok_mX12_ordersOf) sh_345 rfl rfl rfl rfl (Nat.le_of_ble_eq_true rfl) ?_
  refine x_CI.mono h (fun t1 a2 h => ?_)
  refine o_istore_n (k := 2) (L' := [(2, .int a2), (0, .ref 345), (1, .int v1)]) (by decide +kernel) (by decide) rfl ?_
  refine o_aload_n (k := 0) 1 (by decide +kernel) rfl ?_
  refine o_iload_n (k := 1) 2 (by decide +kernel) rfl ?_
  refine f_callVV (μ' := mX12_names) (i := 365) (vs := [.int v1]) (by decide +kernel) lk_1732 (vok_mX12_names) sh_345 rfl rfl rfl rfl (Nat.le_of_ble_eq_true rfl) ?_
  refine x_CV.mono h (fun t3 h => ?_)
  refine o_aload_n (k := 0) 1 (by decide +kernel) rfl ?_
  refine f_getR (r := 371) (t := 12) (k := 42) (i := 93) (by decide +kernel) sh_345 rfl (by decide) lk_1403 (by simp [x_ty, tyX12]) (gr_12_42 sh_345) ?_
  refine o_iconst (n := 3) (v := 3) (by decide +kernel) (by decide) ?_
  refine o_aload_n (k := 0) 1 (by decide +kernel) rfl ?_
  refine o_iload_n (k := 1) 2 (by decide +kernel) rfl ?_
  refine o_aload_n (k := 0) 1 (by decide +kernel) rfl ?_
  refine f_getR (r := 370) (t := 12) (k := 41) (i := 90) (by decide +kernel) sh_345 rfl (by decide) lk_1402 (by simp [x_ty, tyX12]) (gr_12_41 sh_345) ?_
  refine o_iconst (n := 0) (v := 0) (by decide +kernel) (by decide) ?_
  refine f_iald (k := 0) (by decide +kernel) sh_370 (by unfold vp_in; decide) (by decide) ?_
  refine f_callVI (μ' := mX12_hourAt) (i := 372) (vs := [.int v1, .int (t3.1 370 0)]) (by decide +kernel) lk_1797 (vok_mX12_hourAt) sh_345 rfl rfl rfl rfl (Nat.le_of_ble_eq_true rfl) ?_
  refine x_CI.mono h (fun t5 a6 h => ?_)
  refine f_iast (k := 3) (by decide +kernel) sh_371 (by unfold vp_in; decide) (by decide) ?_
  refine f_name (fun t7 et7 => ?_)
  replace h := h t7 et7
  refine o_aload_n (k := 0) 1 (by decide +kernel) rfl ?_
  refine f_getR (r := 371) (t := 12) (k := 42) (i := 93) (by decide +kernel) sh_345 rfl (by decide) lk_1403 (by simp [x_ty, tyX12]) (gr_12_42 sh_345) ?_
  refine o_iconst (n := 4) (v := 4) (by decide +kernel) (by decide) ?_
  refine o_aload_n (k := 0) 1 (by decide +kernel) rfl ?_
  refine f_getR (r := 370) (t := 12) (k := 41) (i := 90) (by decide +kernel) sh_345 rfl (by decide) lk_1402 (by simp [x_ty, tyX12]) (gr_12_41 sh_345) ?_
  refine o_bipush (n := 15) (v := 15) (by decide +kernel) (by decide) ?_
  refine o_iload_n (k := 1) 2 (by decide +kernel) rfl ?_
  refine o_iadd (by decide +kernel) ?_
  obtain ⟨hi, h⟩ := h
  refine f_iald (by decide +kernel) sh_370 hi rfl ?_
  refine f_iast (k := 4) (by decide +kernel) sh_371 (by unfold vp_in; decide) (by decide) ?_
  refine f_name (fun t8 et8 => ?_)
  replace h := h t8 et8
  refine o_aload_n (k := 0) 1 (by decide +kernel) rfl ?_
  refine f_getR (r := 371) (t := 12) (k := 42) (i := 93) (by decide +kernel) sh_345 rfl (by decide) lk_1403 (by simp [x_ty, tyX12]) (gr_12_42 sh_345) ?_
  refine o_iconst (n := 5) (v := 5) (by decide +kernel) (by decide) ?_
  refine o_aload_n (k := 0) 1 (by decide +kernel) rfl ?_
  refine f_getR (r := 370) (t := 12) (k := 41) (i := 90) (by decide +kernel) sh_345 rfl (by decide) lk_1402 (by simp [x_ty, tyX12]) (gr_12_41 sh_345) ?_
  refine o_bipush (n := 7) (v := 7) (by decide +kernel) (by decide) ?_
  refine o_iload_n (k := 1) 2 (by decide +kernel) rfl ?_
  refine o_iadd (by decide +kernel) ?_
  obtain ⟨hi, h⟩ := h
  refine f_iald (by decide +kernel) sh_370 hi rfl ?_
  refine f_iast (k := 5) (by decide +kernel) sh_371 (by unfold vp_in; decide) (by decide) ?_
  refine f_name (fun t9 et9 => ?_)
  replace h := h t9 et9
  refine o_iload_n (k := 2) 0 (by decide +kernel) rfl ?_
  refine o_iconst (n := -1) (v := (-1)) (by decide +kernel) (by decide) ?_
  refine o_icmp_ne (off := 21) 81 (by decide +kernel) (by decide) (fun q => ?_) (fun q => ?_)
  · replace h := h.1 q
    refine o_aload_n (k := 0) 1 (by decide +kernel) rfl ?_
    refine o_iload_n (k := 2) 0 (by decide +kernel) rfl ?_
    refine f_callVL (μ' := mX12_saysOf) (i := 368) (vs := [.int a2]) (by decide +kernel) lk_1736 (vok_mX12_saysOf) sh_345 rfl rfl rfl rfl (Nat.le_of_ble_eq_true rfl) ?_
    refine x_CL.mono h (fun t10 a11 h => ?_)
    refine o_sub [] rfl ?_
    exact h
  · replace h := h.2 q
    refine o_bipush (n := 12) (v := 12) (by decide +kernel) (by decide) ?_
    refine o_aload_n (k := 0) 1 (by decide +kernel) rfl ?_
    refine f_getR (r := 371) (t := 12) (k := 42) (i := 93) (by decide +kernel) sh_345 rfl (by decide) lk_1403 (by simp [x_ty, tyX12]) (gr_12_42 sh_345) ?_
    refine o_iconst (n := 3) (v := 3) (by decide +kernel) (by decide) ?_
    refine f_iald (k := 3) (by decide +kernel) sh_371 (by unfold vp_in; decide) (by decide) ?_
    refine o_bipush (n := 12) (v := 12) (by decide +kernel) (by decide) ?_
    refine f_callSI (μ' := mX12_away) (i := 375) (vs := [.int (t9.1 371 3), .int 12]) (by decide +kernel) lk_1804 (cok_mX12_away) rfl (stt_mX12_away) rfl rfl (Nat.le_of_ble_eq_true rfl) ?_
    refine x_CI.mono h (fun t12 a13 h => ?_)
    refine o_isub (by decide +kernel) ?_
    refine o_i2l (by decide +kernel) ?_
    refine o_goto (off := 8) 86 (by decide +kernel) (by decide) ?_
    refine o_sub [] rfl ?_
    exact h
set_option maxRecDepth 20000 in
theorem k_X12_earnsOf_86 {d : Nat} {K : x_T → Int32 → Prop} {s0 : Int64} {τ : x_T} (h : x_CI d mX12_held [.long s0, .int (-99), .int 99] τ (fun t1 a2 => K t1 a2)) : x_WI (d + 1) mX12_earnsOf K 86 [] [.long s0] τ := by
  refine o_bipush (n := -99) (v := (-99)) (by decide +kernel) (by decide) ?_
  refine o_bipush (n := 99) (v := 99) (by decide +kernel) (by decide) ?_
  refine f_callSI (μ' := mX12_held) (i := 355) (vs := [.long s0, .int (-99), .int 99]) (by decide +kernel) lk_1754 (cok_mX12_held) rfl (stt_mX12_held) rfl rfl (Nat.le_of_ble_eq_true rfl) ?_
  refine x_CI.mono h (fun t1 a2 h => ?_)
  exact f_iret (ty := .int) rfl rfl (by decide +kernel) rfl h
set_option maxRecDepth 20000 in
theorem e_X12_warmOf {d : Nat} {K : x_T → Int32 → Prop} {v1 : Int32} {v2 : Int32} {τ : x_T} (h : x_CI d mX12_ordersOf [.ref 345, .int 3] τ (fun t1 a2 => x_CV d mX12_names [.ref 345, .int v1] t1 (fun t3 => ∀ t5, t5 = x_w1 t3 371 11 v2 → ((¬ a2 = (-1) → x_CL d mX12_saysOf [.ref 345, .int a2] t5 (fun t6 a7 => x_WI (d + 1) mX12_warmOf K 49 [] [.long a7] t6)) ∧ (a2 = (-1) → vp_in ((8 * v1) + v2) 64 ∧ (x_WI (d + 1) mX12_warmOf K 49 [] [.long ((30 - (5 * (t5.1 369 ((8 * v1) + v2).toNatClampNeg))).toInt64)] t5)))))) : x_CI (d + 1) mX12_warmOf [.ref 345, .int v1, .int v2] τ K := by
  refine x_CI_of (by decide) (Nat.le_of_ble_eq_true rfl) ?_
  show x_WI (d + 1) mX12_warmOf K 0 [(0, .ref 345), (1, .int v1), (2, .int v2)] [] τ
  refine o_aload_n (k := 0) 0 (by decide +kernel) rfl ?_
  refine o_iconst (n := 3) (v := 3) (by decide +kernel) (by decide) ?_
  refine f_callVI (μ' := mX12_ordersOf) (i := 362) (vs := [.int 3]) (by decide +kernel) lk_1728 (vok_mX12_ordersOf) sh_345 rfl rfl rfl rfl (Nat.le_of_ble_eq_true rfl) ?_
  refine x_CI.mono h (fun t1 a2 h => ?_)
  refine o_istore_n (k := 3) (L' := [(3, .int a2), (0, .ref 345), (1, .int v1), (2, .int v2)]) (by decide +kernel) (by decide) rfl ?_
  refine o_aload_n (k := 0) 1 (by decide +kernel) rfl ?_
  refine o_iload_n (k := 1) 2 (by decide +kernel) rfl ?_
  refine f_callVV (μ' := mX12_names) (i := 365) (vs := [.int v1]) (by decide +kernel) lk_1732 (vok_mX12_names) sh_345 rfl rfl rfl rfl (Nat.le_of_ble_eq_true rfl) ?_
  refine x_CV.mono h (fun t3 h => ?_)
  refine o_aload_n (k := 0) 1 (by decide +kernel) rfl ?_
  refine f_getR (r := 371) (t := 12) (k := 42) (i := 93) (by decide +kernel) sh_345 rfl (by decide) lk_1403 (by simp [x_ty, tyX12]) (gr_12_42 sh_345) ?_
  refine o_bipush (n := 11) (v := 11) (by decide +kernel) (by decide) ?_
  refine o_iload_n (k := 2) 3 (by decide +kernel) rfl ?_
  refine f_iast (k := 11) (by decide +kernel) sh_371 (by unfold vp_in; decide) (by decide) ?_
  refine f_name (fun t5 et5 => ?_)
  replace h := h t5 et5
  refine o_iload_n (k := 3) 0 (by decide +kernel) rfl ?_
  refine o_iconst (n := -1) (v := (-1)) (by decide +kernel) (by decide) ?_
  refine o_icmp_ne (off := 23) 44 (by decide +kernel) (by decide) (fun q => ?_) (fun q => ?_)
  · replace h := h.1 q
    refine o_aload_n (k := 0) 1 (by decide +kernel) rfl ?_
    refine o_iload_n (k := 3) 0 (by decide +kernel) rfl ?_
    refine f_callVL (μ' := mX12_saysOf) (i := 368) (vs := [.int a2]) (by decide +kernel) lk_1736 (vok_mX12_saysOf) sh_345 rfl rfl rfl rfl (Nat.le_of_ble_eq_true rfl) ?_
    refine x_CL.mono h (fun t6 a7 h => ?_)
    refine o_sub [] rfl ?_
    exact h
  · replace h := h.2 q
    refine o_bipush (n := 30) (v := 30) (by decide +kernel) (by decide) ?_
    refine o_iconst (n := 5) (v := 5) (by decide +kernel) (by decide) ?_
    refine o_aload_n (k := 0) 1 (by decide +kernel) rfl ?_
    refine f_getR (r := 369) (t := 12) (k := 40) (i := 87) (by decide +kernel) sh_345 rfl (by decide) lk_1401 (by simp [x_ty, tyX12]) (gr_12_40 sh_345) ?_
    refine o_bipush (n := 8) (v := 8) (by decide +kernel) (by decide) ?_
    refine o_iload_n (k := 1) 2 (by decide +kernel) rfl ?_
    refine o_imul (by decide +kernel) ?_
    refine o_iload_n (k := 2) 3 (by decide +kernel) rfl ?_
    refine o_iadd (by decide +kernel) ?_
    obtain ⟨hi, h⟩ := h
    refine f_iald (by decide +kernel) sh_369 hi rfl ?_
    refine o_imul (by decide +kernel) ?_
    refine o_isub (by decide +kernel) ?_
    refine o_i2l (by decide +kernel) ?_
    refine o_goto (off := 8) 49 (by decide +kernel) (by decide) ?_
    refine o_sub [] rfl ?_
    exact h
set_option maxRecDepth 20000 in
theorem k_X12_warmOf_49 {d : Nat} {K : x_T → Int32 → Prop} {s0 : Int64} {τ : x_T} (h : x_CI d mX12_held [.long s0, .int 0, .int 99] τ (fun t1 a2 => K t1 a2)) : x_WI (d + 1) mX12_warmOf K 49 [] [.long s0] τ := by
  refine o_iconst (n := 0) (v := 0) (by decide +kernel) (by decide) ?_
  refine o_bipush (n := 99) (v := 99) (by decide +kernel) (by decide) ?_
  refine f_callSI (μ' := mX12_held) (i := 355) (vs := [.long s0, .int 0, .int 99]) (by decide +kernel) lk_1754 (cok_mX12_held) rfl (stt_mX12_held) rfl rfl (Nat.le_of_ble_eq_true rfl) ?_
  refine x_CI.mono h (fun t1 a2 h => ?_)
  exact f_iret (ty := .int) rfl rfl (by decide +kernel) rfl h
set_option maxRecDepth 20000 in
theorem e_X12_canPush {d : Nat} {K : x_T → Int32 → Prop} {v1 : Int32} {v2 : Int32} {τ : x_T} (h : (¬ τ.1 370 2 = 0 → K τ 0) ∧ (τ.1 370 2 = 0 → x_CI d mX12_isHouse [.ref 345, .int v1] τ (fun t1 a2 => (a2 = 0 → K t1 0) ∧ (¬ a2 = 0 → vp_in ((30 + (8 * (t1.1 370 0))) + v1) 3670 ∧ ((t1.1 346 ((30 + (8 * (t1.1 370 0))) + v1).toNatClampNeg ≤ 0 → K t1 0) ∧ (¬ t1.1 346 ((30 + (8 * (t1.1 370 0))) + v1).toNatClampNeg ≤ 0 → x_CI d mX12_in [.int v2, .int 0, .int ((t1.1 346 1) - 1)] t1 (fun t3 a4 => (a4 = 0 → K t3 0) ∧ (¬ a4 = 0 → K t3 1)))))))) : x_CI (d + 1) mX12_canPush [.ref 345, .int v1, .int v2] τ K := by
  refine x_CI_of (by decide) (Nat.le_of_ble_eq_true rfl) ?_
  show x_WI (d + 1) mX12_canPush K 0 [(0, .ref 345), (1, .int v1), (2, .int v2)] [] τ
  refine o_aload_n (k := 0) 0 (by decide +kernel) rfl ?_
  refine f_getR (r := 370) (t := 12) (k := 41) (i := 90) (by decide +kernel) sh_345 rfl (by decide) lk_1402 (by simp [x_ty, tyX12]) (gr_12_41 sh_345) ?_
  refine o_iconst (n := 2) (v := 2) (by decide +kernel) (by decide) ?_
  refine f_iald (k := 2) (by decide +kernel) sh_370 (by unfold vp_in; decide) (by decide) ?_
  refine o_if_ne (off := 53) 59 (by decide +kernel) (by decide) (fun q => ?_) (fun q => ?_)
  · replace h := h.1 q
    refine o_iconst (n := 0) (v := 0) (by decide +kernel) (by decide) ?_
    exact f_iret (ty := .boolean) rfl (by decide) (by decide +kernel) rfl h
  · replace h := h.2 q
    refine o_aload_n (k := 0) 0 (by decide +kernel) rfl ?_
    refine o_iload_n (k := 1) 1 (by decide +kernel) rfl ?_
    refine f_callVI (μ' := mX12_isHouse) (i := 117) (vs := [.int v1]) (by decide +kernel) lk_1515 (vok_mX12_isHouse) sh_345 rfl rfl rfl rfl (Nat.le_of_ble_eq_true rfl) ?_
    refine x_CI.mono h (fun t1 a2 h => ?_)
    refine o_if_eq (off := 45) 59 (by decide +kernel) (by decide) (fun q => ?_) (fun q => ?_)
    · replace h := h.1 q
      refine o_iconst (n := 0) (v := 0) (by decide +kernel) (by decide) ?_
      exact f_iret (ty := .boolean) rfl (by decide) (by decide +kernel) rfl h
    · replace h := h.2 q
      refine o_aload_n (k := 0) 0 (by decide +kernel) rfl ?_
      refine f_getR (r := 346) (t := 12) (k := 0) (i := 7) (by decide +kernel) sh_345 rfl (by decide) lk_1361 (by simp [x_ty, tyX12]) (gr_12_0 sh_345) ?_
      refine o_bipush (n := 30) (v := 30) (by decide +kernel) (by decide) ?_
      refine o_bipush (n := 8) (v := 8) (by decide +kernel) (by decide) ?_
      refine o_aload_n (k := 0) 0 (by decide +kernel) rfl ?_
      refine f_getR (r := 370) (t := 12) (k := 41) (i := 90) (by decide +kernel) sh_345 rfl (by decide) lk_1402 (by simp [x_ty, tyX12]) (gr_12_41 sh_345) ?_
      refine o_iconst (n := 0) (v := 0) (by decide +kernel) (by decide) ?_
      refine f_iald (k := 0) (by decide +kernel) sh_370 (by unfold vp_in; decide) (by decide) ?_
      refine o_imul (by decide +kernel) ?_
      refine o_iadd (by decide +kernel) ?_
      refine o_iload_n (k := 1) 1 (by decide +kernel) rfl ?_
      refine o_iadd (by decide +kernel) ?_
      obtain ⟨hi, h⟩ := h
      refine f_iald (by decide +kernel) sh_346 hi rfl ?_
      refine o_if_le (off := 23) 59 (by decide +kernel) (by decide) (fun q => ?_) (fun q => ?_)
      · replace h := h.1 q
        refine o_iconst (n := 0) (v := 0) (by decide +kernel) (by decide) ?_
        exact f_iret (ty := .boolean) rfl (by decide) (by decide +kernel) rfl h
      · replace h := h.2 q
        refine o_iload_n (k := 2) 2 (by decide +kernel) rfl ?_
        refine o_iconst (n := 0) (v := 0) (by decide +kernel) (by decide) ?_
        refine o_aload_n (k := 0) 0 (by decide +kernel) rfl ?_
        refine f_getR (r := 346) (t := 12) (k := 0) (i := 7) (by decide +kernel) sh_345 rfl (by decide) lk_1361 (by simp [x_ty, tyX12]) (gr_12_0 sh_345) ?_
        refine o_iconst (n := 1) (v := 1) (by decide +kernel) (by decide) ?_
        refine f_iald (k := 1) (by decide +kernel) sh_346 (by unfold vp_in; decide) (by decide) ?_
        refine o_iconst (n := 1) (v := 1) (by decide +kernel) (by decide) ?_
        refine o_isub (by decide +kernel) ?_
        refine f_callSI (μ' := mX12_in) (i := 113) (vs := [.int v2, .int 0, .int ((t1.1 346 1) - 1)]) (by decide +kernel) lk_1508 (cok_mX12_in) rfl (stt_mX12_in) rfl rfl (Nat.le_of_ble_eq_true rfl) ?_
        refine x_CI.mono h (fun t3 a4 h => ?_)
        refine o_if_eq (off := 7) 59 (by decide +kernel) (by decide) (fun q => ?_) (fun q => ?_)
        · replace h := h.1 q
          refine o_iconst (n := 0) (v := 0) (by decide +kernel) (by decide) ?_
          exact f_iret (ty := .boolean) rfl (by decide) (by decide +kernel) rfl h
        · replace h := h.2 q
          refine o_iconst (n := 1) (v := 1) (by decide +kernel) (by decide) ?_
          refine o_goto (off := 4) 60 (by decide +kernel) (by decide) ?_
          exact f_iret (ty := .boolean) rfl (by decide) (by decide +kernel) rfl h
set_option maxRecDepth 20000 in
theorem e_X12_pushes {d : Nat} {K : x_T → Prop} {v1 : Int32} {v2 : Int32} {τ : x_T} (h : x_CI d mX12_hardOf [.ref 345, .int (τ.1 370 0), .int v1, .int v2] τ (fun t1 a2 => ∀ t3, t3 = x_w1 t1 370 2 a2 → (∀ t4, t4 = x_w1 t3 370 1 v1 → (∀ t5, t5 = x_w1 t4 370 3 v2 → (K t5))))) : x_CV (d + 1) mX12_pushes [.ref 345, .int v1, .int v2] τ K := by
  refine x_CV_of (by decide) (Nat.le_of_ble_eq_true rfl) ?_
  show x_WV (d + 1) mX12_pushes K 0 [(0, .ref 345), (1, .int v1), (2, .int v2)] [] τ
  refine o_aload_n (k := 0) 0 (by decide +kernel) rfl ?_
  refine f_getR (r := 370) (t := 12) (k := 41) (i := 90) (by decide +kernel) sh_345 rfl (by decide) lk_1402 (by simp [x_ty, tyX12]) (gr_12_41 sh_345) ?_
  refine o_iconst (n := 2) (v := 2) (by decide +kernel) (by decide) ?_
  refine o_aload_n (k := 0) 0 (by decide +kernel) rfl ?_
  refine o_aload_n (k := 0) 0 (by decide +kernel) rfl ?_
  refine f_getR (r := 370) (t := 12) (k := 41) (i := 90) (by decide +kernel) sh_345 rfl (by decide) lk_1402 (by simp [x_ty, tyX12]) (gr_12_41 sh_345) ?_
  refine o_iconst (n := 0) (v := 0) (by decide +kernel) (by decide) ?_
  refine f_iald (k := 0) (by decide +kernel) sh_370 (by unfold vp_in; decide) (by decide) ?_
  refine o_iload_n (k := 1) 1 (by decide +kernel) rfl ?_
  refine o_iload_n (k := 2) 2 (by decide +kernel) rfl ?_
  refine f_callVI (μ' := mX12_hardOf) (i := 378) (vs := [.int (τ.1 370 0), .int v1, .int v2]) (by decide +kernel) lk_1724 (vok_mX12_hardOf) sh_345 rfl rfl rfl rfl (Nat.le_of_ble_eq_true rfl) ?_
  refine x_CI.mono h (fun t1 a2 h => ?_)
  refine f_iast (k := 2) (by decide +kernel) sh_370 (by unfold vp_in; decide) (by decide) ?_
  refine f_name (fun t3 et3 => ?_)
  replace h := h t3 et3
  refine o_aload_n (k := 0) 0 (by decide +kernel) rfl ?_
  refine f_getR (r := 370) (t := 12) (k := 41) (i := 90) (by decide +kernel) sh_345 rfl (by decide) lk_1402 (by simp [x_ty, tyX12]) (gr_12_41 sh_345) ?_
  refine o_iconst (n := 1) (v := 1) (by decide +kernel) (by decide) ?_
  refine o_iload_n (k := 1) 1 (by decide +kernel) rfl ?_
  refine f_iast (k := 1) (by decide +kernel) sh_370 (by unfold vp_in; decide) (by decide) ?_
  refine f_name (fun t4 et4 => ?_)
  replace h := h t4 et4
  refine o_aload_n (k := 0) 0 (by decide +kernel) rfl ?_
  refine f_getR (r := 370) (t := 12) (k := 41) (i := 90) (by decide +kernel) sh_345 rfl (by decide) lk_1402 (by simp [x_ty, tyX12]) (gr_12_41 sh_345) ?_
  refine o_iconst (n := 3) (v := 3) (by decide +kernel) (by decide) ?_
  refine o_iload_n (k := 2) 2 (by decide +kernel) rfl ?_
  refine f_iast (k := 3) (by decide +kernel) sh_370 (by unfold vp_in; decide) (by decide) ?_
  refine f_name (fun t5 et5 => ?_)
  replace h := h t5 et5
  exact f_vret rfl (by decide +kernel) rfl h
set_option maxRecDepth 20000 in
theorem e_X12_lies {d : Nat} {K : x_T → Prop} {v1 : Int32} {τ : x_T} (h : ∀ t1, t1 = x_w1 τ 370 0 v1 → (∀ t2, t2 = x_w1 t1 370 2 0 → (∀ t3, t3 = x_w1 t2 370 1 (-1) → (∀ t4, t4 = x_w1 t3 370 3 (-1) → (K t4))))) : x_CV d mX12_lies [.ref 345, .int v1] τ K := by
  refine x_CV_of (by decide) (Nat.le_of_ble_eq_true rfl) ?_
  show x_WV d mX12_lies K 0 [(0, .ref 345), (1, .int v1)] [] τ
  refine o_aload_n (k := 0) 0 (by decide +kernel) rfl ?_
  refine f_getR (r := 370) (t := 12) (k := 41) (i := 90) (by decide +kernel) sh_345 rfl (by decide) lk_1402 (by simp [x_ty, tyX12]) (gr_12_41 sh_345) ?_
  refine o_iconst (n := 0) (v := 0) (by decide +kernel) (by decide) ?_
  refine o_iload_n (k := 1) 1 (by decide +kernel) rfl ?_
  refine f_iast (k := 0) (by decide +kernel) sh_370 (by unfold vp_in; decide) (by decide) ?_
  refine f_name (fun t1 et1 => ?_)
  replace h := h t1 et1
  refine o_aload_n (k := 0) 0 (by decide +kernel) rfl ?_
  refine f_getR (r := 370) (t := 12) (k := 41) (i := 90) (by decide +kernel) sh_345 rfl (by decide) lk_1402 (by simp [x_ty, tyX12]) (gr_12_41 sh_345) ?_
  refine o_iconst (n := 2) (v := 2) (by decide +kernel) (by decide) ?_
  refine o_iconst (n := 0) (v := 0) (by decide +kernel) (by decide) ?_
  refine f_iast (k := 2) (by decide +kernel) sh_370 (by unfold vp_in; decide) (by decide) ?_
  refine f_name (fun t2 et2 => ?_)
  replace h := h t2 et2
  refine o_aload_n (k := 0) 0 (by decide +kernel) rfl ?_
  refine f_getR (r := 370) (t := 12) (k := 41) (i := 90) (by decide +kernel) sh_345 rfl (by decide) lk_1402 (by simp [x_ty, tyX12]) (gr_12_41 sh_345) ?_
  refine o_iconst (n := 1) (v := 1) (by decide +kernel) (by decide) ?_
  refine o_iconst (n := -1) (v := (-1)) (by decide +kernel) (by decide) ?_
  refine f_iast (k := 1) (by decide +kernel) sh_370 (by unfold vp_in; decide) (by decide) ?_
  refine f_name (fun t3 et3 => ?_)
  replace h := h t3 et3
  refine o_aload_n (k := 0) 0 (by decide +kernel) rfl ?_
  refine f_getR (r := 370) (t := 12) (k := 41) (i := 90) (by decide +kernel) sh_345 rfl (by decide) lk_1402 (by simp [x_ty, tyX12]) (gr_12_41 sh_345) ?_
  refine o_iconst (n := 3) (v := 3) (by decide +kernel) (by decide) ?_
  refine o_iconst (n := -1) (v := (-1)) (by decide +kernel) (by decide) ?_
  refine f_iast (k := 3) (by decide +kernel) sh_370 (by unfold vp_in; decide) (by decide) ?_
  refine f_name (fun t4 et4 => ?_)
  replace h := h t4 et4
  exact f_vret rfl (by decide +kernel) rfl h
set_option maxRecDepth 20000 in
theorem e_X12_tips {d : Nat} {K : x_T → Prop}  {τ : x_T} (h : x_CV d mX12_lies [.ref 345, .int (τ.1 370 0)] τ (fun t1 => (5 ≤ t1.1 370 4 → x_WV (d + 1) mX12_tips K 37 [] [.int ((t1.1 370 4) - 5), .int 4, .ref 370] t1) ∧ (¬ 5 ≤ t1.1 370 4 → x_WV (d + 1) mX12_tips K 37 [] [.int 0, .int 4, .ref 370] t1))) : x_CV (d + 1) mX12_tips [.ref 345] τ K := by
  refine x_CV_of (by decide) (Nat.le_of_ble_eq_true rfl) ?_
  show x_WV (d + 1) mX12_tips K 0 [(0, .ref 345)] [] τ
  refine o_aload_n (k := 0) 0 (by decide +kernel) rfl ?_
  refine o_aload_n (k := 0) 0 (by decide +kernel) rfl ?_
  refine f_getR (r := 370) (t := 12) (k := 41) (i := 90) (by decide +kernel) sh_345 rfl (by decide) lk_1402 (by simp [x_ty, tyX12]) (gr_12_41 sh_345) ?_
  refine o_iconst (n := 0) (v := 0) (by decide +kernel) (by decide) ?_
  refine f_iald (k := 0) (by decide +kernel) sh_370 (by unfold vp_in; decide) (by decide) ?_
  refine f_callVV (μ' := mX12_lies) (i := 381) (vs := [.int (τ.1 370 0)]) (by decide +kernel) lk_1769 (vok_mX12_lies) sh_345 rfl rfl rfl rfl (Nat.le_of_ble_eq_true rfl) ?_
  refine x_CV.mono h (fun t1 h => ?_)
  refine o_aload_n (k := 0) 0 (by decide +kernel) rfl ?_
  refine f_getR (r := 370) (t := 12) (k := 41) (i := 90) (by decide +kernel) sh_345 rfl (by decide) lk_1402 (by simp [x_ty, tyX12]) (gr_12_41 sh_345) ?_
  refine o_iconst (n := 4) (v := 4) (by decide +kernel) (by decide) ?_
  refine o_aload_n (k := 0) 0 (by decide +kernel) rfl ?_
  refine f_getR (r := 370) (t := 12) (k := 41) (i := 90) (by decide +kernel) sh_345 rfl (by decide) lk_1402 (by simp [x_ty, tyX12]) (gr_12_41 sh_345) ?_
  refine o_iconst (n := 4) (v := 4) (by decide +kernel) (by decide) ?_
  refine f_iald (k := 4) (by decide +kernel) sh_370 (by unfold vp_in; decide) (by decide) ?_
  refine o_iconst (n := 5) (v := 5) (by decide +kernel) (by decide) ?_
  refine o_icmp_ge (off := 7) 29 (by decide +kernel) (by decide) (fun q => ?_) (fun q => ?_)
  · replace h := h.1 q
    refine o_aload_n (k := 0) 0 (by decide +kernel) rfl ?_
    refine f_getR (r := 370) (t := 12) (k := 41) (i := 90) (by decide +kernel) sh_345 rfl (by decide) lk_1402 (by simp [x_ty, tyX12]) (gr_12_41 sh_345) ?_
    refine o_iconst (n := 4) (v := 4) (by decide +kernel) (by decide) ?_
    refine f_iald (k := 4) (by decide +kernel) sh_370 (by unfold vp_in; decide) (by decide) ?_
    refine o_iconst (n := 5) (v := 5) (by decide +kernel) (by decide) ?_
    refine o_isub (by decide +kernel) ?_
    refine o_sub [] rfl ?_
    exact h
  · replace h := h.2 q
    refine o_iconst (n := 0) (v := 0) (by decide +kernel) (by decide) ?_
    refine o_goto (off := 11) 37 (by decide +kernel) (by decide) ?_
    refine o_sub [] rfl ?_
    exact h
set_option maxRecDepth 20000 in
theorem k_X12_tips_37 {d : Nat} {K : x_T → Prop} {s0 : Int32} {s1 : Int32} {τ : x_T} (h : vp_in s1 114 ∧ (∀ t1, t1 = x_w1 τ 370 s1.toNatClampNeg s0 → (K t1))) : x_WV (d + 1) mX12_tips K 37 [] [.int s0, .int s1, .ref 370] τ := by
  obtain ⟨hi, h⟩ := h
  refine f_iast (by decide +kernel) sh_370 hi rfl ?_
  refine f_name (fun t1 et1 => ?_)
  replace h := h t1 et1
  exact f_vret rfl (by decide +kernel) rfl h
set_option maxRecDepth 20000 in
theorem e_X12_rolls {d : Nat} {K : x_T → Prop}  {τ : x_T} (h : vp_in (18 + (τ.1 370 3)) 3670 ∧ (∀ y1, y1 = (τ.1 370 2) - (τ.1 346 (18 + (τ.1 370 3)).toNatClampNeg) → ((0 ≤ y1 → x_WV (d + 1) mX12_rolls K 36 [(0, .ref 345)] [.int y1, .int 2, .ref 370] τ) ∧ (¬ 0 ≤ y1 → x_WV (d + 1) mX12_rolls K 36 [(0, .ref 345)] [.int 0, .int 2, .ref 370] τ)))) : x_CV (d + 1) mX12_rolls [.ref 345] τ K := by
  refine x_CV_of (by decide) (Nat.le_of_ble_eq_true rfl) ?_
  show x_WV (d + 1) mX12_rolls K 0 [(0, .ref 345)] [] τ
  refine o_aload_n (k := 0) 0 (by decide +kernel) rfl ?_
  refine f_getR (r := 370) (t := 12) (k := 41) (i := 90) (by decide +kernel) sh_345 rfl (by decide) lk_1402 (by simp [x_ty, tyX12]) (gr_12_41 sh_345) ?_
  refine o_iconst (n := 2) (v := 2) (by decide +kernel) (by decide) ?_
  refine f_iald (k := 2) (by decide +kernel) sh_370 (by unfold vp_in; decide) (by decide) ?_
  refine o_aload_n (k := 0) 0 (by decide +kernel) rfl ?_
  refine f_getR (r := 346) (t := 12) (k := 0) (i := 7) (by decide +kernel) sh_345 rfl (by decide) lk_1361 (by simp [x_ty, tyX12]) (gr_12_0 sh_345) ?_
  refine o_bipush (n := 18) (v := 18) (by decide +kernel) (by decide) ?_
  refine o_aload_n (k := 0) 0 (by decide +kernel) rfl ?_
  refine f_getR (r := 370) (t := 12) (k := 41) (i := 90) (by decide +kernel) sh_345 rfl (by decide) lk_1402 (by simp [x_ty, tyX12]) (gr_12_41 sh_345) ?_
  refine o_iconst (n := 3) (v := 3) (by decide +kernel) (by decide) ?_
  refine f_iald (k := 3) (by decide +kernel) sh_370 (by unfold vp_in; decide) (by decide) ?_
  refine o_iadd (by decide +kernel) ?_
  obtain ⟨hi, h⟩ := h
  refine f_iald (by decide +kernel) sh_346 hi rfl ?_
  refine o_isub (by decide +kernel) ?_
  refine o_name (fun y1 ey1 => ?_)
  replace h := h y1 ey1
  refine o_istore_n (k := 1) (L' := [(1, .int y1), (0, .ref 345)]) (by decide +kernel) (by decide) rfl ?_
  refine o_aload_n (k := 0) 1 (by decide +kernel) rfl ?_
  refine f_getR (r := 370) (t := 12) (k := 41) (i := 90) (by decide +kernel) sh_345 rfl (by decide) lk_1402 (by simp [x_ty, tyX12]) (gr_12_41 sh_345) ?_
  refine o_iconst (n := 2) (v := 2) (by decide +kernel) (by decide) ?_
  refine o_iload_n (k := 1) 0 (by decide +kernel) rfl ?_
  refine o_if_ge (off := 7) 35 (by decide +kernel) (by decide) (fun q => ?_) (fun q => ?_)
  · replace h := h.1 q
    refine o_iload_n (k := 1) 0 (by decide +kernel) rfl ?_
    refine o_sub [1] rfl ?_
    exact h
  · replace h := h.2 q
    refine o_iconst (n := 0) (v := 0) (by decide +kernel) (by decide) ?_
    refine o_goto (off := 4) 36 (by decide +kernel) (by decide) ?_
    refine o_sub [1] rfl ?_
    exact h
set_option maxRecDepth 20000 in
theorem k_X12_rolls_36 {d : Nat} {K : x_T → Prop} {s0 : Int32} {s1 : Int32} {τ : x_T} (h : vp_in s1 114 ∧ (∀ t1, t1 = x_w1 τ 370 s1.toNatClampNeg s0 → (x_CI d mX12_wearsNow [.ref 345] t1 (fun t2 a3 => ∀ y4, y4 = (t1.1 370 4) - a3 → ((0 ≤ y4 → x_WV (d + 1) mX12_rolls K 63 [(0, .ref 345)] [.int y4, .int 4, .ref 370] t2) ∧ (¬ 0 ≤ y4 → x_WV (d + 1) mX12_rolls K 63 [(0, .ref 345)] [.int 0, .int 4, .ref 370] t2)))))) : x_WV (d + 1) mX12_rolls K 36 [(0, .ref 345)] [.int s0, .int s1, .ref 370] τ := by
  obtain ⟨hi, h⟩ := h
  refine f_iast (by decide +kernel) sh_370 hi rfl ?_
  refine f_name (fun t1 et1 => ?_)
  replace h := h t1 et1
  refine o_aload_n (k := 0) 0 (by decide +kernel) rfl ?_
  refine f_getR (r := 370) (t := 12) (k := 41) (i := 90) (by decide +kernel) sh_345 rfl (by decide) lk_1402 (by simp [x_ty, tyX12]) (gr_12_41 sh_345) ?_
  refine o_iconst (n := 4) (v := 4) (by decide +kernel) (by decide) ?_
  refine f_iald (k := 4) (by decide +kernel) sh_370 (by unfold vp_in; decide) (by decide) ?_
  refine o_aload_n (k := 0) 0 (by decide +kernel) rfl ?_
  refine f_callVI (μ' := mX12_wearsNow) (i := 384) (vs := []) (by decide +kernel) lk_1789 (vok_mX12_wearsNow) sh_345 rfl rfl rfl rfl (Nat.le_of_ble_eq_true rfl) ?_
  refine x_CI.mono h (fun t2 a3 h => ?_)
  refine o_isub (by decide +kernel) ?_
  refine o_name (fun y4 ey4 => ?_)
  replace h := h y4 ey4
  refine o_istore_n (k := 2) (L' := [(2, .int y4), (0, .ref 345)]) (by decide +kernel) (by decide) rfl ?_
  refine o_aload_n (k := 0) 1 (by decide +kernel) rfl ?_
  refine f_getR (r := 370) (t := 12) (k := 41) (i := 90) (by decide +kernel) sh_345 rfl (by decide) lk_1402 (by simp [x_ty, tyX12]) (gr_12_41 sh_345) ?_
  refine o_iconst (n := 4) (v := 4) (by decide +kernel) (by decide) ?_
  refine o_iload_n (k := 2) 0 (by decide +kernel) rfl ?_
  refine o_if_ge (off := 7) 62 (by decide +kernel) (by decide) (fun q => ?_) (fun q => ?_)
  · replace h := h.1 q
    refine o_iload_n (k := 2) 0 (by decide +kernel) rfl ?_
    refine o_sub [1] rfl ?_
    exact h
  · replace h := h.2 q
    refine o_iconst (n := 0) (v := 0) (by decide +kernel) (by decide) ?_
    refine o_goto (off := 4) 63 (by decide +kernel) (by decide) ?_
    refine o_sub [1] rfl ?_
    exact h
set_option maxRecDepth 20000 in
theorem k_X12_rolls_63 {d : Nat} {K : x_T → Prop} {s0 : Int32} {s1 : Int32} {τ : x_T} (h : vp_in s1 114 ∧ (∀ t1, t1 = x_w1 τ 370 s1.toNatClampNeg s0 → ((¬ t1.1 370 2 = 0 → (¬ t1.1 370 4 = 0 → K t1) ∧ (t1.1 370 4 = 0 → (t1.1 370 2 ≤ 9994 → x_WV (d + 1) mX12_rolls K 126 [] [.int ((t1.1 370 2) + 5), .int 2, .ref 370] t1) ∧ (¬ t1.1 370 2 ≤ 9994 → x_WV (d + 1) mX12_rolls K 126 [] [.int 9999, .int 2, .ref 370] t1))) ∧ (t1.1 370 2 = 0 → x_CV d mX12_lies [.ref 345, .int (t1.1 370 1)] t1 (fun t2 => K t2))))) : x_WV (d + 1) mX12_rolls K 63 [(0, .ref 345)] [.int s0, .int s1, .ref 370] τ := by
  obtain ⟨hi, h⟩ := h
  refine f_iast (by decide +kernel) sh_370 hi rfl ?_
  refine f_name (fun t1 et1 => ?_)
  replace h := h t1 et1
  refine o_aload_n (k := 0) 0 (by decide +kernel) rfl ?_
  refine f_getR (r := 370) (t := 12) (k := 41) (i := 90) (by decide +kernel) sh_345 rfl (by decide) lk_1402 (by simp [x_ty, tyX12]) (gr_12_41 sh_345) ?_
  refine o_iconst (n := 2) (v := 2) (by decide +kernel) (by decide) ?_
  refine f_iald (k := 2) (by decide +kernel) sh_370 (by unfold vp_in; decide) (by decide) ?_
  refine o_if_ne (off := 16) 86 (by decide +kernel) (by decide) (fun q => ?_) (fun q => ?_)
  · replace h := h.1 q
    refine o_aload_n (k := 0) 0 (by decide +kernel) rfl ?_
    refine f_getR (r := 370) (t := 12) (k := 41) (i := 90) (by decide +kernel) sh_345 rfl (by decide) lk_1402 (by simp [x_ty, tyX12]) (gr_12_41 sh_345) ?_
    refine o_iconst (n := 4) (v := 4) (by decide +kernel) (by decide) ?_
    refine f_iald (k := 4) (by decide +kernel) sh_370 (by unfold vp_in; decide) (by decide) ?_
    refine o_if_ne (off := 35) 127 (by decide +kernel) (by decide) (fun q => ?_) (fun q => ?_)
    · replace h := h.1 q
      exact f_vret rfl (by decide +kernel) rfl h
    · replace h := h.2 q
      refine o_aload_n (k := 0) 0 (by decide +kernel) rfl ?_
      refine f_getR (r := 370) (t := 12) (k := 41) (i := 90) (by decide +kernel) sh_345 rfl (by decide) lk_1402 (by simp [x_ty, tyX12]) (gr_12_41 sh_345) ?_
      refine o_iconst (n := 2) (v := 2) (by decide +kernel) (by decide) ?_
      refine o_aload_n (k := 0) 0 (by decide +kernel) rfl ?_
      refine f_getR (r := 370) (t := 12) (k := 41) (i := 90) (by decide +kernel) sh_345 rfl (by decide) lk_1402 (by simp [x_ty, tyX12]) (gr_12_41 sh_345) ?_
      refine o_iconst (n := 2) (v := 2) (by decide +kernel) (by decide) ?_
      refine f_iald (k := 2) (by decide +kernel) sh_370 (by unfold vp_in; decide) (by decide) ?_
      refine o_sipush (n := 9994) (v := 9994) (by decide +kernel) (by decide) ?_
      refine o_icmp_le (off := 9) 118 (by decide +kernel) (by decide) (fun q => ?_) (fun q => ?_)
      · replace h := h.1 q
        refine o_aload_n (k := 0) 0 (by decide +kernel) rfl ?_
        refine f_getR (r := 370) (t := 12) (k := 41) (i := 90) (by decide +kernel) sh_345 rfl (by decide) lk_1402 (by simp [x_ty, tyX12]) (gr_12_41 sh_345) ?_
        refine o_iconst (n := 2) (v := 2) (by decide +kernel) (by decide) ?_
        refine f_iald (k := 2) (by decide +kernel) sh_370 (by unfold vp_in; decide) (by decide) ?_
        refine o_iconst (n := 5) (v := 5) (by decide +kernel) (by decide) ?_
        refine o_iadd (by decide +kernel) ?_
        refine o_sub [] rfl ?_
        exact h
      · replace h := h.2 q
        refine o_sipush (n := 9999) (v := 9999) (by decide +kernel) (by decide) ?_
        refine o_goto (off := 11) 126 (by decide +kernel) (by decide) ?_
        refine o_sub [] rfl ?_
        exact h
  · replace h := h.2 q
    refine o_aload_n (k := 0) 0 (by decide +kernel) rfl ?_
    refine o_aload_n (k := 0) 0 (by decide +kernel) rfl ?_
    refine f_getR (r := 370) (t := 12) (k := 41) (i := 90) (by decide +kernel) sh_345 rfl (by decide) lk_1402 (by simp [x_ty, tyX12]) (gr_12_41 sh_345) ?_
    refine o_iconst (n := 1) (v := 1) (by decide +kernel) (by decide) ?_
    refine f_iald (k := 1) (by decide +kernel) sh_370 (by unfold vp_in; decide) (by decide) ?_
    refine f_callVV (μ' := mX12_lies) (i := 381) (vs := [.int (t1.1 370 1)]) (by decide +kernel) lk_1769 (vok_mX12_lies) sh_345 rfl rfl rfl rfl (Nat.le_of_ble_eq_true rfl) ?_
    refine x_CV.mono h (fun t2 h => ?_)
    refine o_goto (off := 44) 127 (by decide +kernel) (by decide) ?_
    exact f_vret rfl (by decide +kernel) rfl h
set_option maxRecDepth 20000 in
theorem k_X12_rolls_126 {d : Nat} {K : x_T → Prop} {s0 : Int32} {s1 : Int32} {τ : x_T} (h : vp_in s1 114 ∧ (∀ t1, t1 = x_w1 τ 370 s1.toNatClampNeg s0 → (K t1))) : x_WV (d + 1) mX12_rolls K 126 [] [.int s0, .int s1, .ref 370] τ := by
  obtain ⟨hi, h⟩ := h
  refine f_iast (by decide +kernel) sh_370 hi rfl ?_
  refine f_name (fun t1 et1 => ?_)
  replace h := h t1 et1
  exact f_vret rfl (by decide +kernel) rfl h
