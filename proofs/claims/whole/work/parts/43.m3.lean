set_option maxRecDepth 20000 in
theorem e_X12_clause {d : Nat} {K : x_T → Prop}  {τ : x_T} (h : (¬ τ.1 345 17 = 1 → x_WV (d + 1) mX12_clause K 17 [(0, .ref 345)] [] τ) ∧ (τ.1 345 17 = 1 → (τ.1 345 18 ≤ 10 → ∀ t1, t1 = x_w1 τ 345 31 (τ.1 345 18) → ((3 < t1.1 345 31 → x_WV (d + 1) mX12_clause K 58 [(0, .ref 345)] [] t1) ∧ (¬ 3 < t1.1 345 31 → x_CI d mX12_wasTold [.ref 345, .int (t1.1 345 31)] t1 (fun t2 a3 => (a3 = 0 → x_WV (d + 1) mX12_clause K 58 [(0, .ref 345)] [] t2) ∧ (¬ a3 = 0 → x_CV d mX12_errs [.ref 345, .int 4] t2 (fun t4 => x_WV (d + 1) mX12_clause K 73 [(0, .ref 345)] [] t4)))))) ∧ (¬ τ.1 345 18 ≤ 10 → x_WV (d + 1) mX12_clause K 17 [(0, .ref 345)] [] τ))) : x_CV (d + 1) mX12_clause [.ref 345] τ K := by
  refine x_CV_of (by decide) (Nat.le_of_ble_eq_true rfl) ?_
  show x_WV (d + 1) mX12_clause K 0 [(0, .ref 345)] [] τ
  refine o_aload_n (k := 0) 0 (by decide +kernel) rfl ?_
  refine f_getI (t := 12) (k := 17) (i := 201) (by decide +kernel) sh_345 rfl (by decide) lk_1378 rfl ?_
  refine o_iconst (n := 1) (v := 1) (by decide +kernel) (by decide) ?_
  refine o_icmp_ne (off := 12) 17 (by decide +kernel) (by decide) (fun q => ?_) (fun q => ?_)
  · replace h := h.1 q
    exact h
  · replace h := h.2 q
    refine o_aload_n (k := 0) 0 (by decide +kernel) rfl ?_
    refine f_getI (t := 12) (k := 18) (i := 213) (by decide +kernel) sh_345 rfl (by decide) lk_1379 rfl ?_
    refine o_bipush (n := 10) (v := 10) (by decide +kernel) (by decide) ?_
    refine o_icmp_le (off := 9) 23 (by decide +kernel) (by decide) (fun q => ?_) (fun q => ?_)
    · replace h := h.1 q
      refine o_aload_n (k := 0) 0 (by decide +kernel) rfl ?_
      refine o_aload_n (k := 0) 0 (by decide +kernel) rfl ?_
      refine f_getI (t := 12) (k := 18) (i := 213) (by decide +kernel) sh_345 rfl (by decide) lk_1379 rfl ?_
      refine f_putI (t := 12) (k := 31) (i := 271) (by decide +kernel) sh_345 rfl (by decide) lk_1392 rfl rfl ?_
      refine f_name (fun t1 et1 => ?_)
      replace h := h t1 et1
      refine o_aload_n (k := 0) 0 (by decide +kernel) rfl ?_
      refine f_getI (t := 12) (k := 31) (i := 271) (by decide +kernel) sh_345 rfl (by decide) lk_1392 rfl ?_
      refine o_iconst (n := 3) (v := 3) (by decide +kernel) (by decide) ?_
      refine o_icmp_gt (off := 22) 58 (by decide +kernel) (by decide) (fun q => ?_) (fun q => ?_)
      · replace h := h.1 q
        exact h
      · replace h := h.2 q
        refine o_aload_n (k := 0) 0 (by decide +kernel) rfl ?_
        refine o_aload_n (k := 0) 0 (by decide +kernel) rfl ?_
        refine f_getI (t := 12) (k := 31) (i := 271) (by decide +kernel) sh_345 rfl (by decide) lk_1392 rfl ?_
        refine f_callVI (μ' := mX12_wasTold) (i := 313) (vs := [.int (t1.1 345 31)]) (by decide +kernel) lk_1676 (vok_mX12_wasTold) sh_345 rfl rfl rfl rfl (Nat.le_of_ble_eq_true rfl) ?_
        refine x_CI.mono h (fun t2 a3 h => ?_)
        refine o_if_eq (off := 11) 58 (by decide +kernel) (by decide) (fun q => ?_) (fun q => ?_)
        · replace h := h.1 q
          exact h
        · replace h := h.2 q
          refine o_aload_n (k := 0) 0 (by decide +kernel) rfl ?_
          refine o_iconst (n := 4) (v := 4) (by decide +kernel) (by decide) ?_
          refine f_callVV (μ' := mX12_errs) (i := 232) (vs := [.int 4]) (by decide +kernel) lk_1599 (vok_mX12_errs) sh_345 rfl rfl rfl rfl (Nat.le_of_ble_eq_true rfl) ?_
          refine x_CV.mono h (fun t4 h => ?_)
          refine o_goto (off := 18) 73 (by decide +kernel) (by decide) ?_
          exact h
    · replace h := h.2 q
      exact h
set_option maxRecDepth 20000 in
theorem k_X12_clause_17 {d : Nat} {K : x_T → Prop}  {τ : x_T} (h : x_CV d mX12_errs [.ref 345, .int 1] τ (fun t1 => K t1)) : x_WV (d + 1) mX12_clause K 17 [(0, .ref 345)] [] τ := by
  refine o_aload_n (k := 0) 0 (by decide +kernel) rfl ?_
  refine o_iconst (n := 1) (v := 1) (by decide +kernel) (by decide) ?_
  refine f_callVV (μ' := mX12_errs) (i := 232) (vs := [.int 1]) (by decide +kernel) lk_1599 (vok_mX12_errs) sh_345 rfl rfl rfl rfl (Nat.le_of_ble_eq_true rfl) ?_
  refine x_CV.mono h (fun t1 h => ?_)
  exact f_vret rfl (by decide +kernel) rfl h
set_option maxRecDepth 20000 in
theorem k_X12_clause_58 {d : Nat} {K : x_T → Prop}  {τ : x_T} (h : (¬ τ.1 345 30 = 24 → x_WV (d + 1) mX12_clause K 73 [(0, .ref 345)] [] τ) ∧ (τ.1 345 30 = 24 → x_CV d mX12_errs [.ref 345, .int 6] τ (fun t1 => x_WV (d + 1) mX12_clause K 73 [(0, .ref 345)] [] t1))) : x_WV (d + 1) mX12_clause K 58 [(0, .ref 345)] [] τ := by
  refine o_aload_n (k := 0) 0 (by decide +kernel) rfl ?_
  refine f_getI (t := 12) (k := 30) (i := 302) (by decide +kernel) sh_345 rfl (by decide) lk_1391 rfl ?_
  refine o_bipush (n := 24) (v := 24) (by decide +kernel) (by decide) ?_
  refine o_icmp_ne (off := 9) 73 (by decide +kernel) (by decide) (fun q => ?_) (fun q => ?_)
  · replace h := h.1 q
    exact h
  · replace h := h.2 q
    refine o_aload_n (k := 0) 0 (by decide +kernel) rfl ?_
    refine o_bipush (n := 6) (v := 6) (by decide +kernel) (by decide) ?_
    refine f_callVV (μ' := mX12_errs) (i := 232) (vs := [.int 6]) (by decide +kernel) lk_1599 (vok_mX12_errs) sh_345 rfl rfl rfl rfl (Nat.le_of_ble_eq_true rfl) ?_
    refine x_CV.mono h (fun t1 h => ?_)
    exact h
set_option maxRecDepth 20000 in
theorem k_X12_clause_73 {d : Nat} {K : x_T → Prop}  {τ : x_T} (h : (τ.1 345 19 ≤ 0 → vp_in (τ.1 345 30) 24 ∧ (∀ t1, t1 = x_w1 τ 362 ((τ.1 345 30).toNatClampNeg) (τ.1 345 31) → (vp_in (t1.1 345 30) 24 ∧ (∀ t2, t2 = x_w1 t1 363 ((t1.1 345 30).toNatClampNeg) (t1.1 345 37) → (x_CV d mX12_next [.ref 345] t2 (fun t3 => (3 < t3.1 345 31 → x_CV d mX12_doing [.ref 345] t3 (fun t5 => (¬ t5.1 345 19 = 0 → x_WV (d + 1) mX12_clause K 155 [(0, .ref 345)] [] t5) ∧ (t5.1 345 19 = 0 → x_CI d mX12_isSign [.ref 345, .int 59] t5 (fun t7 a8 => (¬ a8 = 0 → x_WV (d + 1) mX12_clause K 155 [(0, .ref 345)] [] t7) ∧ (a8 = 0 → x_CV d mX12_errs [.ref 345, .int 1] t7 (fun t9 => x_WV (d + 1) mX12_clause K 155 [(0, .ref 345)] [] t9)))))) ∧ (¬ 3 < t3.1 345 31 → x_CV d mX12_opensFrame [.ref 345, .int 1] t3 (fun t11 => ∀ t13, t13 = x_w1 t11 345 28 1 → (K t13))))))))) ∧ (¬ τ.1 345 19 ≤ 0 → K τ)) : x_WV (d + 1) mX12_clause K 73 [(0, .ref 345)] [] τ := by
  refine o_aload_n (k := 0) 0 (by decide +kernel) rfl ?_
  refine f_getI (t := 12) (k := 19) (i := 217) (by decide +kernel) sh_345 rfl (by decide) lk_1380 rfl ?_
  refine o_if_le (off := 4) 81 (by decide +kernel) (by decide) (fun q => ?_) (fun q => ?_)
  · replace h := h.1 q
    refine o_aload_n (k := 0) 0 (by decide +kernel) rfl ?_
    refine f_getR (r := 362) (t := 12) (k := 32) (i := 66) (by decide +kernel) sh_345 rfl (by decide) lk_1393 (by simp [x_ty, tyX12]) (gr_12_32 sh_345) ?_
    refine o_aload_n (k := 0) 0 (by decide +kernel) rfl ?_
    refine f_getI (t := 12) (k := 30) (i := 302) (by decide +kernel) sh_345 rfl (by decide) lk_1391 rfl ?_
    refine o_aload_n (k := 0) 0 (by decide +kernel) rfl ?_
    refine f_getI (t := 12) (k := 31) (i := 271) (by decide +kernel) sh_345 rfl (by decide) lk_1392 rfl ?_
    obtain ⟨hi, h⟩ := h
    refine f_iast (by decide +kernel) sh_362 hi rfl ?_
    refine f_name (fun t1 et1 => ?_)
    replace h := h t1 et1
    refine o_aload_n (k := 0) 0 (by decide +kernel) rfl ?_
    refine f_getR (r := 363) (t := 12) (k := 33) (i := 69) (by decide +kernel) sh_345 rfl (by decide) lk_1394 (by simp [x_ty, tyX12]) (gr_12_33 sh_345) ?_
    refine o_aload_n (k := 0) 0 (by decide +kernel) rfl ?_
    refine f_getI (t := 12) (k := 30) (i := 302) (by decide +kernel) sh_345 rfl (by decide) lk_1391 rfl ?_
    refine o_aload_n (k := 0) 0 (by decide +kernel) rfl ?_
    refine f_getI (t := 12) (k := 37) (i := 223) (by decide +kernel) sh_345 rfl (by decide) lk_1398 rfl ?_
    obtain ⟨hi, h⟩ := h
    refine f_iast (by decide +kernel) sh_363 hi rfl ?_
    refine f_name (fun t2 et2 => ?_)
    replace h := h t2 et2
    refine o_aload_n (k := 0) 0 (by decide +kernel) rfl ?_
    refine f_callVV (μ' := mX12_next) (i := 238) (vs := []) (by decide +kernel) lk_1543 (vok_mX12_next) sh_345 rfl rfl rfl rfl (Nat.le_of_ble_eq_true rfl) ?_
    refine x_CV.mono h (fun t3 h => ?_)
    refine o_aload_n (k := 0) 0 (by decide +kernel) rfl ?_
    refine f_getI (t := 12) (k := 31) (i := 271) (by decide +kernel) sh_345 rfl (by decide) lk_1392 rfl ?_
    refine o_iconst (n := 3) (v := 3) (by decide +kernel) (by decide) ?_
    refine o_icmp_gt (off := 14) 130 (by decide +kernel) (by decide) (fun q => ?_) (fun q => ?_)
    · replace h := h.1 q
      refine o_aload_n (k := 0) 0 (by decide +kernel) rfl ?_
      refine f_callVV (μ' := mX12_doing) (i := 316) (vs := []) (by decide +kernel) lk_1680 (vok_mX12_doing) sh_345 rfl rfl rfl rfl (Nat.le_of_ble_eq_true rfl) ?_
      refine x_CV.mono h (fun t5 h => ?_)
      refine o_aload_n (k := 0) 0 (by decide +kernel) rfl ?_
      refine f_getI (t := 12) (k := 19) (i := 217) (by decide +kernel) sh_345 rfl (by decide) lk_1380 rfl ?_
      refine o_if_ne (off := 17) 155 (by decide +kernel) (by decide) (fun q => ?_) (fun q => ?_)
      · replace h := h.1 q
        exact h
      · replace h := h.2 q
        refine o_aload_n (k := 0) 0 (by decide +kernel) rfl ?_
        refine o_bipush (n := 59) (v := 59) (by decide +kernel) (by decide) ?_
        refine f_callVI (μ' := mX12_isSign) (i := 278) (vs := [.int 59]) (by decide +kernel) lk_1634 (vok_mX12_isSign) sh_345 rfl rfl rfl rfl (Nat.le_of_ble_eq_true rfl) ?_
        refine x_CI.mono h (fun t7 a8 h => ?_)
        refine o_if_ne (off := 8) 155 (by decide +kernel) (by decide) (fun q => ?_) (fun q => ?_)
        · replace h := h.1 q
          exact h
        · replace h := h.2 q
          refine o_aload_n (k := 0) 0 (by decide +kernel) rfl ?_
          refine o_iconst (n := 1) (v := 1) (by decide +kernel) (by decide) ?_
          refine f_callVV (μ' := mX12_errs) (i := 232) (vs := [.int 1]) (by decide +kernel) lk_1599 (vok_mX12_errs) sh_345 rfl rfl rfl rfl (Nat.le_of_ble_eq_true rfl) ?_
          refine x_CV.mono h (fun t9 h => ?_)
          exact h
    · replace h := h.2 q
      refine o_aload_n (k := 0) 0 (by decide +kernel) rfl ?_
      refine o_iconst (n := 1) (v := 1) (by decide +kernel) (by decide) ?_
      refine f_callVV (μ' := mX12_opensFrame) (i := 235) (vs := [.int 1]) (by decide +kernel) lk_1603 (vok_mX12_opensFrame) sh_345 rfl rfl rfl rfl (Nat.le_of_ble_eq_true rfl) ?_
      refine x_CV.mono h (fun t11 h => ?_)
      refine o_aload_n (k := 0) 0 (by decide +kernel) rfl ?_
      refine o_iconst (n := 1) (v := 1) (by decide +kernel) (by decide) ?_
      refine f_putI (t := 12) (k := 28) (i := 261) (by decide +kernel) sh_345 rfl (by decide) lk_1389 rfl rfl ?_
      refine f_name (fun t13 et13 => ?_)
      replace h := h t13 et13
      exact f_vret rfl (by decide +kernel) rfl h
  · replace h := h.2 q
    exact f_vret rfl (by decide +kernel) rfl h
set_option maxRecDepth 20000 in
theorem k_X12_clause_155 {d : Nat} {K : x_T → Prop}  {τ : x_T} (h : (¬ τ.1 345 19 = 0 → K τ) ∧ (τ.1 345 19 = 0 → x_CV d mX12_clauseIsOver [.ref 345] τ (fun t1 => K t1))) : x_WV (d + 1) mX12_clause K 155 [(0, .ref 345)] [] τ := by
  refine o_aload_n (k := 0) 0 (by decide +kernel) rfl ?_
  refine f_getI (t := 12) (k := 19) (i := 217) (by decide +kernel) sh_345 rfl (by decide) lk_1380 rfl ?_
  refine o_if_ne (off := 7) 166 (by decide +kernel) (by decide) (fun q => ?_) (fun q => ?_)
  · replace h := h.1 q
    exact f_vret rfl (by decide +kernel) rfl h
  · replace h := h.2 q
    refine o_aload_n (k := 0) 0 (by decide +kernel) rfl ?_
    refine f_callVV (μ' := mX12_clauseIsOver) (i := 299) (vs := []) (by decide +kernel) lk_1664 (vok_mX12_clauseIsOver) sh_345 rfl rfl rfl rfl (Nat.le_of_ble_eq_true rfl) ?_
    refine x_CV.mono h (fun t1 h => ?_)
    exact f_vret rfl (by decide +kernel) rfl h
theorem d_X12_text_100 : decode mX12_text.2.1 100 = .ok (.tableswitch (60) (0) (3) #[(32), (39), (46), (53)], 32) := by decide +kernel
set_option maxRecDepth 20000 in
theorem e_X12_text {d : Nat} {K : x_T → Int32 → Prop}  {τ : x_T} (h : (¬ τ.1 346 2 = 4 → ∀ t1, t1 = x_w1 τ 345 14 (τ.1 345 3) → (∀ t2, t2 = x_w1 t1 345 3 0 → (∀ t3, t3 = x_w1 t2 345 15 0 → (∀ t4, t4 = x_w1 t3 345 19 0 → (∀ t5, t5 = x_w1 t4 345 20 (-1) → (∀ t6, t6 = x_w1 t5 345 21 0 → (∀ t7, t7 = x_w1 t6 345 22 0 → (∀ t8, t8 = x_w1 t7 345 25 0 → (∀ t9, t9 = x_w1 t8 345 28 4 → (∀ t10, t10 = x_w1 t9 345 30 0 → (∀ t11, t11 = x_w1 t10 345 37 0 → (x_CV d mX12_next [.ref 345] t11 (fun t12 => x_WI (d + 1) mX12_text K 74 [(0, .ref 345)] [] t12))))))))))))) ∧ (τ.1 346 2 = 4 → K τ (-1))) : x_CI (d + 1) mX12_text [.ref 345] τ K := by
  refine x_CI_of (by decide) (Nat.le_of_ble_eq_true rfl) ?_
  show x_WI (d + 1) mX12_text K 0 [(0, .ref 345)] [] τ
  refine o_aload_n (k := 0) 0 (by decide +kernel) rfl ?_
  refine f_getR (r := 346) (t := 12) (k := 0) (i := 7) (by decide +kernel) sh_345 rfl (by decide) lk_1361 (by simp [x_ty, tyX12]) (gr_12_0 sh_345) ?_
  refine o_iconst (n := 2) (v := 2) (by decide +kernel) (by decide) ?_
  refine f_iald (k := 2) (by decide +kernel) sh_346 (by unfold vp_in; decide) (by decide) ?_
  refine o_iconst (n := 4) (v := 4) (by decide +kernel) (by decide) ?_
  refine o_icmp_ne (off := 5) 12 (by decide +kernel) (by decide) (fun q => ?_) (fun q => ?_)
  · replace h := h.1 q
    refine o_aload_n (k := 0) 0 (by decide +kernel) rfl ?_
    refine o_aload_n (k := 0) 0 (by decide +kernel) rfl ?_
    refine f_getI (t := 12) (k := 3) (i := 121) (by decide +kernel) sh_345 rfl (by decide) lk_1364 rfl ?_
    refine f_putI (t := 12) (k := 14) (i := 195) (by decide +kernel) sh_345 rfl (by decide) lk_1375 rfl rfl ?_
    refine f_name (fun t1 et1 => ?_)
    replace h := h t1 et1
    refine o_aload_n (k := 0) 0 (by decide +kernel) rfl ?_
    refine o_iconst (n := 0) (v := 0) (by decide +kernel) (by decide) ?_
    refine f_putI (t := 12) (k := 3) (i := 121) (by decide +kernel) sh_345 rfl (by decide) lk_1364 rfl rfl ?_
    refine f_name (fun t2 et2 => ?_)
    replace h := h t2 et2
    refine o_aload_n (k := 0) 0 (by decide +kernel) rfl ?_
    refine o_iconst (n := 0) (v := 0) (by decide +kernel) (by decide) ?_
    refine f_putI (t := 12) (k := 15) (i := 192) (by decide +kernel) sh_345 rfl (by decide) lk_1376 rfl rfl ?_
    refine f_name (fun t3 et3 => ?_)
    replace h := h t3 et3
    refine o_aload_n (k := 0) 0 (by decide +kernel) rfl ?_
    refine o_iconst (n := 0) (v := 0) (by decide +kernel) (by decide) ?_
    refine f_putI (t := 12) (k := 19) (i := 217) (by decide +kernel) sh_345 rfl (by decide) lk_1380 rfl rfl ?_
    refine f_name (fun t4 et4 => ?_)
    replace h := h t4 et4
    refine o_aload_n (k := 0) 0 (by decide +kernel) rfl ?_
    refine o_iconst (n := -1) (v := (-1)) (by decide +kernel) (by decide) ?_
    refine f_putI (t := 12) (k := 20) (i := 220) (by decide +kernel) sh_345 rfl (by decide) lk_1381 rfl rfl ?_
    refine f_name (fun t5 et5 => ?_)
    replace h := h t5 et5
    refine o_aload_n (k := 0) 0 (by decide +kernel) rfl ?_
    refine o_iconst (n := 0) (v := 0) (by decide +kernel) (by decide) ?_
    refine f_putI (t := 12) (k := 21) (i := 229) (by decide +kernel) sh_345 rfl (by decide) lk_1382 rfl rfl ?_
    refine f_name (fun t6 et6 => ?_)
    replace h := h t6 et6
    refine o_aload_n (k := 0) 0 (by decide +kernel) rfl ?_
    refine o_iconst (n := 0) (v := 0) (by decide +kernel) (by decide) ?_
    refine f_putI (t := 12) (k := 22) (i := 226) (by decide +kernel) sh_345 rfl (by decide) lk_1383 rfl rfl ?_
    refine f_name (fun t7 et7 => ?_)
    replace h := h t7 et7
    refine o_aload_n (k := 0) 0 (by decide +kernel) rfl ?_
    refine o_iconst (n := 0) (v := 0) (by decide +kernel) (by decide) ?_
    refine f_putI (t := 12) (k := 25) (i := 241) (by decide +kernel) sh_345 rfl (by decide) lk_1386 rfl rfl ?_
    refine f_name (fun t8 et8 => ?_)
    replace h := h t8 et8
    refine o_aload_n (k := 0) 0 (by decide +kernel) rfl ?_
    refine o_iconst (n := 4) (v := 4) (by decide +kernel) (by decide) ?_
    refine f_putI (t := 12) (k := 28) (i := 261) (by decide +kernel) sh_345 rfl (by decide) lk_1389 rfl rfl ?_
    refine f_name (fun t9 et9 => ?_)
    replace h := h t9 et9
    refine o_aload_n (k := 0) 0 (by decide +kernel) rfl ?_
    refine o_iconst (n := 0) (v := 0) (by decide +kernel) (by decide) ?_
    refine f_putI (t := 12) (k := 30) (i := 302) (by decide +kernel) sh_345 rfl (by decide) lk_1391 rfl rfl ?_
    refine f_name (fun t10 et10 => ?_)
    replace h := h t10 et10
    refine o_aload_n (k := 0) 0 (by decide +kernel) rfl ?_
    refine o_iconst (n := 0) (v := 0) (by decide +kernel) (by decide) ?_
    refine f_putI (t := 12) (k := 37) (i := 223) (by decide +kernel) sh_345 rfl (by decide) lk_1398 rfl rfl ?_
    refine f_name (fun t11 et11 => ?_)
    replace h := h t11 et11
    refine o_aload_n (k := 0) 0 (by decide +kernel) rfl ?_
    refine f_callVV (μ' := mX12_next) (i := 238) (vs := []) (by decide +kernel) lk_1543 (vok_mX12_next) sh_345 rfl rfl rfl rfl (Nat.le_of_ble_eq_true rfl) ?_
    refine x_CV.mono h (fun t12 h => ?_)
    exact h
  · replace h := h.2 q
    refine o_iconst (n := -1) (v := (-1)) (by decide +kernel) (by decide) ?_
    exact f_iret (ty := .int) rfl rfl (by decide +kernel) rfl h
set_option maxRecDepth 20000 in
theorem k_X12_text_74 {d : Nat} {K : x_T → Int32 → Prop}  {τ : x_T} (h : (¬ τ.1 345 19 = 0 → x_WI (d + 1) mX12_text K 167 [(0, .ref 345)] [] τ) ∧ (τ.1 345 19 = 0 → (¬ τ.1 345 28 = 4 → x_WI (d + 1) mX12_text K 96 [(0, .ref 345)] [] τ) ∧ (τ.1 345 28 = 4 → (τ.1 345 17 = 0 → x_WI (d + 1) mX12_text K 167 [(0, .ref 345)] [] τ) ∧ (¬ τ.1 345 17 = 0 → x_WI (d + 1) mX12_text K 96 [(0, .ref 345)] [] τ)))) : x_WI (d + 1) mX12_text K 74 [(0, .ref 345)] [] τ := by
  refine o_aload_n (k := 0) 0 (by decide +kernel) rfl ?_
  refine f_getI (t := 12) (k := 19) (i := 217) (by decide +kernel) sh_345 rfl (by decide) lk_1380 rfl ?_
  refine o_if_ne (off := 89) 167 (by decide +kernel) (by decide) (fun q => ?_) (fun q => ?_)
  · replace h := h.1 q
    exact h
  · replace h := h.2 q
    refine o_aload_n (k := 0) 0 (by decide +kernel) rfl ?_
    refine f_getI (t := 12) (k := 28) (i := 261) (by decide +kernel) sh_345 rfl (by decide) lk_1389 rfl ?_
    refine o_iconst (n := 4) (v := 4) (by decide +kernel) (by decide) ?_
    refine o_icmp_ne (off := 10) 96 (by decide +kernel) (by decide) (fun q => ?_) (fun q => ?_)
    · replace h := h.1 q
      exact h
    · replace h := h.2 q
      refine o_aload_n (k := 0) 0 (by decide +kernel) rfl ?_
      refine f_getI (t := 12) (k := 17) (i := 201) (by decide +kernel) sh_345 rfl (by decide) lk_1378 rfl ?_
      refine o_if_eq (off := 74) 167 (by decide +kernel) (by decide) (fun q => ?_) (fun q => ?_)
      · replace h := h.1 q
        exact h
      · replace h := h.2 q
        exact h
set_option maxRecDepth 20000 in
theorem k_X12_text_96 {d : Nat} {K : x_T → Int32 → Prop}  {τ : x_T} (h : ∀ y1, y1 = τ.1 345 28 → ((y1 = 0 → x_CV d mX12_asks [.ref 345] τ (fun t2 => x_WI (d + 1) mX12_text K 74 [(0, .ref 345)] [] t2)) ∧ (¬ y1 = 0 → (y1 = 1 → x_CV d mX12_begins [.ref 345] τ (fun t4 => x_WI (d + 1) mX12_text K 74 [(0, .ref 345)] [] t4)) ∧ (¬ y1 = 1 → (y1 = 2 → x_CV d mX12_goesOn [.ref 345] τ (fun t6 => x_WI (d + 1) mX12_text K 74 [(0, .ref 345)] [] t6)) ∧ (¬ y1 = 2 → (y1 = 3 → x_CV d mX12_asksOn [.ref 345] τ (fun t8 => x_WI (d + 1) mX12_text K 74 [(0, .ref 345)] [] t8)) ∧ (¬ y1 = 3 → (x_CV d mX12_clause [.ref 345] τ (fun t10 => x_WI (d + 1) mX12_text K 74 [(0, .ref 345)] [] t10)))))))) : x_WI (d + 1) mX12_text K 96 [(0, .ref 345)] [] τ := by
  refine o_aload_n (k := 0) 0 (by decide +kernel) rfl ?_
  refine f_getI (t := 12) (k := 28) (i := 261) (by decide +kernel) sh_345 rfl (by decide) lk_1389 rfl ?_
  refine o_name (fun y1 ey1 => ?_)
  replace h := h y1 ey1
  by_cases c0 : y1 = 0
  · replace h := h.1 c0
    refine o_tableIn (off := 32) (tgt := 132) (d_X12_text_100) (by rw [c0]; decide) (by rw [c0]; decide) (by rw [c0]; rfl) (by decide) ?_
    refine o_aload_n (k := 0) 0 (by decide +kernel) rfl ?_
    refine f_callVV (μ' := mX12_asks) (i := 319) (vs := []) (by decide +kernel) lk_1587 (vok_mX12_asks) sh_345 rfl rfl rfl rfl (Nat.le_of_ble_eq_true rfl) ?_
    refine x_CV.mono h (fun t2 h => ?_)
    refine o_goto (off := -62) 74 (by decide +kernel) (by decide) ?_
    exact h
  replace h := h.2 c0
  by_cases c1 : y1 = 1
  · replace h := h.1 c1
    refine o_tableIn (off := 39) (tgt := 139) (d_X12_text_100) (by rw [c1]; decide) (by rw [c1]; decide) (by rw [c1]; rfl) (by decide) ?_
    refine o_aload_n (k := 0) 0 (by decide +kernel) rfl ?_
    refine f_callVV (μ' := mX12_begins) (i := 322) (vs := []) (by decide +kernel) lk_1607 (vok_mX12_begins) sh_345 rfl rfl rfl rfl (Nat.le_of_ble_eq_true rfl) ?_
    refine x_CV.mono h (fun t4 h => ?_)
    refine o_goto (off := -69) 74 (by decide +kernel) (by decide) ?_
    exact h
  replace h := h.2 c1
  by_cases c2 : y1 = 2
  · replace h := h.1 c2
    refine o_tableIn (off := 46) (tgt := 146) (d_X12_text_100) (by rw [c2]; decide) (by rw [c2]; decide) (by rw [c2]; rfl) (by decide) ?_
    refine o_aload_n (k := 0) 0 (by decide +kernel) rfl ?_
    refine f_callVV (μ' := mX12_goesOn) (i := 325) (vs := []) (by decide +kernel) lk_1638 (vok_mX12_goesOn) sh_345 rfl rfl rfl rfl (Nat.le_of_ble_eq_true rfl) ?_
    refine x_CV.mono h (fun t6 h => ?_)
    refine o_goto (off := -76) 74 (by decide +kernel) (by decide) ?_
    exact h
  replace h := h.2 c2
  by_cases c3 : y1 = 3
  · replace h := h.1 c3
    refine o_tableIn (off := 53) (tgt := 153) (d_X12_text_100) (by rw [c3]; decide) (by rw [c3]; decide) (by rw [c3]; rfl) (by decide) ?_
    refine o_aload_n (k := 0) 0 (by decide +kernel) rfl ?_
    refine f_callVV (μ' := mX12_asksOn) (i := 328) (vs := []) (by decide +kernel) lk_1668 (vok_mX12_asksOn) sh_345 rfl rfl rfl rfl (Nat.le_of_ble_eq_true rfl) ?_
    refine x_CV.mono h (fun t8 h => ?_)
    refine o_goto (off := -83) 74 (by decide +kernel) (by decide) ?_
    exact h
  replace h := h.2 c3
  refine o_tableOut (tgt := 160) (d_X12_text_100) (by have := x_ne (z := 0) (by decide) c0; have := x_ne (z := 1) (by decide) c1; have := x_ne (z := 2) (by decide) c2; have := x_ne (z := 3) (by decide) c3; omega) (by decide) ?_
  refine o_aload_n (k := 0) 0 (by decide +kernel) rfl ?_
  refine f_callVV (μ' := mX12_clause) (i := 331) (vs := []) (by decide +kernel) lk_1672 (vok_mX12_clause) sh_345 rfl rfl rfl rfl (Nat.le_of_ble_eq_true rfl) ?_
  refine x_CV.mono h (fun t10 h => ?_)
  refine o_goto (off := -90) 74 (by decide +kernel) (by decide) ?_
  exact h
set_option maxRecDepth 20000 in
theorem k_X12_text_167 {d : Nat} {K : x_T → Int32 → Prop}  {τ : x_T} (h : ∀ t1, t1 = x_w1 τ 345 4 (τ.1 345 19) → (∀ t2, t2 = x_w1 t1 345 5 (t1.1 345 20) → ((t2.1 345 19 ≤ 0 → ∀ y3, y3 = t2.1 346 2 → (vp_in y3 4 ∧ (∀ t4, t4 = x_w1 t2 349 y3.toNatClampNeg (t2.1 345 30) → (x_WI (d + 1) mX12_text K 211 [(0, .ref 345), (1, .int y3), (2, .int 0)] [] t4)))) ∧ (¬ t2.1 345 19 ≤ 0 → K t2 (-1))))) : x_WI (d + 1) mX12_text K 167 [(0, .ref 345)] [] τ := by
  refine o_aload_n (k := 0) 0 (by decide +kernel) rfl ?_
  refine o_aload_n (k := 0) 0 (by decide +kernel) rfl ?_
  refine f_getI (t := 12) (k := 19) (i := 217) (by decide +kernel) sh_345 rfl (by decide) lk_1380 rfl ?_
  refine f_putI (t := 12) (k := 4) (i := 20) (by decide +kernel) sh_345 rfl (by decide) lk_1365 rfl rfl ?_
  refine f_name (fun t1 et1 => ?_)
  replace h := h t1 et1
  refine o_aload_n (k := 0) 0 (by decide +kernel) rfl ?_
  refine o_aload_n (k := 0) 0 (by decide +kernel) rfl ?_
  refine f_getI (t := 12) (k := 20) (i := 220) (by decide +kernel) sh_345 rfl (by decide) lk_1381 rfl ?_
  refine f_putI (t := 12) (k := 5) (i := 24) (by decide +kernel) sh_345 rfl (by decide) lk_1366 rfl rfl ?_
  refine f_name (fun t2 et2 => ?_)
  replace h := h t2 et2
  refine o_aload_n (k := 0) 0 (by decide +kernel) rfl ?_
  refine f_getI (t := 12) (k := 19) (i := 217) (by decide +kernel) sh_345 rfl (by decide) lk_1380 rfl ?_
  refine o_if_le (off := 5) 192 (by decide +kernel) (by decide) (fun q => ?_) (fun q => ?_)
  · replace h := h.1 q
    refine o_aload_n (k := 0) 0 (by decide +kernel) rfl ?_
    refine f_getR (r := 346) (t := 12) (k := 0) (i := 7) (by decide +kernel) sh_345 rfl (by decide) lk_1361 (by simp [x_ty, tyX12]) (gr_12_0 sh_345) ?_
    refine o_iconst (n := 2) (v := 2) (by decide +kernel) (by decide) ?_
    refine f_iald (k := 2) (by decide +kernel) sh_346 (by unfold vp_in; decide) (by decide) ?_
    refine o_name (fun y3 ey3 => ?_)
    replace h := h y3 ey3
    refine o_istore_n (k := 1) (L' := [(1, .int y3), (0, .ref 345)]) (by decide +kernel) (by decide) rfl ?_
    refine o_aload_n (k := 0) 1 (by decide +kernel) rfl ?_
    refine f_getR (r := 349) (t := 12) (k := 6) (i := 27) (by decide +kernel) sh_345 rfl (by decide) lk_1367 (by simp [x_ty, tyX12]) (gr_12_6 sh_345) ?_
    refine o_iload_n (k := 1) 0 (by decide +kernel) rfl ?_
    refine o_aload_n (k := 0) 1 (by decide +kernel) rfl ?_
    refine f_getI (t := 12) (k := 30) (i := 302) (by decide +kernel) sh_345 rfl (by decide) lk_1391 rfl ?_
    obtain ⟨hi, h⟩ := h
    refine f_iast (by decide +kernel) sh_349 hi rfl ?_
    refine f_name (fun t4 et4 => ?_)
    replace h := h t4 et4
    refine o_iconst (n := 0) (v := 0) (by decide +kernel) (by decide) ?_
    refine o_istore_n (k := 2) (L' := [(2, .int 0), (1, .int y3), (0, .ref 345)]) (by decide +kernel) (by decide) rfl ?_
    refine o_sub [2, 1, 0] rfl ?_
    exact h
  · replace h := h.2 q
    refine o_iconst (n := -1) (v := (-1)) (by decide +kernel) (by decide) ?_
    exact f_iret (ty := .int) rfl rfl (by decide +kernel) rfl h
set_option maxRecDepth 20000 in
theorem k_X12_text_211 {d : Nat} {K : x_T → Int32 → Prop} {v1 : Int32} {v2 : Int32} {τ : x_T} (h : (τ.1 345 30 ≤ v2 → x_WI (d + 1) mX12_text K 318 [(0, .ref 345), (1, .int v1), (2, .int 0)] [] τ) ∧ (¬ τ.1 345 30 ≤ v2 → vp_in v2 24 ∧ (vp_in ((24 * v1) + v2) 96 ∧ (∀ t1, t1 = x_w1 τ 350 (((24 * v1) + v2).toNatClampNeg) (τ.1 362 v2.toNatClampNeg) → (vp_in v2 24 ∧ (vp_in ((24 * v1) + v2) 96 ∧ (∀ t2, t2 = x_w1 t1 351 (((24 * v1) + v2).toNatClampNeg) ((400 * v1) + (t1.1 363 v2.toNatClampNeg)) → (vp_in v2 24 ∧ (vp_in ((24 * v1) + v2) 96 ∧ (∀ t3, t3 = x_w1 t2 352 (((24 * v1) + v2).toNatClampNeg) (t2.1 364 v2.toNatClampNeg) → (vp_in v2 24 ∧ (vp_in ((24 * v1) + v2) 96 ∧ (∀ t4, t4 = x_w1 t3 353 (((24 * v1) + v2).toNatClampNeg) (t3.1 365 v2.toNatClampNeg) → (vp_in v2 24 ∧ (vp_in ((24 * v1) + v2) 96 ∧ (∀ t5, t5 = x_w1 t4 354 (((24 * v1) + v2).toNatClampNeg) (t4.1 366 v2.toNatClampNeg) → (∀ y6, y6 = v2 + 1 → (x_WI (d + 1) mX12_text K 211 [(0, .ref 345), (1, .int v1), (2, .int y6)] [] t5)))))))))))))))))) : x_WI (d + 1) mX12_text K 211 [(0, .ref 345), (1, .int v1), (2, .int v2)] [] τ := by
  refine o_iload_n (k := 2) 2 (by decide +kernel) rfl ?_
  refine o_aload_n (k := 0) 0 (by decide +kernel) rfl ?_
  refine f_getI (t := 12) (k := 30) (i := 302) (by decide +kernel) sh_345 rfl (by decide) lk_1391 rfl ?_
  refine o_icmp_ge (off := 100) 316 (by decide +kernel) (by decide) (fun q => ?_) (fun q => ?_)
  · replace h := h.1 q
    refine o_iconst (n := 0) (v := 0) (by decide +kernel) (by decide) ?_
    refine o_istore_n (k := 2) (L' := [(2, .int 0), (0, .ref 345), (1, .int v1)]) (by decide +kernel) (by decide) rfl ?_
    refine o_sub [1, 2, 0] rfl ?_
    exact h
  · replace h := h.2 q
    refine o_aload_n (k := 0) 0 (by decide +kernel) rfl ?_
    refine f_getR (r := 350) (t := 12) (k := 7) (i := 30) (by decide +kernel) sh_345 rfl (by decide) lk_1368 (by simp [x_ty, tyX12]) (gr_12_7 sh_345) ?_
    refine o_bipush (n := 24) (v := 24) (by decide +kernel) (by decide) ?_
    refine o_iload_n (k := 1) 1 (by decide +kernel) rfl ?_
    refine o_imul (by decide +kernel) ?_
    refine o_iload_n (k := 2) 2 (by decide +kernel) rfl ?_
    refine o_iadd (by decide +kernel) ?_
    refine o_aload_n (k := 0) 0 (by decide +kernel) rfl ?_
    refine f_getR (r := 362) (t := 12) (k := 32) (i := 66) (by decide +kernel) sh_345 rfl (by decide) lk_1393 (by simp [x_ty, tyX12]) (gr_12_32 sh_345) ?_
    refine o_iload_n (k := 2) 2 (by decide +kernel) rfl ?_
    obtain ⟨hi, h⟩ := h
    refine f_iald (by decide +kernel) sh_362 hi rfl ?_
    obtain ⟨hi, h⟩ := h
    refine f_iast (by decide +kernel) sh_350 hi rfl ?_
    refine f_name (fun t1 et1 => ?_)
    replace h := h t1 et1
    refine o_aload_n (k := 0) 0 (by decide +kernel) rfl ?_
    refine f_getR (r := 351) (t := 12) (k := 8) (i := 33) (by decide +kernel) sh_345 rfl (by decide) lk_1369 (by simp [x_ty, tyX12]) (gr_12_8 sh_345) ?_
    refine o_bipush (n := 24) (v := 24) (by decide +kernel) (by decide) ?_
    refine o_iload_n (k := 1) 1 (by decide +kernel) rfl ?_
    refine o_imul (by decide +kernel) ?_
    refine o_iload_n (k := 2) 2 (by decide +kernel) rfl ?_
    refine o_iadd (by decide +kernel) ?_
    refine o_sipush (n := 400) (v := 400) (by decide +kernel) (by decide) ?_
    refine o_iload_n (k := 1) 1 (by decide +kernel) rfl ?_
    refine o_imul (by decide +kernel) ?_
    refine o_aload_n (k := 0) 0 (by decide +kernel) rfl ?_
    refine f_getR (r := 363) (t := 12) (k := 33) (i := 69) (by decide +kernel) sh_345 rfl (by decide) lk_1394 (by simp [x_ty, tyX12]) (gr_12_33 sh_345) ?_
    refine o_iload_n (k := 2) 2 (by decide +kernel) rfl ?_
    obtain ⟨hi, h⟩ := h
    refine f_iald (by decide +kernel) sh_363 hi rfl ?_
    refine o_iadd (by decide +kernel) ?_
    obtain ⟨hi, h⟩ := h
    refine f_iast (by decide +kernel) sh_351 hi rfl ?_
    refine f_name (fun t2 et2 => ?_)
    replace h := h t2 et2
    refine o_aload_n (k := 0) 0 (by decide +kernel) rfl ?_
    refine f_getR (r := 352) (t := 12) (k := 9) (i := 36) (by decide +kernel) sh_345 rfl (by decide) lk_1370 (by simp [x_ty, tyX12]) (gr_12_9 sh_345) ?_
    refine o_bipush (n := 24) (v := 24) (by decide +kernel) (by decide) ?_
    refine o_iload_n (k := 1) 1 (by decide +kernel) rfl ?_
    refine o_imul (by decide +kernel) ?_
    refine o_iload_n (k := 2) 2 (by decide +kernel) rfl ?_
    refine o_iadd (by decide +kernel) ?_
    refine o_aload_n (k := 0) 0 (by decide +kernel) rfl ?_
    refine f_getR (r := 364) (t := 12) (k := 34) (i := 72) (by decide +kernel) sh_345 rfl (by decide) lk_1395 (by simp [x_ty, tyX12]) (gr_12_34 sh_345) ?_
    refine o_iload_n (k := 2) 2 (by decide +kernel) rfl ?_
    obtain ⟨hi, h⟩ := h
    refine f_iald (by decide +kernel) sh_364 hi rfl ?_
    obtain ⟨hi, h⟩ := h
    refine f_iast (by decide +kernel) sh_352 hi rfl ?_
    refine f_name (fun t3 et3 => ?_)
    replace h := h t3 et3
    refine o_aload_n (k := 0) 0 (by decide +kernel) rfl ?_
    refine f_getR (r := 353) (t := 12) (k := 10) (i := 39) (by decide +kernel) sh_345 rfl (by decide) lk_1371 (by simp [x_ty, tyX12]) (gr_12_10 sh_345) ?_
    refine o_bipush (n := 24) (v := 24) (by decide +kernel) (by decide) ?_
    refine o_iload_n (k := 1) 1 (by decide +kernel) rfl ?_
    refine o_imul (by decide +kernel) ?_
    refine o_iload_n (k := 2) 2 (by decide +kernel) rfl ?_
    refine o_iadd (by decide +kernel) ?_
    refine o_aload_n (k := 0) 0 (by decide +kernel) rfl ?_
    refine f_getR (r := 365) (t := 12) (k := 35) (i := 75) (by decide +kernel) sh_345 rfl (by decide) lk_1396 (by simp [x_ty, tyX12]) (gr_12_35 sh_345) ?_
    refine o_iload_n (k := 2) 2 (by decide +kernel) rfl ?_
    obtain ⟨hi, h⟩ := h
    refine f_iald (by decide +kernel) sh_365 hi rfl ?_
    obtain ⟨hi, h⟩ := h
    refine f_iast (by decide +kernel) sh_353 hi rfl ?_
    refine f_name (fun t4 et4 => ?_)
    replace h := h t4 et4
    refine o_aload_n (k := 0) 0 (by decide +kernel) rfl ?_
    refine f_getR (r := 354) (t := 12) (k := 11) (i := 42) (by decide +kernel) sh_345 rfl (by decide) lk_1372 (by simp [x_ty, tyX12]) (gr_12_11 sh_345) ?_
    refine o_bipush (n := 24) (v := 24) (by decide +kernel) (by decide) ?_
    refine o_iload_n (k := 1) 1 (by decide +kernel) rfl ?_
    refine o_imul (by decide +kernel) ?_
    refine o_iload_n (k := 2) 2 (by decide +kernel) rfl ?_
    refine o_iadd (by decide +kernel) ?_
    refine o_aload_n (k := 0) 0 (by decide +kernel) rfl ?_
    refine f_getR (r := 366) (t := 12) (k := 36) (i := 78) (by decide +kernel) sh_345 rfl (by decide) lk_1397 (by simp [x_ty, tyX12]) (gr_12_36 sh_345) ?_
    refine o_iload_n (k := 2) 2 (by decide +kernel) rfl ?_
    obtain ⟨hi, h⟩ := h
    refine f_iald (by decide +kernel) sh_366 hi rfl ?_
    obtain ⟨hi, h⟩ := h
    refine f_iast (by decide +kernel) sh_354 hi rfl ?_
    refine f_name (fun t5 et5 => ?_)
    replace h := h t5 et5
    obtain ⟨y6, ey6⟩ : ∃ y : Int32, y = v2 + 1 := ⟨_, rfl⟩
    replace h := h y6 ey6
    refine o_iinc (i := 2) (n := 1) (v := y6) (L' := [(2, .int y6), (0, .ref 345), (1, .int v1)]) 2 (by decide +kernel) rfl (by rw [ey6]; rfl) (by decide) rfl ?_
    refine o_goto (off := -102) 211 (by decide +kernel) (by decide) ?_
    refine o_sub [1, 2, 0] rfl ?_
    exact h
set_option maxRecDepth 20000 in
theorem k_X12_text_318 {d : Nat} {K : x_T → Int32 → Prop} {v1 : Int32} {v2 : Int32} {τ : x_T} (h : (τ.1 345 37 ≤ v2 → ∀ t1, t1 = x_w1 τ 346 2 ((τ.1 346 2) + 1) → (K t1 v1)) ∧ (¬ τ.1 345 37 ≤ v2 → vp_in v2 400 ∧ (∀ y2, y2 = τ.1 367 v2.toNatClampNeg → (vp_in ((400 * v1) + v2) 1600 ∧ (∀ t3, t3 = x_w1 τ 355 (((400 * v1) + v2).toNatClampNeg) y2 → (vp_in v2 400 ∧ ((y2 = 404 → x_WI (d + 1) mX12_text K 377 [(0, .ref 345), (1, .int v1), (2, .int v2)] [.int (t3.1 368 v2.toNatClampNeg), .int ((400 * v1) + v2), .ref 356] t3) ∧ (¬ y2 = 404 → (¬ y2 = 409 → x_WI (d + 1) mX12_text K 386 [(0, .ref 345), (1, .int v1), (2, .int v2)] [.int 0, .int (t3.1 368 v2.toNatClampNeg), .int ((400 * v1) + v2), .ref 356] t3) ∧ (y2 = 409 → x_WI (d + 1) mX12_text K 377 [(0, .ref 345), (1, .int v1), (2, .int v2)] [.int (t3.1 368 v2.toNatClampNeg), .int ((400 * v1) + v2), .ref 356] t3))))))))) : x_WI (d + 1) mX12_text K 318 [(0, .ref 345), (1, .int v1), (2, .int v2)] [] τ := by
  refine o_iload_n (k := 2) 2 (by decide +kernel) rfl ?_
  refine o_aload_n (k := 0) 0 (by decide +kernel) rfl ?_
  refine f_getI (t := 12) (k := 37) (i := 223) (by decide +kernel) sh_345 rfl (by decide) lk_1398 rfl ?_
  refine o_icmp_ge (off := 71) 394 (by decide +kernel) (by decide) (fun q => ?_) (fun q => ?_)
  · replace h := h.1 q
    refine o_aload_n (k := 0) 0 (by decide +kernel) rfl ?_
    refine f_getR (r := 346) (t := 12) (k := 0) (i := 7) (by decide +kernel) sh_345 rfl (by decide) lk_1361 (by simp [x_ty, tyX12]) (gr_12_0 sh_345) ?_
    refine o_iconst (n := 2) (v := 2) (by decide +kernel) (by decide) ?_
    refine o_dup2 (by decide +kernel) rfl rfl ?_
    refine f_iald (k := 2) (by decide +kernel) sh_346 (by unfold vp_in; decide) (by decide) ?_
    refine o_iconst (n := 1) (v := 1) (by decide +kernel) (by decide) ?_
    refine o_iadd (by decide +kernel) ?_
    refine f_iast (k := 2) (by decide +kernel) sh_346 (by unfold vp_in; decide) (by decide) ?_
    refine f_name (fun t1 et1 => ?_)
    replace h := h t1 et1
    refine o_iload_n (k := 1) 1 (by decide +kernel) rfl ?_
    exact f_iret (ty := .int) rfl rfl (by decide +kernel) rfl h
  · replace h := h.2 q
    refine o_aload_n (k := 0) 0 (by decide +kernel) rfl ?_
    refine f_getR (r := 367) (t := 12) (k := 38) (i := 81) (by decide +kernel) sh_345 rfl (by decide) lk_1399 (by simp [x_ty, tyX12]) (gr_12_38 sh_345) ?_
    refine o_iload_n (k := 2) 2 (by decide +kernel) rfl ?_
    obtain ⟨hi, h⟩ := h
    refine f_iald (by decide +kernel) sh_367 hi rfl ?_
    refine o_name (fun y2 ey2 => ?_)
    replace h := h y2 ey2
    refine o_istore_n (k := 3) (L' := [(3, .int y2), (0, .ref 345), (1, .int v1), (2, .int v2)]) (by decide +kernel) (by decide) rfl ?_
    refine o_aload_n (k := 0) 1 (by decide +kernel) rfl ?_
    refine f_getR (r := 355) (t := 12) (k := 12) (i := 45) (by decide +kernel) sh_345 rfl (by decide) lk_1373 (by simp [x_ty, tyX12]) (gr_12_12 sh_345) ?_
    refine o_sipush (n := 400) (v := 400) (by decide +kernel) (by decide) ?_
    refine o_iload_n (k := 1) 2 (by decide +kernel) rfl ?_
    refine o_imul (by decide +kernel) ?_
    refine o_iload_n (k := 2) 3 (by decide +kernel) rfl ?_
    refine o_iadd (by decide +kernel) ?_
    refine o_iload_n (k := 3) 0 (by decide +kernel) rfl ?_
    obtain ⟨hi, h⟩ := h
    refine f_iast (by decide +kernel) sh_355 hi rfl ?_
    refine f_name (fun t3 et3 => ?_)
    replace h := h t3 et3
    refine o_aload_n (k := 0) 1 (by decide +kernel) rfl ?_
    refine f_getR (r := 356) (t := 12) (k := 13) (i := 48) (by decide +kernel) sh_345 rfl (by decide) lk_1374 (by simp [x_ty, tyX12]) (gr_12_13 sh_345) ?_
    refine o_sipush (n := 400) (v := 400) (by decide +kernel) (by decide) ?_
    refine o_iload_n (k := 1) 2 (by decide +kernel) rfl ?_
    refine o_imul (by decide +kernel) ?_
    refine o_iload_n (k := 2) 3 (by decide +kernel) rfl ?_
    refine o_iadd (by decide +kernel) ?_
    refine o_aload_n (k := 0) 1 (by decide +kernel) rfl ?_
    refine f_getR (r := 368) (t := 12) (k := 39) (i := 84) (by decide +kernel) sh_345 rfl (by decide) lk_1400 (by simp [x_ty, tyX12]) (gr_12_39 sh_345) ?_
    refine o_iload_n (k := 2) 3 (by decide +kernel) rfl ?_
    obtain ⟨hi, h⟩ := h
    refine f_iald (by decide +kernel) sh_368 hi rfl ?_
    refine o_iload_n (k := 3) 0 (by decide +kernel) rfl ?_
    refine o_sipush (n := 404) (v := 404) (by decide +kernel) (by decide) ?_
    refine o_icmp_eq (off := 10) 377 (by decide +kernel) (by decide) (fun q => ?_) (fun q => ?_)
    · replace h := h.1 q
      refine o_sub [1, 2, 3] rfl ?_
      exact h
    · replace h := h.2 q
      refine o_iload_n (k := 3) 0 (by decide +kernel) rfl ?_
      refine o_sipush (n := 409) (v := 409) (by decide +kernel) (by decide) ?_
      refine o_icmp_ne (off := 11) 385 (by decide +kernel) (by decide) (fun q => ?_) (fun q => ?_)
      · replace h := h.1 q
        refine o_iconst (n := 0) (v := 0) (by decide +kernel) (by decide) ?_
        refine o_sub [1, 2, 3] rfl ?_
        exact h
      · replace h := h.2 q
        refine o_sub [1, 2, 3] rfl ?_
        exact h
set_option maxRecDepth 20000 in
theorem k_X12_text_377 {d : Nat} {K : x_T → Int32 → Prop} {v1 : Int32} {v2 : Int32} {s0 : Int32} {s1 : Int32} {τ : x_T} (h : x_WI (d + 1) mX12_text K 386 [(0, .ref 345), (1, .int v1), (2, .int v2)] [.int (400 * v1), .int s0, .int s1, .ref 356] τ) : x_WI (d + 1) mX12_text K 377 [(0, .ref 345), (1, .int v1), (2, .int v2)] [.int s0, .int s1, .ref 356] τ := by
  refine o_sipush (n := 400) (v := 400) (by decide +kernel) (by decide) ?_
  refine o_iload_n (k := 1) 1 (by decide +kernel) rfl ?_
  refine o_imul (by decide +kernel) ?_
  refine o_goto (off := 4) 386 (by decide +kernel) (by decide) ?_
  exact h
set_option maxRecDepth 20000 in
theorem k_X12_text_386 {d : Nat} {K : x_T → Int32 → Prop} {v1 : Int32} {v2 : Int32} {s0 : Int32} {s1 : Int32} {s2 : Int32} {τ : x_T} (h : vp_in s2 1600 ∧ (∀ t1, t1 = x_w1 τ 356 s2.toNatClampNeg (s1 + s0) → (∀ y2, y2 = v2 + 1 → (x_WI (d + 1) mX12_text K 318 [(0, .ref 345), (1, .int v1), (2, .int y2)] [] t1)))) : x_WI (d + 1) mX12_text K 386 [(0, .ref 345), (1, .int v1), (2, .int v2)] [.int s0, .int s1, .int s2, .ref 356] τ := by
  refine o_iadd (by decide +kernel) ?_
  obtain ⟨hi, h⟩ := h
  refine f_iast (by decide +kernel) sh_356 hi rfl ?_
  refine f_name (fun t1 et1 => ?_)
  replace h := h t1 et1
  obtain ⟨y2, ey2⟩ : ∃ y : Int32, y = v2 + 1 := ⟨_, rfl⟩
  replace h := h y2 ey2
  refine o_iinc (i := 2) (n := 1) (v := y2) (L' := [(2, .int y2), (0, .ref 345), (1, .int v1)]) 2 (by decide +kernel) rfl (by rw [ey2]; rfl) (by decide) rfl ?_
  refine o_goto (off := -73) 318 (by decide +kernel) (by decide) ?_
  refine o_sub [1, 2, 0] rfl ?_
  exact h
set_option maxRecDepth 20000 in
theorem e_X12_fault {d : Nat} {K : x_T → Int32 → Prop} {v1 : Int32} {τ : x_T} (h : (¬ v1 = 0 → (¬ v1 = 1 → K τ (-1)) ∧ (v1 = 1 → K τ (τ.1 345 5))) ∧ (v1 = 0 → K τ (τ.1 345 4))) : x_CI d mX12_fault [.ref 345, .int v1] τ K := by
  refine x_CI_of (by decide) (Nat.le_of_ble_eq_true rfl) ?_
  show x_WI d mX12_fault K 0 [(0, .ref 345), (1, .int v1)] [] τ
  refine o_iload_n (k := 1) 1 (by decide +kernel) rfl ?_
  refine o_if_ne (off := 10) 11 (by decide +kernel) (by decide) (fun q => ?_) (fun q => ?_)
  · replace h := h.1 q
    refine o_iload_n (k := 1) 1 (by decide +kernel) rfl ?_
    refine o_iconst (n := 1) (v := 1) (by decide +kernel) (by decide) ?_
    refine o_icmp_ne (off := 10) 23 (by decide +kernel) (by decide) (fun q => ?_) (fun q => ?_)
    · replace h := h.1 q
      refine o_iconst (n := -1) (v := (-1)) (by decide +kernel) (by decide) ?_
      exact f_iret (ty := .int) rfl rfl (by decide +kernel) rfl h
    · replace h := h.2 q
      refine o_aload_n (k := 0) 0 (by decide +kernel) rfl ?_
      refine f_getI (t := 12) (k := 5) (i := 24) (by decide +kernel) sh_345 rfl (by decide) lk_1366 rfl ?_
      refine o_goto (off := 4) 24 (by decide +kernel) (by decide) ?_
      exact f_iret (ty := .int) rfl rfl (by decide +kernel) rfl h
  · replace h := h.2 q
    refine o_aload_n (k := 0) 0 (by decide +kernel) rfl ?_
    refine f_getI (t := 12) (k := 4) (i := 20) (by decide +kernel) sh_345 rfl (by decide) lk_1365 rfl ?_
    refine o_goto (off := 16) 24 (by decide +kernel) (by decide) ?_
    exact f_iret (ty := .int) rfl rfl (by decide +kernel) rfl h
set_option maxRecDepth 20000 in
theorem e_X12_laysFar {d : Nat} {K : x_T → Prop}  {τ : x_T} (h : x_WV d mX12_laysFar K 2 [(0, .ref 345), (1, .int 0)] [] τ) : x_CV d mX12_laysFar [.ref 345] τ K := by
  refine x_CV_of (by decide) (Nat.le_of_ble_eq_true rfl) ?_
  show x_WV d mX12_laysFar K 0 [(0, .ref 345)] [] τ
  refine o_iconst (n := 0) (v := 0) (by decide +kernel) (by decide) ?_
  refine o_istore_n (k := 1) (L' := [(1, .int 0), (0, .ref 345)]) (by decide +kernel) (by decide) rfl ?_
  refine o_sub [1, 0] rfl ?_
  exact h
set_option maxRecDepth 20000 in
theorem k_X12_laysFar_2 {d : Nat} {K : x_T → Prop} {v1 : Int32} {τ : x_T} (h : (64 ≤ v1 → x_WV d mX12_laysFar K 63 [(0, .ref 345), (1, .int 0)] [] τ) ∧ (¬ 64 ≤ v1 → (¬ v1 / 8 = v1 - v1 / 8 * 8 → vp_in (30 + v1) 3670 ∧ ((τ.1 346 (30 + v1).toNatClampNeg ≤ 0 → x_WV d mX12_laysFar K 54 [(0, .ref 345), (1, .int v1)] [.int 99, .int v1, .ref 369] τ) ∧ (¬ τ.1 346 (30 + v1).toNatClampNeg ≤ 0 → vp_in (30 + v1) 3670 ∧ (x_WV d mX12_laysFar K 54 [(0, .ref 345), (1, .int v1)] [.int (τ.1 346 (30 + v1).toNatClampNeg), .int v1, .ref 369] τ)))) ∧ (v1 / 8 = v1 - v1 / 8 * 8 → x_WV d mX12_laysFar K 54 [(0, .ref 345), (1, .int v1)] [.int 0, .int v1, .ref 369] τ))) : x_WV d mX12_laysFar K 2 [(0, .ref 345), (1, .int v1)] [] τ := by
  refine o_iload_n (k := 1) 1 (by decide +kernel) rfl ?_
  refine o_bipush (n := 64) (v := 64) (by decide +kernel) (by decide) ?_
  refine o_icmp_ge (off := 56) 61 (by decide +kernel) (by decide) (fun q => ?_) (fun q => ?_)
  · replace h := h.1 q
    refine o_iconst (n := 0) (v := 0) (by decide +kernel) (by decide) ?_
    refine o_istore_n (k := 1) (L' := [(1, .int 0), (0, .ref 345)]) (by decide +kernel) (by decide) rfl ?_
    refine o_sub [1, 0] rfl ?_
    exact h
  · replace h := h.2 q
    refine o_aload_n (k := 0) 0 (by decide +kernel) rfl ?_
    refine f_getR (r := 369) (t := 12) (k := 40) (i := 87) (by decide +kernel) sh_345 rfl (by decide) lk_1401 (by simp [x_ty, tyX12]) (gr_12_40 sh_345) ?_
    refine o_iload_n (k := 1) 1 (by decide +kernel) rfl ?_
    refine o_iload_n (k := 1) 1 (by decide +kernel) rfl ?_
    refine o_bipush (n := 8) (v := 8) (by decide +kernel) (by decide) ?_
    refine o_idiv (by decide +kernel) (by decide) ?_
    refine o_iload_n (k := 1) 1 (by decide +kernel) rfl ?_
    refine o_bipush (n := 8) (v := 8) (by decide +kernel) (by decide) ?_
    refine o_irem (by decide +kernel) (by decide) ?_
    refine o_icmp_ne (off := 7) 28 (by decide +kernel) (by decide) (fun q => ?_) (fun q => ?_)
    · replace h := h.1 q
      refine o_aload_n (k := 0) 0 (by decide +kernel) rfl ?_
      refine f_getR (r := 346) (t := 12) (k := 0) (i := 7) (by decide +kernel) sh_345 rfl (by decide) lk_1361 (by simp [x_ty, tyX12]) (gr_12_0 sh_345) ?_
      refine o_bipush (n := 30) (v := 30) (by decide +kernel) (by decide) ?_
      refine o_iload_n (k := 1) 1 (by decide +kernel) rfl ?_
      refine o_iadd (by decide +kernel) ?_
      obtain ⟨hi, h⟩ := h
      refine f_iald (by decide +kernel) sh_346 hi rfl ?_
      refine o_if_le (off := 15) 52 (by decide +kernel) (by decide) (fun q => ?_) (fun q => ?_)
      · replace h := h.1 q
        refine o_bipush (n := 99) (v := 99) (by decide +kernel) (by decide) ?_
        exact h
      · replace h := h.2 q
        refine o_aload_n (k := 0) 0 (by decide +kernel) rfl ?_
        refine f_getR (r := 346) (t := 12) (k := 0) (i := 7) (by decide +kernel) sh_345 rfl (by decide) lk_1361 (by simp [x_ty, tyX12]) (gr_12_0 sh_345) ?_
        refine o_bipush (n := 30) (v := 30) (by decide +kernel) (by decide) ?_
        refine o_iload_n (k := 1) 1 (by decide +kernel) rfl ?_
        refine o_iadd (by decide +kernel) ?_
        obtain ⟨hi, h⟩ := h
        refine f_iald (by decide +kernel) sh_346 hi rfl ?_
        refine o_goto (off := 5) 54 (by decide +kernel) (by decide) ?_
        exact h
    · replace h := h.2 q
      refine o_iconst (n := 0) (v := 0) (by decide +kernel) (by decide) ?_
      refine o_goto (off := 29) 54 (by decide +kernel) (by decide) ?_
      exact h
set_option maxRecDepth 20000 in
theorem k_X12_laysFar_54 {d : Nat} {K : x_T → Prop} {v1 : Int32} {s0 : Int32} {s1 : Int32} {τ : x_T} (h : vp_in s1 64 ∧ (∀ t1, t1 = x_w1 τ 369 s1.toNatClampNeg s0 → (∀ y2, y2 = v1 + 1 → (x_WV d mX12_laysFar K 2 [(0, .ref 345), (1, .int y2)] [] t1)))) : x_WV d mX12_laysFar K 54 [(0, .ref 345), (1, .int v1)] [.int s0, .int s1, .ref 369] τ := by
  obtain ⟨hi, h⟩ := h
  refine f_iast (by decide +kernel) sh_369 hi rfl ?_
  refine f_name (fun t1 et1 => ?_)
  replace h := h t1 et1
  obtain ⟨y2, ey2⟩ : ∃ y : Int32, y = v1 + 1 := ⟨_, rfl⟩
  replace h := h y2 ey2
  refine o_iinc (i := 1) (n := 1) (v := y2) (L' := [(1, .int y2), (0, .ref 345)]) 1 (by decide +kernel) rfl (by rw [ey2]; rfl) (by decide) rfl ?_
  refine o_goto (off := -56) 2 (by decide +kernel) (by decide) ?_
  refine o_sub [1, 0] rfl ?_
  exact h
set_option maxRecDepth 20000 in
theorem k_X12_laysFar_63 {d : Nat} {K : x_T → Prop} {v1 : Int32} {τ : x_T} (h : (8 ≤ v1 → K τ) ∧ (¬ 8 ≤ v1 → x_WV d mX12_laysFar K 71 [(0, .ref 345), (1, .int v1), (2, .int 0)] [] τ)) : x_WV d mX12_laysFar K 63 [(0, .ref 345), (1, .int v1)] [] τ := by
  refine o_iload_n (k := 1) 1 (by decide +kernel) rfl ?_
  refine o_bipush (n := 8) (v := 8) (by decide +kernel) (by decide) ?_
  refine o_icmp_ge (off := 78) 144 (by decide +kernel) (by decide) (fun q => ?_) (fun q => ?_)
  · replace h := h.1 q
    exact f_vret rfl (by decide +kernel) rfl h
  · replace h := h.2 q
    refine o_iconst (n := 0) (v := 0) (by decide +kernel) (by decide) ?_
    refine o_istore_n (k := 2) (L' := [(2, .int 0), (0, .ref 345), (1, .int v1)]) (by decide +kernel) (by decide) rfl ?_
    refine o_sub [1, 2, 0] rfl ?_
    exact h
set_option maxRecDepth 20000 in
theorem k_X12_laysFar_71 {d : Nat} {K : x_T → Prop} {v1 : Int32} {v2 : Int32} {τ : x_T} (h : (64 ≤ v2 → ∀ y1, y1 = v1 + 1 → (x_WV d mX12_laysFar K 63 [(0, .ref 345), (1, .int y1)] [] τ)) ∧ (¬ 64 ≤ v2 → vp_in ((v2 - (v2 - v2 / 8 * 8)) + v1) 64 ∧ (vp_in ((8 * v1) + (v2 - v2 / 8 * 8)) 64 ∧ (∀ y2, y2 = (τ.1 369 ((v2 - (v2 - v2 / 8 * 8)) + v1).toNatClampNeg) + (τ.1 369 ((8 * v1) + (v2 - v2 / 8 * 8)).toNatClampNeg) → (vp_in v2 64 ∧ ((τ.1 369 v2.toNatClampNeg ≤ y2 → vp_in v2 64 ∧ (x_WV d mX12_laysFar K 131 [(0, .ref 345), (1, .int v1), (2, .int v2)] [.int (τ.1 369 v2.toNatClampNeg), .int v2, .ref 369] τ)) ∧ (¬ τ.1 369 v2.toNatClampNeg ≤ y2 → x_WV d mX12_laysFar K 131 [(0, .ref 345), (1, .int v1), (2, .int v2)] [.int y2, .int v2, .ref 369] τ))))))) : x_WV d mX12_laysFar K 71 [(0, .ref 345), (1, .int v1), (2, .int v2)] [] τ := by
  refine o_iload_n (k := 2) 2 (by decide +kernel) rfl ?_
  refine o_bipush (n := 64) (v := 64) (by decide +kernel) (by decide) ?_
  refine o_icmp_ge (off := 64) 138 (by decide +kernel) (by decide) (fun q => ?_) (fun q => ?_)
  · replace h := h.1 q
    obtain ⟨y1, ey1⟩ : ∃ y : Int32, y = v1 + 1 := ⟨_, rfl⟩
    replace h := h y1 ey1
    refine o_iinc (i := 1) (n := 1) (v := y1) (L' := [(1, .int y1), (0, .ref 345), (2, .int v2)]) 1 (by decide +kernel) rfl (by rw [ey1]; rfl) (by decide) rfl ?_
    refine o_goto (off := -78) 63 (by decide +kernel) (by decide) ?_
    refine o_sub [1, 0] rfl ?_
    exact h
  · replace h := h.2 q
    refine o_aload_n (k := 0) 0 (by decide +kernel) rfl ?_
    refine f_getR (r := 369) (t := 12) (k := 40) (i := 87) (by decide +kernel) sh_345 rfl (by decide) lk_1401 (by simp [x_ty, tyX12]) (gr_12_40 sh_345) ?_
    refine o_iload_n (k := 2) 2 (by decide +kernel) rfl ?_
    refine o_iload_n (k := 2) 2 (by decide +kernel) rfl ?_
    refine o_bipush (n := 8) (v := 8) (by decide +kernel) (by decide) ?_
    refine o_irem (by decide +kernel) (by decide) ?_
    refine o_isub (by decide +kernel) ?_
    refine o_iload_n (k := 1) 1 (by decide +kernel) rfl ?_
    refine o_iadd (by decide +kernel) ?_
    obtain ⟨hi, h⟩ := h
    refine f_iald (by decide +kernel) sh_369 hi rfl ?_
    refine o_aload_n (k := 0) 0 (by decide +kernel) rfl ?_
    refine f_getR (r := 369) (t := 12) (k := 40) (i := 87) (by decide +kernel) sh_345 rfl (by decide) lk_1401 (by simp [x_ty, tyX12]) (gr_12_40 sh_345) ?_
    refine o_bipush (n := 8) (v := 8) (by decide +kernel) (by decide) ?_
    refine o_iload_n (k := 1) 1 (by decide +kernel) rfl ?_
    refine o_imul (by decide +kernel) ?_
    refine o_iload_n (k := 2) 2 (by decide +kernel) rfl ?_
    refine o_bipush (n := 8) (v := 8) (by decide +kernel) (by decide) ?_
    refine o_irem (by decide +kernel) (by decide) ?_
    refine o_iadd (by decide +kernel) ?_
    obtain ⟨hi, h⟩ := h
    refine f_iald (by decide +kernel) sh_369 hi rfl ?_
    refine o_iadd (by decide +kernel) ?_
    refine o_name (fun y2 ey2 => ?_)
    replace h := h y2 ey2
    refine o_istore_n (k := 3) (L' := [(3, .int y2), (0, .ref 345), (1, .int v1), (2, .int v2)]) (by decide +kernel) (by decide) rfl ?_
    refine o_aload_n (k := 0) 1 (by decide +kernel) rfl ?_
    refine f_getR (r := 369) (t := 12) (k := 40) (i := 87) (by decide +kernel) sh_345 rfl (by decide) lk_1401 (by simp [x_ty, tyX12]) (gr_12_40 sh_345) ?_
    refine o_iload_n (k := 2) 3 (by decide +kernel) rfl ?_
    refine o_iload_n (k := 3) 0 (by decide +kernel) rfl ?_
    refine o_aload_n (k := 0) 1 (by decide +kernel) rfl ?_
    refine f_getR (r := 369) (t := 12) (k := 40) (i := 87) (by decide +kernel) sh_345 rfl (by decide) lk_1401 (by simp [x_ty, tyX12]) (gr_12_40 sh_345) ?_
    refine o_iload_n (k := 2) 3 (by decide +kernel) rfl ?_
    obtain ⟨hi, h⟩ := h
    refine f_iald (by decide +kernel) sh_369 hi rfl ?_
    refine o_icmp_ge (off := 7) 125 (by decide +kernel) (by decide) (fun q => ?_) (fun q => ?_)
    · replace h := h.1 q
      refine o_aload_n (k := 0) 1 (by decide +kernel) rfl ?_
      refine f_getR (r := 369) (t := 12) (k := 40) (i := 87) (by decide +kernel) sh_345 rfl (by decide) lk_1401 (by simp [x_ty, tyX12]) (gr_12_40 sh_345) ?_
      refine o_iload_n (k := 2) 3 (by decide +kernel) rfl ?_
      obtain ⟨hi, h⟩ := h
      refine f_iald (by decide +kernel) sh_369 hi rfl ?_
      refine o_sub [1, 2, 3] rfl ?_
      exact h
    · replace h := h.2 q
      refine o_iload_n (k := 3) 0 (by decide +kernel) rfl ?_
      refine o_goto (off := 9) 131 (by decide +kernel) (by decide) ?_
      refine o_sub [1, 2, 3] rfl ?_
      exact h
set_option maxRecDepth 20000 in
theorem k_X12_laysFar_131 {d : Nat} {K : x_T → Prop} {v1 : Int32} {v2 : Int32} {s0 : Int32} {s1 : Int32} {τ : x_T} (h : vp_in s1 64 ∧ (∀ t1, t1 = x_w1 τ 369 s1.toNatClampNeg s0 → (∀ y2, y2 = v2 + 1 → (x_WV d mX12_laysFar K 71 [(0, .ref 345), (1, .int v1), (2, .int y2)] [] t1)))) : x_WV d mX12_laysFar K 131 [(0, .ref 345), (1, .int v1), (2, .int v2)] [.int s0, .int s1, .ref 369] τ := by
  obtain ⟨hi, h⟩ := h
  refine f_iast (by decide +kernel) sh_369 hi rfl ?_
  refine f_name (fun t1 et1 => ?_)
  replace h := h t1 et1
  obtain ⟨y2, ey2⟩ : ∃ y : Int32, y = v2 + 1 := ⟨_, rfl⟩
  replace h := h y2 ey2
  refine o_iinc (i := 2) (n := 1) (v := y2) (L' := [(2, .int y2), (0, .ref 345), (1, .int v1)]) 2 (by decide +kernel) rfl (by rw [ey2]; rfl) (by decide) rfl ?_
  refine o_goto (off := -64) 71 (by decide +kernel) (by decide) ?_
  refine o_sub [1, 2, 0] rfl ?_
  exact h
set_option maxRecDepth 20000 in
theorem e_X12_laysNow {d : Nat} {K : x_T → Prop}  {τ : x_T} (h : x_WV (d + 1) mX12_laysNow K 2 [(0, .ref 345), (1, .int 0)] [] τ) : x_CV (d + 1) mX12_laysNow [.ref 345] τ K := by
  refine x_CV_of (by decide) (Nat.le_of_ble_eq_true rfl) ?_
  show x_WV (d + 1) mX12_laysNow K 0 [(0, .ref 345)] [] τ
  refine o_iconst (n := 0) (v := 0) (by decide +kernel) (by decide) ?_
  refine o_istore_n (k := 1) (L' := [(1, .int 0), (0, .ref 345)]) (by decide +kernel) (by decide) rfl ?_
  refine o_sub [1, 0] rfl ?_
  exact h
set_option maxRecDepth 20000 in
theorem k_X12_laysNow_2 {d : Nat} {K : x_T → Prop} {v1 : Int32} {τ : x_T} (h : (114 ≤ v1 → x_CV d mX12_laysFar [.ref 345] τ (fun t1 => K t1)) ∧ (¬ 114 ≤ v1 → vp_in (130 + v1) 3670 ∧ (vp_in v1 114 ∧ (∀ t3, t3 = x_w1 τ 370 v1.toNatClampNeg (τ.1 346 (130 + v1).toNatClampNeg) → (∀ y4, y4 = v1 + 1 → (x_WV (d + 1) mX12_laysNow K 2 [(0, .ref 345), (1, .int y4)] [] t3)))))) : x_WV (d + 1) mX12_laysNow K 2 [(0, .ref 345), (1, .int v1)] [] τ := by
  refine o_iload_n (k := 1) 1 (by decide +kernel) rfl ?_
  refine o_bipush (n := 114) (v := 114) (by decide +kernel) (by decide) ?_
  refine o_icmp_ge (off := 25) 30 (by decide +kernel) (by decide) (fun q => ?_) (fun q => ?_)
  · replace h := h.1 q
    refine o_aload_n (k := 0) 0 (by decide +kernel) rfl ?_
    refine f_callVV (μ' := mX12_laysFar) (i := 334) (vs := []) (by decide +kernel) lk_1708 (vok_mX12_laysFar) sh_345 rfl rfl rfl rfl (Nat.le_of_ble_eq_true rfl) ?_
    refine x_CV.mono h (fun t1 h => ?_)
    exact f_vret rfl (by decide +kernel) rfl h
  · replace h := h.2 q
    refine o_aload_n (k := 0) 0 (by decide +kernel) rfl ?_
    refine f_getR (r := 370) (t := 12) (k := 41) (i := 90) (by decide +kernel) sh_345 rfl (by decide) lk_1402 (by simp [x_ty, tyX12]) (gr_12_41 sh_345) ?_
    refine o_iload_n (k := 1) 1 (by decide +kernel) rfl ?_
    refine o_aload_n (k := 0) 0 (by decide +kernel) rfl ?_
    refine f_getR (r := 346) (t := 12) (k := 0) (i := 7) (by decide +kernel) sh_345 rfl (by decide) lk_1361 (by simp [x_ty, tyX12]) (gr_12_0 sh_345) ?_
    refine o_sipush (n := 130) (v := 130) (by decide +kernel) (by decide) ?_
    refine o_iload_n (k := 1) 1 (by decide +kernel) rfl ?_
    refine o_iadd (by decide +kernel) ?_
    obtain ⟨hi, h⟩ := h
    refine f_iald (by decide +kernel) sh_346 hi rfl ?_
    obtain ⟨hi, h⟩ := h
    refine f_iast (by decide +kernel) sh_370 hi rfl ?_
    refine f_name (fun t3 et3 => ?_)
    replace h := h t3 et3
    obtain ⟨y4, ey4⟩ : ∃ y : Int32, y = v1 + 1 := ⟨_, rfl⟩
    replace h := h y4 ey4
    refine o_iinc (i := 1) (n := 1) (v := y4) (L' := [(1, .int y4), (0, .ref 345)]) 1 (by decide +kernel) rfl (by rw [ey4]; rfl) (by decide) rfl ?_
    refine o_goto (off := -25) 2 (by decide +kernel) (by decide) ?_
    refine o_sub [1, 0] rfl ?_
    exact h
set_option maxRecDepth 20000 in
theorem e_X12_keepsNow {d : Nat} {K : x_T → Prop}  {τ : x_T} (h : x_WV d mX12_keepsNow K 2 [(0, .ref 345), (1, .int 0)] [] τ) : x_CV d mX12_keepsNow [.ref 345] τ K := by
  refine x_CV_of (by decide) (Nat.le_of_ble_eq_true rfl) ?_
  show x_WV d mX12_keepsNow K 0 [(0, .ref 345)] [] τ
  refine o_iconst (n := 0) (v := 0) (by decide +kernel) (by decide) ?_
  refine o_istore_n (k := 1) (L' := [(1, .int 0), (0, .ref 345)]) (by decide +kernel) (by decide) rfl ?_
  refine o_sub [1, 0] rfl ?_
  exact h
set_option maxRecDepth 20000 in
theorem k_X12_keepsNow_2 {d : Nat} {K : x_T → Prop} {v1 : Int32} {τ : x_T} (h : (114 ≤ v1 → K τ) ∧ (¬ 114 ≤ v1 → vp_in v1 114 ∧ (vp_in (130 + v1) 3670 ∧ (∀ t1, t1 = x_w1 τ 346 ((130 + v1).toNatClampNeg) (τ.1 370 v1.toNatClampNeg) → (∀ y2, y2 = v1 + 1 → (x_WV d mX12_keepsNow K 2 [(0, .ref 345), (1, .int y2)] [] t1)))))) : x_WV d mX12_keepsNow K 2 [(0, .ref 345), (1, .int v1)] [] τ := by
  refine o_iload_n (k := 1) 1 (by decide +kernel) rfl ?_
  refine o_bipush (n := 114) (v := 114) (by decide +kernel) (by decide) ?_
  refine o_icmp_ge (off := 25) 30 (by decide +kernel) (by decide) (fun q => ?_) (fun q => ?_)
  · replace h := h.1 q
    exact f_vret rfl (by decide +kernel) rfl h
  · replace h := h.2 q
    refine o_aload_n (k := 0) 0 (by decide +kernel) rfl ?_
    refine f_getR (r := 346) (t := 12) (k := 0) (i := 7) (by decide +kernel) sh_345 rfl (by decide) lk_1361 (by simp [x_ty, tyX12]) (gr_12_0 sh_345) ?_
    refine o_sipush (n := 130) (v := 130) (by decide +kernel) (by decide) ?_
    refine o_iload_n (k := 1) 1 (by decide +kernel) rfl ?_
    refine o_iadd (by decide +kernel) ?_
    refine o_aload_n (k := 0) 0 (by decide +kernel) rfl ?_
    refine f_getR (r := 370) (t := 12) (k := 41) (i := 90) (by decide +kernel) sh_345 rfl (by decide) lk_1402 (by simp [x_ty, tyX12]) (gr_12_41 sh_345) ?_
    refine o_iload_n (k := 1) 1 (by decide +kernel) rfl ?_
    obtain ⟨hi, h⟩ := h
    refine f_iald (by decide +kernel) sh_370 hi rfl ?_
    obtain ⟨hi, h⟩ := h
    refine f_iast (by decide +kernel) sh_346 hi rfl ?_
    refine f_name (fun t1 et1 => ?_)
    replace h := h t1 et1
    obtain ⟨y2, ey2⟩ : ∃ y : Int32, y = v1 + 1 := ⟨_, rfl⟩
    replace h := h y2 ey2
    refine o_iinc (i := 1) (n := 1) (v := y2) (L' := [(1, .int y2), (0, .ref 345)]) 1 (by decide +kernel) rfl (by rw [ey2]; rfl) (by decide) rfl ?_
    refine o_goto (off := -25) 2 (by decide +kernel) (by decide) ?_
    refine o_sub [1, 0] rfl ?_
    exact h
set_option maxRecDepth 20000 in
theorem e_X12_bound {d : Nat} {K : x_T → Int64 → Prop} {w0 : Int64} {τ : x_T} (h : (lg_cmp w0 1000000 ≤ 0 → (0 ≤ lg_cmp w0 (-1000000) → K τ w0) ∧ (¬ 0 ≤ lg_cmp w0 (-1000000) → K τ (-1000000))) ∧ (¬ lg_cmp w0 1000000 ≤ 0 → K τ 1000000)) : x_CL d mX12_bound [.long w0] τ K := by
  refine x_CL_of (by decide) (Nat.le_of_ble_eq_true rfl) ?_
  show x_WL d mX12_bound K 0 [(0, .long w0)] [] τ
  refine o_lload_n (k := 0) 0 (by decide +kernel) rfl ?_
  refine o_ldc2 (i := 337) (v := 1000000) (by decide +kernel) lk_1747 ?_
  refine o_lcmp (by decide +kernel) ?_
  refine o_if_le (off := 9) 14 (by decide +kernel) (by decide) (fun q => ?_) (fun q => ?_)
  · replace h := h.1 q
    refine o_lload_n (k := 0) 0 (by decide +kernel) rfl ?_
    refine o_ldc2 (i := 339) (v := (-1000000)) (by decide +kernel) lk_1748 ?_
    refine o_lcmp (by decide +kernel) ?_
    refine o_if_ge (off := 9) 28 (by decide +kernel) (by decide) (fun q => ?_) (fun q => ?_)
    · replace h := h.1 q
      refine o_lload_n (k := 0) 0 (by decide +kernel) rfl ?_
      exact f_lret rfl (by decide +kernel) rfl h
    · replace h := h.2 q
      refine o_ldc2 (i := 339) (v := (-1000000)) (by decide +kernel) lk_1748 ?_
      refine o_goto (off := 4) 29 (by decide +kernel) (by decide) ?_
      exact f_lret rfl (by decide +kernel) rfl h
  · replace h := h.2 q
    refine o_ldc2 (i := 337) (v := 1000000) (by decide +kernel) lk_1747 ?_
    refine o_goto (off := 18) 29 (by decide +kernel) (by decide) ?_
    exact f_lret rfl (by decide +kernel) rfl h
set_option maxRecDepth 20000 in
theorem e_X12_farBy {d : Nat} {K : x_T → Int64 → Prop} {w1 : Int64} {w3 : Int64} {τ : x_T} (h : ∀ y1, y1 = τ.1 346 0 → ((lg_cmp w1 0 < 0 → K τ 99) ∧ (¬ lg_cmp w1 0 < 0 → (lg_cmp w3 0 < 0 → K τ 99) ∧ (¬ lg_cmp w3 0 < 0 → (0 ≤ lg_cmp w1 y1.toInt64 → K τ 99) ∧ (¬ 0 ≤ lg_cmp w1 y1.toInt64 → (lg_cmp w3 y1.toInt64 < 0 → vp_in ((8 * w1.toInt32) + w3.toInt32) 64 ∧ (K τ ((τ.1 369 ((8 * w1.toInt32) + w3.toInt32).toNatClampNeg).toInt64))) ∧ (¬ lg_cmp w3 y1.toInt64 < 0 → K τ 99)))))) : x_CL d mX12_farBy [.ref 345, .long w1, .long w3] τ K := by
  refine x_CL_of (by decide) (Nat.le_of_ble_eq_true rfl) ?_
  show x_WL d mX12_farBy K 0 [(0, .ref 345), (1, .long w1), (3, .long w3)] [] τ
  refine o_aload_n (k := 0) 0 (by decide +kernel) rfl ?_
  refine f_getR (r := 346) (t := 12) (k := 0) (i := 7) (by decide +kernel) sh_345 rfl (by decide) lk_1361 (by simp [x_ty, tyX12]) (gr_12_0 sh_345) ?_
  refine o_iconst (n := 0) (v := 0) (by decide +kernel) (by decide) ?_
  refine f_iald (k := 0) (by decide +kernel) sh_346 (by unfold vp_in; decide) (by decide) ?_
  refine o_name (fun y1 ey1 => ?_)
  replace h := h y1 ey1
  refine o_istore (k := 5) (L' := [(5, .int y1), (0, .ref 345), (1, .long w1), (3, .long w3)]) (by decide +kernel) (by decide) rfl ?_
  refine o_lload_n (k := 1) 2 (by decide +kernel) rfl ?_
  refine o_lconst (n := 0) (v := 0) (by decide +kernel) (by decide) ?_
  refine o_lcmp (by decide +kernel) ?_
  refine o_if_lt (off := 25) 36 (by decide +kernel) (by decide) (fun q => ?_) (fun q => ?_)
  · replace h := h.1 q
    refine o_ldc2 (i := 341) (v := 99) (by decide +kernel) lk_1753 ?_
    refine o_goto (off := 17) 56 (by decide +kernel) (by decide) ?_
    exact f_lret rfl (by decide +kernel) rfl h
  · replace h := h.2 q
    refine o_lload_n (k := 3) 3 (by decide +kernel) rfl ?_
    refine o_lconst (n := 0) (v := 0) (by decide +kernel) (by decide) ?_
    refine o_lcmp (by decide +kernel) ?_
    refine o_if_lt (off := 19) 36 (by decide +kernel) (by decide) (fun q => ?_) (fun q => ?_)
    · replace h := h.1 q
      refine o_ldc2 (i := 341) (v := 99) (by decide +kernel) lk_1753 ?_
      refine o_goto (off := 17) 56 (by decide +kernel) (by decide) ?_
      exact f_lret rfl (by decide +kernel) rfl h
    · replace h := h.2 q
      refine o_lload_n (k := 1) 2 (by decide +kernel) rfl ?_
      refine o_iload (k := 5) 0 (by decide +kernel) rfl ?_
      refine o_i2l (by decide +kernel) ?_
      refine o_lcmp (by decide +kernel) ?_
      refine o_if_ge (off := 11) 36 (by decide +kernel) (by decide) (fun q => ?_) (fun q => ?_)
      · replace h := h.1 q
        refine o_ldc2 (i := 341) (v := 99) (by decide +kernel) lk_1753 ?_
        refine o_goto (off := 17) 56 (by decide +kernel) (by decide) ?_
        exact f_lret rfl (by decide +kernel) rfl h
      · replace h := h.2 q
        refine o_lload_n (k := 3) 3 (by decide +kernel) rfl ?_
        refine o_iload (k := 5) 0 (by decide +kernel) rfl ?_
        refine o_i2l (by decide +kernel) ?_
        refine o_lcmp (by decide +kernel) ?_
        refine o_if_lt (off := 9) 42 (by decide +kernel) (by decide) (fun q => ?_) (fun q => ?_)
        · replace h := h.1 q
          refine o_aload_n (k := 0) 1 (by decide +kernel) rfl ?_
          refine f_getR (r := 369) (t := 12) (k := 40) (i := 87) (by decide +kernel) sh_345 rfl (by decide) lk_1401 (by simp [x_ty, tyX12]) (gr_12_40 sh_345) ?_
          refine o_bipush (n := 8) (v := 8) (by decide +kernel) (by decide) ?_
          refine o_lload_n (k := 1) 2 (by decide +kernel) rfl ?_
          refine o_l2i (by decide +kernel) ?_
          refine o_imul (by decide +kernel) ?_
          refine o_lload_n (k := 3) 3 (by decide +kernel) rfl ?_
          refine o_l2i (by decide +kernel) ?_
          refine o_iadd (by decide +kernel) ?_
          obtain ⟨hi, h⟩ := h
          refine f_iald (by decide +kernel) sh_369 hi rfl ?_
          refine o_i2l (by decide +kernel) ?_
          exact f_lret rfl (by decide +kernel) rfl h
        · replace h := h.2 q
          refine o_ldc2 (i := 341) (v := 99) (by decide +kernel) lk_1753 ?_
          refine o_goto (off := 17) 56 (by decide +kernel) (by decide) ?_
          exact f_lret rfl (by decide +kernel) rfl h
theorem d_X12_worked_1 : decode mX12_worked.2.1 1 = .ok (.lookupswitch (238) #[(35, 186), (42, 123), (43, 107), (45, 115), (47, 131), (60, 147), (61, 173), (62, 160), (300, 199), (301, 212), (403, 225), (406, 233)], 107) := by decide +kernel
set_option maxRecDepth 20000 in
theorem e_X12_worked {d : Nat} {K : x_T → Int64 → Prop} {v1 : Int32} {w2 : Int64} {w4 : Int64} {τ : x_T} (h : ((v1 = 35 → (lg_cmp w2 w4 = 0 → K τ 0) ∧ (¬ lg_cmp w2 w4 = 0 → K τ 1)) ∧ (¬ v1 = 35 → (v1 = 42 → x_CL d mX12_bound [.long (w2 * w4)] τ (fun t1 a2 => K t1 a2)) ∧ (¬ v1 = 42 → (v1 = 43 → x_CL d mX12_bound [.long (w2 + w4)] τ (fun t3 a4 => K t3 a4)) ∧ (¬ v1 = 43 → (v1 = 45 → x_CL d mX12_bound [.long (w2 - w4)] τ (fun t5 a6 => K t5 a6)) ∧ (¬ v1 = 45 → (v1 = 47 → (¬ lg_cmp w4 0 = 0 → ¬ w4 = 0 ∧ (K τ (w2 / w4))) ∧ (lg_cmp w4 0 = 0 → K τ 0)) ∧ (¬ v1 = 47 → (v1 = 60 → (0 ≤ lg_cmp w2 w4 → K τ 0) ∧ (¬ 0 ≤ lg_cmp w2 w4 → K τ 1)) ∧ (¬ v1 = 60 → (v1 = 61 → (¬ lg_cmp w2 w4 = 0 → K τ 0) ∧ (lg_cmp w2 w4 = 0 → K τ 1)) ∧ (¬ v1 = 61 → (v1 = 62 → (lg_cmp w2 w4 ≤ 0 → K τ 0) ∧ (¬ lg_cmp w2 w4 ≤ 0 → K τ 1)) ∧ (¬ v1 = 62 → (v1 = 300 → (0 < lg_cmp w2 w4 → K τ 0) ∧ (¬ 0 < lg_cmp w2 w4 → K τ 1)) ∧ (¬ v1 = 300 → (v1 = 301 → (lg_cmp w2 w4 < 0 → K τ 0) ∧ (¬ lg_cmp w2 w4 < 0 → K τ 1)) ∧ (¬ v1 = 301 → (v1 = 403 → x_CL d mX12_farBy [.ref 345, .long w2, .long w4] τ (fun t7 a8 => K t7 a8)) ∧ (¬ v1 = 403 → (v1 = 406 → K τ (w2 * w4)) ∧ (¬ v1 = 406 → ((lg_cmp (w2 + w4) 0 ≤ 0 → K τ 0) ∧ (¬ lg_cmp (w2 + w4) 0 ≤ 0 → K τ 1)))))))))))))))) : x_CL (d + 1) mX12_worked [.ref 345, .int v1, .long w2, .long w4] τ K := by
  refine x_CL_of (by decide) (Nat.le_of_ble_eq_true rfl) ?_
  show x_WL (d + 1) mX12_worked K 0 [(0, .ref 345), (1, .int v1), (2, .long w2), (4, .long w4)] [] τ
  refine o_iload_n (k := 1) 1 (by decide +kernel) rfl ?_
  by_cases c35 : v1 = 35
  · replace h := h.1 c35
    refine o_lookup (off := 186) (tgt := 187) (d_X12_worked_1) (by decide) (by rw [c35]; decide) (by decide) ?_
    refine o_lload_n (k := 2) 2 (by decide +kernel) rfl ?_
    refine o_lload (k := 4) 3 (by decide +kernel) rfl ?_
    refine o_lcmp (by decide +kernel) ?_
    refine o_if_eq (off := 7) 198 (by decide +kernel) (by decide) (fun q => ?_) (fun q => ?_)
    · replace h := h.1 q
      refine o_lconst (n := 0) (v := 0) (by decide +kernel) (by decide) ?_
      exact f_lret rfl (by decide +kernel) rfl h
    · replace h := h.2 q
      refine o_lconst (n := 1) (v := 1) (by decide +kernel) (by decide) ?_
      refine o_goto (off := 4) 199 (by decide +kernel) (by decide) ?_
      exact f_lret rfl (by decide +kernel) rfl h
  replace h := h.2 c35
  by_cases c42 : v1 = 42
  · replace h := h.1 c42
    refine o_lookup (off := 123) (tgt := 124) (d_X12_worked_1) (by decide) (by rw [c42]; decide) (by decide) ?_
    refine o_lload_n (k := 2) 2 (by decide +kernel) rfl ?_
    refine o_lload (k := 4) 3 (by decide +kernel) rfl ?_
    refine o_lmul (by decide +kernel) ?_
    refine f_callSL (μ' := mX12_bound) (i := 343) (vs := [.long (w2 * w4)]) (by decide +kernel) lk_1744 (cok_mX12_bound) rfl (stt_mX12_bound) rfl rfl (Nat.le_of_ble_eq_true rfl) ?_
    refine x_CL.mono h (fun t1 a2 h => ?_)
    exact f_lret rfl (by decide +kernel) rfl h
  replace h := h.2 c42
  by_cases c43 : v1 = 43
  · replace h := h.1 c43
    refine o_lookup (off := 107) (tgt := 108) (d_X12_worked_1) (by decide) (by rw [c43]; decide) (by decide) ?_
    refine o_lload_n (k := 2) 2 (by decide +kernel) rfl ?_
    refine o_lload (k := 4) 3 (by decide +kernel) rfl ?_
    refine o_ladd (by decide +kernel) ?_
    refine f_callSL (μ' := mX12_bound) (i := 343) (vs := [.long (w2 + w4)]) (by decide +kernel) lk_1744 (cok_mX12_bound) rfl (stt_mX12_bound) rfl rfl (Nat.le_of_ble_eq_true rfl) ?_
    refine x_CL.mono h (fun t3 a4 h => ?_)
    exact f_lret rfl (by decide +kernel) rfl h
  replace h := h.2 c43
  by_cases c45 : v1 = 45
  · replace h := h.1 c45
    refine o_lookup (off := 115) (tgt := 116) (d_X12_worked_1) (by decide) (by rw [c45]; decide) (by decide) ?_
    refine o_lload_n (k := 2) 2 (by decide +kernel) rfl ?_
    refine o_lload (k := 4) 3 (by decide +kernel) rfl ?_
    refine o_lsub (by decide +kernel) ?_
    refine f_callSL (μ' := mX12_bound) (i := 343) (vs := [.long (w2 - w4)]) (by decide +kernel) lk_1744 (cok_mX12_bound) rfl (stt_mX12_bound) rfl rfl (Nat.le_of_ble_eq_true rfl) ?_
    refine x_CL.mono h (fun t5 a6 h => ?_)
    exact f_lret rfl (by decide +kernel) rfl h
  replace h := h.2 c45
  by_cases c47 : v1 = 47
  · replace h := h.1 c47
    refine o_lookup (off := 131) (tgt := 132) (d_X12_worked_1) (by decide) (by rw [c47]; decide) (by decide) ?_
    refine o_lload (k := 4) 3 (by decide +kernel) rfl ?_
    refine o_lconst (n := 0) (v := 0) (by decide +kernel) (by decide) ?_
    refine o_lcmp (by decide +kernel) ?_
    refine o_if_ne (off := 7) 143 (by decide +kernel) (by decide) (fun q => ?_) (fun q => ?_)
    · replace h := h.1 q
      refine o_lload_n (k := 2) 2 (by decide +kernel) rfl ?_
      refine o_lload (k := 4) 3 (by decide +kernel) rfl ?_
      obtain ⟨hz, h⟩ := h
      refine o_ldiv (by decide +kernel) hz ?_
      exact f_lret rfl (by decide +kernel) rfl h
    · replace h := h.2 q
      refine o_lconst (n := 0) (v := 0) (by decide +kernel) (by decide) ?_
      refine o_goto (off := 7) 147 (by decide +kernel) (by decide) ?_
      exact f_lret rfl (by decide +kernel) rfl h
  replace h := h.2 c47
  by_cases c60 : v1 = 60
  · replace h := h.1 c60
    refine o_lookup (off := 147) (tgt := 148) (d_X12_worked_1) (by decide) (by rw [c60]; decide) (by decide) ?_
    refine o_lload_n (k := 2) 2 (by decide +kernel) rfl ?_
    refine o_lload (k := 4) 3 (by decide +kernel) rfl ?_
    refine o_lcmp (by decide +kernel) ?_
    refine o_if_ge (off := 7) 159 (by decide +kernel) (by decide) (fun q => ?_) (fun q => ?_)
    · replace h := h.1 q
      refine o_lconst (n := 0) (v := 0) (by decide +kernel) (by decide) ?_
      exact f_lret rfl (by decide +kernel) rfl h
    · replace h := h.2 q
      refine o_lconst (n := 1) (v := 1) (by decide +kernel) (by decide) ?_
      refine o_goto (off := 4) 160 (by decide +kernel) (by decide) ?_
      exact f_lret rfl (by decide +kernel) rfl h
  replace h := h.2 c60
  by_cases c61 : v1 = 61
  · replace h := h.1 c61
    refine o_lookup (off := 173) (tgt := 174) (d_X12_worked_1) (by decide) (by rw [c61]; decide) (by decide) ?_
    refine o_lload_n (k := 2) 2 (by decide +kernel) rfl ?_
    refine o_lload (k := 4) 3 (by decide +kernel) rfl ?_
    refine o_lcmp (by decide +kernel) ?_
    refine o_if_ne (off := 7) 185 (by decide +kernel) (by decide) (fun q => ?_) (fun q => ?_)
    · replace h := h.1 q
      refine o_lconst (n := 0) (v := 0) (by decide +kernel) (by decide) ?_
      exact f_lret rfl (by decide +kernel) rfl h
    · replace h := h.2 q
      refine o_lconst (n := 1) (v := 1) (by decide +kernel) (by decide) ?_
      refine o_goto (off := 4) 186 (by decide +kernel) (by decide) ?_
      exact f_lret rfl (by decide +kernel) rfl h
  replace h := h.2 c61
  by_cases c62 : v1 = 62
  · replace h := h.1 c62
    refine o_lookup (off := 160) (tgt := 161) (d_X12_worked_1) (by decide) (by rw [c62]; decide) (by decide) ?_
    refine o_lload_n (k := 2) 2 (by decide +kernel) rfl ?_
    refine o_lload (k := 4) 3 (by decide +kernel) rfl ?_
    refine o_lcmp (by decide +kernel) ?_
    refine o_if_le (off := 7) 172 (by decide +kernel) (by decide) (fun q => ?_) (fun q => ?_)
    · replace h := h.1 q
      refine o_lconst (n := 0) (v := 0) (by decide +kernel) (by decide) ?_
      exact f_lret rfl (by decide +kernel) rfl h
    · replace h := h.2 q
      refine o_lconst (n := 1) (v := 1) (by decide +kernel) (by decide) ?_
      refine o_goto (off := 4) 173 (by decide +kernel) (by decide) ?_
      exact f_lret rfl (by decide +kernel) rfl h
  replace h := h.2 c62
  by_cases c300 : v1 = 300
  · replace h := h.1 c300
    refine o_lookup (off := 199) (tgt := 200) (d_X12_worked_1) (by decide) (by rw [c300]; decide) (by decide) ?_
    refine o_lload_n (k := 2) 2 (by decide +kernel) rfl ?_
    refine o_lload (k := 4) 3 (by decide +kernel) rfl ?_
    refine o_lcmp (by decide +kernel) ?_
    refine o_if_gt (off := 7) 211 (by decide +kernel) (by decide) (fun q => ?_) (fun q => ?_)
    · replace h := h.1 q
      refine o_lconst (n := 0) (v := 0) (by decide +kernel) (by decide) ?_
      exact f_lret rfl (by decide +kernel) rfl h
    · replace h := h.2 q
      refine o_lconst (n := 1) (v := 1) (by decide +kernel) (by decide) ?_
      refine o_goto (off := 4) 212 (by decide +kernel) (by decide) ?_
      exact f_lret rfl (by decide +kernel) rfl h
  replace h := h.2 c300
  by_cases c301 : v1 = 301
  · replace h := h.1 c301
    refine o_lookup (off := 212) (tgt := 213) (d_X12_worked_1) (by decide) (by rw [c301]; decide) (by decide) ?_
    refine o_lload_n (k := 2) 2 (by decide +kernel) rfl ?_
    refine o_lload (k := 4) 3 (by decide +kernel) rfl ?_
    refine o_lcmp (by decide +kernel) ?_
    refine o_if_lt (off := 7) 224 (by decide +kernel) (by decide) (fun q => ?_) (fun q => ?_)
    · replace h := h.1 q
      refine o_lconst (n := 0) (v := 0) (by decide +kernel) (by decide) ?_
      exact f_lret rfl (by decide +kernel) rfl h
    · replace h := h.2 q
      refine o_lconst (n := 1) (v := 1) (by decide +kernel) (by decide) ?_
      refine o_goto (off := 4) 225 (by decide +kernel) (by decide) ?_
      exact f_lret rfl (by decide +kernel) rfl h
  replace h := h.2 c301
  by_cases c403 : v1 = 403
  · replace h := h.1 c403
    refine o_lookup (off := 225) (tgt := 226) (d_X12_worked_1) (by decide) (by rw [c403]; decide) (by decide) ?_
    refine o_aload_n (k := 0) 0 (by decide +kernel) rfl ?_
    refine o_lload_n (k := 2) 2 (by decide +kernel) rfl ?_
    refine o_lload (k := 4) 3 (by decide +kernel) rfl ?_
    refine f_callVL (μ' := mX12_farBy) (i := 347) (vs := [.long w2, .long w4]) (by decide +kernel) lk_1749 (vok_mX12_farBy) sh_345 rfl rfl rfl rfl (Nat.le_of_ble_eq_true rfl) ?_
    refine x_CL.mono h (fun t7 a8 h => ?_)
    exact f_lret rfl (by decide +kernel) rfl h
  replace h := h.2 c403
  by_cases c406 : v1 = 406
  · replace h := h.1 c406
    refine o_lookup (off := 233) (tgt := 234) (d_X12_worked_1) (by decide) (by rw [c406]; decide) (by decide) ?_
    refine o_lload_n (k := 2) 2 (by decide +kernel) rfl ?_
    refine o_lload (k := 4) 3 (by decide +kernel) rfl ?_
    refine o_lmul (by decide +kernel) ?_
    exact f_lret rfl (by decide +kernel) rfl h
  replace h := h.2 c406
  refine o_lookup (off := 238) (tgt := 239) (d_X12_worked_1) (by decide) (by have := x_neS (z := 35) (by decide) c35; have := x_neS (z := 42) (by decide) c42; have := x_neS (z := 43) (by decide) c43; have := x_neS (z := 45) (by decide) c45; have := x_neS (z := 47) (by decide) c47; have := x_neS (z := 60) (by decide) c60; have := x_neS (z := 61) (by decide) c61; have := x_neS (z := 62) (by decide) c62; have := x_neS (z := 300) (by decide) c300; have := x_neS (z := 301) (by decide) c301; have := x_neS (z := 403) (by decide) c403; have := x_neS (z := 406) (by decide) c406; simp [Op.lookupswitch.offset, *]) (by decide) ?_
  refine o_lload_n (k := 2) 2 (by decide +kernel) rfl ?_
  refine o_lload (k := 4) 3 (by decide +kernel) rfl ?_
  refine o_ladd (by decide +kernel) ?_
  refine o_lconst (n := 0) (v := 0) (by decide +kernel) (by decide) ?_
  refine o_lcmp (by decide +kernel) ?_
  refine o_if_le (off := 7) 252 (by decide +kernel) (by decide) (fun q => ?_) (fun q => ?_)
  · replace h := h.1 q
    refine o_lconst (n := 0) (v := 0) (by decide +kernel) (by decide) ?_
    exact f_lret rfl (by decide +kernel) rfl h
  · replace h := h.2 q
    refine o_lconst (n := 1) (v := 1) (by decide +kernel) (by decide) ?_
    refine o_goto (off := 4) 253 (by decide +kernel) (by decide) ?_
    exact f_lret rfl (by decide +kernel) rfl h
