set_option maxRecDepth 20000 in
theorem e_X12_two {d : Nat} {K : x_T → Int32 → Prop} {v1 : Int32} {v2 : Int32} {v3 : Int32} {τ : x_T} (h : x_CI d mX12_isHouse [.ref 345, .int v1] τ (fun t1 a2 => (a2 = 0 → K t1 (-1)) ∧ (¬ a2 = 0 → x_CI d mX12_isHouse [.ref 345, .int v2] t1 (fun t3 a4 => (¬ a4 = 0 → x_CV d mX12_laysNow [.ref 345] t3 (fun t5 => (¬ v3 = 0 → (¬ v3 = 1 → (¬ v3 = 2 → K t5 (-1)) ∧ (v3 = 2 → x_CI d mX12_warmOf [.ref 345, .int v1, .int v2] t5 (fun t7 a8 => K t7 a8))) ∧ (v3 = 1 → vp_in ((30 + (8 * v1)) + v2) 3670 ∧ (K t5 (t5.1 346 ((30 + (8 * v1)) + v2).toNatClampNeg)))) ∧ (v3 = 0 → vp_in ((8 * v1) + v2) 64 ∧ (K t5 (t5.1 369 ((8 * v1) + v2).toNatClampNeg))))) ∧ (a4 = 0 → K t3 (-1)))))) : x_CI (d + 1) mX12_two [.ref 345, .int v1, .int v2, .int v3] τ K := by
  refine x_CI_of (by decide) (Nat.le_of_ble_eq_true rfl) ?_
  show x_WI (d + 1) mX12_two K 0 [(0, .ref 345), (1, .int v1), (2, .int v2), (3, .int v3)] [] τ
  refine o_aload_n (k := 0) 0 (by decide +kernel) rfl ?_
  refine o_iload_n (k := 1) 1 (by decide +kernel) rfl ?_
  refine f_callVI (μ' := mX12_isHouse) (i := 117) (vs := [.int v1]) (by decide +kernel) lk_1515 (vok_mX12_isHouse) sh_345 rfl rfl rfl rfl (Nat.le_of_ble_eq_true rfl) ?_
  refine x_CI.mono h (fun t1 a2 h => ?_)
  refine o_if_eq (off := 11) 16 (by decide +kernel) (by decide) (fun q => ?_) (fun q => ?_)
  · replace h := h.1 q
    refine o_iconst (n := -1) (v := (-1)) (by decide +kernel) (by decide) ?_
    exact f_iret (ty := .int) rfl rfl (by decide +kernel) rfl h
  · replace h := h.2 q
    refine o_aload_n (k := 0) 0 (by decide +kernel) rfl ?_
    refine o_iload_n (k := 2) 2 (by decide +kernel) rfl ?_
    refine f_callVI (μ' := mX12_isHouse) (i := 117) (vs := [.int v2]) (by decide +kernel) lk_1515 (vok_mX12_isHouse) sh_345 rfl rfl rfl rfl (Nat.le_of_ble_eq_true rfl) ?_
    refine x_CI.mono h (fun t3 a4 h => ?_)
    refine o_if_ne (off := 5) 18 (by decide +kernel) (by decide) (fun q => ?_) (fun q => ?_)
    · replace h := h.1 q
      refine o_aload_n (k := 0) 0 (by decide +kernel) rfl ?_
      refine f_callVV (μ' := mX12_laysNow) (i := 396) (vs := []) (by decide +kernel) lk_1704 (vok_mX12_laysNow) sh_345 rfl rfl rfl rfl (Nat.le_of_ble_eq_true rfl) ?_
      refine x_CV.mono h (fun t5 h => ?_)
      refine o_iload_n (k := 3) 3 (by decide +kernel) rfl ?_
      refine o_if_ne (off := 17) 40 (by decide +kernel) (by decide) (fun q => ?_) (fun q => ?_)
      · replace h := h.1 q
        refine o_iload_n (k := 3) 3 (by decide +kernel) rfl ?_
        refine o_iconst (n := 1) (v := 1) (by decide +kernel) (by decide) ?_
        refine o_icmp_ne (off := 20) 62 (by decide +kernel) (by decide) (fun q => ?_) (fun q => ?_)
        · replace h := h.1 q
          refine o_iload_n (k := 3) 3 (by decide +kernel) rfl ?_
          refine o_iconst (n := 2) (v := 2) (by decide +kernel) (by decide) ?_
          refine o_icmp_ne (off := 12) 76 (by decide +kernel) (by decide) (fun q => ?_) (fun q => ?_)
          · replace h := h.1 q
            refine o_iconst (n := -1) (v := (-1)) (by decide +kernel) (by decide) ?_
            exact f_iret (ty := .int) rfl rfl (by decide +kernel) rfl h
          · replace h := h.2 q
            refine o_aload_n (k := 0) 0 (by decide +kernel) rfl ?_
            refine o_iload_n (k := 1) 1 (by decide +kernel) rfl ?_
            refine o_iload_n (k := 2) 2 (by decide +kernel) rfl ?_
            refine f_callVI (μ' := mX12_warmOf) (i := 451) (vs := [.int v1, .int v2]) (by decide +kernel) lk_1850 (vok_mX12_warmOf) sh_345 rfl rfl rfl rfl (Nat.le_of_ble_eq_true rfl) ?_
            refine x_CI.mono h (fun t7 a8 h => ?_)
            refine o_goto (off := 4) 77 (by decide +kernel) (by decide) ?_
            exact f_iret (ty := .int) rfl rfl (by decide +kernel) rfl h
        · replace h := h.2 q
          refine o_aload_n (k := 0) 0 (by decide +kernel) rfl ?_
          refine f_getR (r := 346) (t := 12) (k := 0) (i := 7) (by decide +kernel) sh_345 rfl (by decide) lk_1361 (by simp [x_ty, tyX12]) (gr_12_0 sh_345) ?_
          refine o_bipush (n := 30) (v := 30) (by decide +kernel) (by decide) ?_
          refine o_bipush (n := 8) (v := 8) (by decide +kernel) (by decide) ?_
          refine o_iload_n (k := 1) 1 (by decide +kernel) rfl ?_
          refine o_imul (by decide +kernel) ?_
          refine o_iadd (by decide +kernel) ?_
          refine o_iload_n (k := 2) 2 (by decide +kernel) rfl ?_
          refine o_iadd (by decide +kernel) ?_
          obtain ⟨hi, h⟩ := h
          refine f_iald (by decide +kernel) sh_346 hi rfl ?_
          refine o_goto (off := 18) 77 (by decide +kernel) (by decide) ?_
          exact f_iret (ty := .int) rfl rfl (by decide +kernel) rfl h
      · replace h := h.2 q
        refine o_aload_n (k := 0) 0 (by decide +kernel) rfl ?_
        refine f_getR (r := 369) (t := 12) (k := 40) (i := 87) (by decide +kernel) sh_345 rfl (by decide) lk_1401 (by simp [x_ty, tyX12]) (gr_12_40 sh_345) ?_
        refine o_bipush (n := 8) (v := 8) (by decide +kernel) (by decide) ?_
        refine o_iload_n (k := 1) 1 (by decide +kernel) rfl ?_
        refine o_imul (by decide +kernel) ?_
        refine o_iload_n (k := 2) 2 (by decide +kernel) rfl ?_
        refine o_iadd (by decide +kernel) ?_
        obtain ⟨hi, h⟩ := h
        refine f_iald (by decide +kernel) sh_369 hi rfl ?_
        refine o_goto (off := 40) 77 (by decide +kernel) (by decide) ?_
        exact f_iret (ty := .int) rfl rfl (by decide +kernel) rfl h
    · replace h := h.2 q
      refine o_iconst (n := -1) (v := (-1)) (by decide +kernel) (by decide) ?_
      exact f_iret (ty := .int) rfl rfl (by decide +kernel) rfl h
set_option maxRecDepth 20000 in
theorem e_X12_barrow {d : Nat} {K : x_T → Int32 → Prop} {v1 : Int32} {τ : x_T} (h : x_CV d mX12_laysNow [.ref 345] τ (fun t1 => x_CI d mX12_in [.int v1, .int 0, .int 4] t1 (fun t3 a4 => (a4 = 0 → (¬ v1 = 5 → K t3 (-2)) ∧ (v1 = 5 → (¬ t3.1 370 2 = 0 → x_CI d mX12_wearsNow [.ref 345] t3 (fun t5 a6 => K t5 a6)) ∧ (t3.1 370 2 = 0 → K t3 0))) ∧ (¬ a4 = 0 → vp_in v1 114 ∧ (K t3 (t3.1 370 v1.toNatClampNeg)))))) : x_CI (d + 1) mX12_barrow [.ref 345, .int v1] τ K := by
  refine x_CI_of (by decide) (Nat.le_of_ble_eq_true rfl) ?_
  show x_WI (d + 1) mX12_barrow K 0 [(0, .ref 345), (1, .int v1)] [] τ
  refine o_aload_n (k := 0) 0 (by decide +kernel) rfl ?_
  refine f_callVV (μ' := mX12_laysNow) (i := 396) (vs := []) (by decide +kernel) lk_1704 (vok_mX12_laysNow) sh_345 rfl rfl rfl rfl (Nat.le_of_ble_eq_true rfl) ?_
  refine x_CV.mono h (fun t1 h => ?_)
  refine o_iload_n (k := 1) 1 (by decide +kernel) rfl ?_
  refine o_iconst (n := 0) (v := 0) (by decide +kernel) (by decide) ?_
  refine o_iconst (n := 4) (v := 4) (by decide +kernel) (by decide) ?_
  refine f_callSI (μ' := mX12_in) (i := 113) (vs := [.int v1, .int 0, .int 4]) (by decide +kernel) lk_1508 (cok_mX12_in) rfl (stt_mX12_in) rfl rfl (Nat.le_of_ble_eq_true rfl) ?_
  refine x_CI.mono h (fun t3 a4 h => ?_)
  refine o_if_eq (off := 12) 22 (by decide +kernel) (by decide) (fun q => ?_) (fun q => ?_)
  · replace h := h.1 q
    refine o_iload_n (k := 1) 1 (by decide +kernel) rfl ?_
    refine o_iconst (n := 5) (v := 5) (by decide +kernel) (by decide) ?_
    refine o_icmp_ne (off := 23) 47 (by decide +kernel) (by decide) (fun q => ?_) (fun q => ?_)
    · replace h := h.1 q
      refine o_bipush (n := -2) (v := (-2)) (by decide +kernel) (by decide) ?_
      exact f_iret (ty := .int) rfl rfl (by decide +kernel) rfl h
    · replace h := h.2 q
      refine o_aload_n (k := 0) 0 (by decide +kernel) rfl ?_
      refine f_getR (r := 370) (t := 12) (k := 41) (i := 90) (by decide +kernel) sh_345 rfl (by decide) lk_1402 (by simp [x_ty, tyX12]) (gr_12_41 sh_345) ?_
      refine o_iconst (n := 2) (v := 2) (by decide +kernel) (by decide) ?_
      refine f_iald (k := 2) (by decide +kernel) sh_370 (by unfold vp_in; decide) (by decide) ?_
      refine o_if_ne (off := 7) 40 (by decide +kernel) (by decide) (fun q => ?_) (fun q => ?_)
      · replace h := h.1 q
        refine o_aload_n (k := 0) 0 (by decide +kernel) rfl ?_
        refine f_callVI (μ' := mX12_wearsNow) (i := 384) (vs := []) (by decide +kernel) lk_1789 (vok_mX12_wearsNow) sh_345 rfl rfl rfl rfl (Nat.le_of_ble_eq_true rfl) ?_
        refine x_CI.mono h (fun t5 a6 h => ?_)
        refine o_goto (off := 5) 49 (by decide +kernel) (by decide) ?_
        exact f_iret (ty := .int) rfl rfl (by decide +kernel) rfl h
      · replace h := h.2 q
        refine o_iconst (n := 0) (v := 0) (by decide +kernel) (by decide) ?_
        refine o_goto (off := 12) 49 (by decide +kernel) (by decide) ?_
        exact f_iret (ty := .int) rfl rfl (by decide +kernel) rfl h
  · replace h := h.2 q
    refine o_aload_n (k := 0) 0 (by decide +kernel) rfl ?_
    refine f_getR (r := 370) (t := 12) (k := 41) (i := 90) (by decide +kernel) sh_345 rfl (by decide) lk_1402 (by simp [x_ty, tyX12]) (gr_12_41 sh_345) ?_
    refine o_iload_n (k := 1) 1 (by decide +kernel) rfl ?_
    obtain ⟨hi, h⟩ := h
    refine f_iald (by decide +kernel) sh_370 hi rfl ?_
    refine o_goto (off := 30) 49 (by decide +kernel) (by decide) ?_
    exact f_iret (ty := .int) rfl rfl (by decide +kernel) rfl h
set_option maxRecDepth 20000 in
theorem e_X12_hard {d : Nat} {K : x_T → Int32 → Prop} {v1 : Int32} {v2 : Int32} {v3 : Int32} {τ : x_T} (h : x_CI d mX12_isHouse [.ref 345, .int v1] τ (fun t1 a2 => (a2 = 0 → K t1 (-1)) ∧ (¬ a2 = 0 → x_CI d mX12_isHouse [.ref 345, .int v2] t1 (fun t3 a4 => (a4 = 0 → K t3 (-1)) ∧ (¬ a4 = 0 → x_CI d mX12_in [.int v3, .int 0, .int ((t3.1 346 1) - 1)] t3 (fun t5 a6 => (a6 = 0 → K t5 (-1)) ∧ (¬ a6 = 0 → vp_in ((30 + (8 * v1)) + v2) 3670 ∧ ((¬ t5.1 346 ((30 + (8 * v1)) + v2).toNatClampNeg = 0 → x_CV d mX12_laysNow [.ref 345] t5 (fun t7 => x_CI d mX12_hardOf [.ref 345, .int v1, .int v2, .int v3] t7 (fun t9 a10 => K t9 a10))) ∧ (t5.1 346 ((30 + (8 * v1)) + v2).toNatClampNeg = 0 → K t5 (-1)))))))))) : x_CI (d + 1) mX12_hard [.ref 345, .int v1, .int v2, .int v3] τ K := by
  refine x_CI_of (by decide) (Nat.le_of_ble_eq_true rfl) ?_
  show x_WI (d + 1) mX12_hard K 0 [(0, .ref 345), (1, .int v1), (2, .int v2), (3, .int v3)] [] τ
  refine o_aload_n (k := 0) 0 (by decide +kernel) rfl ?_
  refine o_iload_n (k := 1) 1 (by decide +kernel) rfl ?_
  refine f_callVI (μ' := mX12_isHouse) (i := 117) (vs := [.int v1]) (by decide +kernel) lk_1515 (vok_mX12_isHouse) sh_345 rfl rfl rfl rfl (Nat.le_of_ble_eq_true rfl) ?_
  refine x_CI.mono h (fun t1 a2 h => ?_)
  refine o_if_eq (off := 44) 49 (by decide +kernel) (by decide) (fun q => ?_) (fun q => ?_)
  · replace h := h.1 q
    refine o_iconst (n := -1) (v := (-1)) (by decide +kernel) (by decide) ?_
    exact f_iret (ty := .int) rfl rfl (by decide +kernel) rfl h
  · replace h := h.2 q
    refine o_aload_n (k := 0) 0 (by decide +kernel) rfl ?_
    refine o_iload_n (k := 2) 2 (by decide +kernel) rfl ?_
    refine f_callVI (μ' := mX12_isHouse) (i := 117) (vs := [.int v2]) (by decide +kernel) lk_1515 (vok_mX12_isHouse) sh_345 rfl rfl rfl rfl (Nat.le_of_ble_eq_true rfl) ?_
    refine x_CI.mono h (fun t3 a4 h => ?_)
    refine o_if_eq (off := 36) 49 (by decide +kernel) (by decide) (fun q => ?_) (fun q => ?_)
    · replace h := h.1 q
      refine o_iconst (n := -1) (v := (-1)) (by decide +kernel) (by decide) ?_
      exact f_iret (ty := .int) rfl rfl (by decide +kernel) rfl h
    · replace h := h.2 q
      refine o_iload_n (k := 3) 3 (by decide +kernel) rfl ?_
      refine o_iconst (n := 0) (v := 0) (by decide +kernel) (by decide) ?_
      refine o_aload_n (k := 0) 0 (by decide +kernel) rfl ?_
      refine f_getR (r := 346) (t := 12) (k := 0) (i := 7) (by decide +kernel) sh_345 rfl (by decide) lk_1361 (by simp [x_ty, tyX12]) (gr_12_0 sh_345) ?_
      refine o_iconst (n := 1) (v := 1) (by decide +kernel) (by decide) ?_
      refine f_iald (k := 1) (by decide +kernel) sh_346 (by unfold vp_in; decide) (by decide) ?_
      refine o_iconst (n := 1) (v := 1) (by decide +kernel) (by decide) ?_
      refine o_isub (by decide +kernel) ?_
      refine f_callSI (μ' := mX12_in) (i := 113) (vs := [.int v3, .int 0, .int ((t3.1 346 1) - 1)]) (by decide +kernel) lk_1508 (cok_mX12_in) rfl (stt_mX12_in) rfl rfl (Nat.le_of_ble_eq_true rfl) ?_
      refine x_CI.mono h (fun t5 a6 h => ?_)
      refine o_if_eq (off := 20) 49 (by decide +kernel) (by decide) (fun q => ?_) (fun q => ?_)
      · replace h := h.1 q
        refine o_iconst (n := -1) (v := (-1)) (by decide +kernel) (by decide) ?_
        exact f_iret (ty := .int) rfl rfl (by decide +kernel) rfl h
      · replace h := h.2 q
        refine o_aload_n (k := 0) 0 (by decide +kernel) rfl ?_
        refine f_getR (r := 346) (t := 12) (k := 0) (i := 7) (by decide +kernel) sh_345 rfl (by decide) lk_1361 (by simp [x_ty, tyX12]) (gr_12_0 sh_345) ?_
        refine o_bipush (n := 30) (v := 30) (by decide +kernel) (by decide) ?_
        refine o_bipush (n := 8) (v := 8) (by decide +kernel) (by decide) ?_
        refine o_iload_n (k := 1) 1 (by decide +kernel) rfl ?_
        refine o_imul (by decide +kernel) ?_
        refine o_iadd (by decide +kernel) ?_
        refine o_iload_n (k := 2) 2 (by decide +kernel) rfl ?_
        refine o_iadd (by decide +kernel) ?_
        obtain ⟨hi, h⟩ := h
        refine f_iald (by decide +kernel) sh_346 hi rfl ?_
        refine o_if_ne (off := 5) 51 (by decide +kernel) (by decide) (fun q => ?_) (fun q => ?_)
        · replace h := h.1 q
          refine o_aload_n (k := 0) 0 (by decide +kernel) rfl ?_
          refine f_callVV (μ' := mX12_laysNow) (i := 396) (vs := []) (by decide +kernel) lk_1704 (vok_mX12_laysNow) sh_345 rfl rfl rfl rfl (Nat.le_of_ble_eq_true rfl) ?_
          refine x_CV.mono h (fun t7 h => ?_)
          refine o_aload_n (k := 0) 0 (by decide +kernel) rfl ?_
          refine o_iload_n (k := 1) 1 (by decide +kernel) rfl ?_
          refine o_iload_n (k := 2) 2 (by decide +kernel) rfl ?_
          refine o_iload_n (k := 3) 3 (by decide +kernel) rfl ?_
          refine f_callVI (μ' := mX12_hardOf) (i := 378) (vs := [.int v1, .int v2, .int v3]) (by decide +kernel) lk_1724 (vok_mX12_hardOf) sh_345 rfl rfl rfl rfl (Nat.le_of_ble_eq_true rfl) ?_
          refine x_CI.mono h (fun t9 a10 h => ?_)
          exact f_iret (ty := .int) rfl rfl (by decide +kernel) rfl h
        · replace h := h.2 q
          refine o_iconst (n := -1) (v := (-1)) (by decide +kernel) (by decide) ?_
          exact f_iret (ty := .int) rfl rfl (by decide +kernel) rfl h
set_option maxRecDepth 20000 in
theorem e_X12_book {d : Nat} {K : x_T → Int32 → Prop} {v1 : Int32} {v2 : Int32} {τ : x_T} (h : (¬ v1 = (-1) → x_CI d mX12_in [.int v1, .int 0, .int ((τ.1 346 153) - 1)] τ (fun t1 a2 => (a2 = 0 → K t1 (-2)) ∧ (¬ a2 = 0 → x_CI d mX12_in [.int v2, .int 0, .int 2] t1 (fun t3 a4 => (a4 = 0 → K t3 (-2)) ∧ (¬ a4 = 0 → vp_in ((154 + (3 * v1)) + v2) 3670 ∧ (K t3 (t3.1 346 ((154 + (3 * v1)) + v2).toNatClampNeg))))))) ∧ (v1 = (-1) → K τ (τ.1 346 153))) : x_CI (d + 1) mX12_book [.ref 345, .int v1, .int v2] τ K := by
  refine x_CI_of (by decide) (Nat.le_of_ble_eq_true rfl) ?_
  show x_WI (d + 1) mX12_book K 0 [(0, .ref 345), (1, .int v1), (2, .int v2)] [] τ
  refine o_iload_n (k := 1) 1 (by decide +kernel) rfl ?_
  refine o_iconst (n := -1) (v := (-1)) (by decide +kernel) (by decide) ?_
  refine o_icmp_ne (off := 12) 14 (by decide +kernel) (by decide) (fun q => ?_) (fun q => ?_)
  · replace h := h.1 q
    refine o_iload_n (k := 1) 1 (by decide +kernel) rfl ?_
    refine o_iconst (n := 0) (v := 0) (by decide +kernel) (by decide) ?_
    refine o_aload_n (k := 0) 0 (by decide +kernel) rfl ?_
    refine f_getR (r := 346) (t := 12) (k := 0) (i := 7) (by decide +kernel) sh_345 rfl (by decide) lk_1361 (by simp [x_ty, tyX12]) (gr_12_0 sh_345) ?_
    refine o_sipush (n := 153) (v := 153) (by decide +kernel) (by decide) ?_
    refine f_iald (k := 153) (by decide +kernel) sh_346 (by unfold vp_in; decide) (by decide) ?_
    refine o_iconst (n := 1) (v := 1) (by decide +kernel) (by decide) ?_
    refine o_isub (by decide +kernel) ?_
    refine f_callSI (μ' := mX12_in) (i := 113) (vs := [.int v1, .int 0, .int ((τ.1 346 153) - 1)]) (by decide +kernel) lk_1508 (cok_mX12_in) rfl (stt_mX12_in) rfl rfl (Nat.le_of_ble_eq_true rfl) ?_
    refine x_CI.mono h (fun t1 a2 h => ?_)
    refine o_if_eq (off := 29) 58 (by decide +kernel) (by decide) (fun q => ?_) (fun q => ?_)
    · replace h := h.1 q
      refine o_bipush (n := -2) (v := (-2)) (by decide +kernel) (by decide) ?_
      exact f_iret (ty := .int) rfl rfl (by decide +kernel) rfl h
    · replace h := h.2 q
      refine o_iload_n (k := 2) 2 (by decide +kernel) rfl ?_
      refine o_iconst (n := 0) (v := 0) (by decide +kernel) (by decide) ?_
      refine o_iconst (n := 2) (v := 2) (by decide +kernel) (by decide) ?_
      refine f_callSI (μ' := mX12_in) (i := 113) (vs := [.int v2, .int 0, .int 2]) (by decide +kernel) lk_1508 (cok_mX12_in) rfl (stt_mX12_in) rfl rfl (Nat.le_of_ble_eq_true rfl) ?_
      refine x_CI.mono h (fun t3 a4 h => ?_)
      refine o_if_eq (off := 20) 58 (by decide +kernel) (by decide) (fun q => ?_) (fun q => ?_)
      · replace h := h.1 q
        refine o_bipush (n := -2) (v := (-2)) (by decide +kernel) (by decide) ?_
        exact f_iret (ty := .int) rfl rfl (by decide +kernel) rfl h
      · replace h := h.2 q
        refine o_aload_n (k := 0) 0 (by decide +kernel) rfl ?_
        refine f_getR (r := 346) (t := 12) (k := 0) (i := 7) (by decide +kernel) sh_345 rfl (by decide) lk_1361 (by simp [x_ty, tyX12]) (gr_12_0 sh_345) ?_
        refine o_sipush (n := 154) (v := 154) (by decide +kernel) (by decide) ?_
        refine o_iconst (n := 3) (v := 3) (by decide +kernel) (by decide) ?_
        refine o_iload_n (k := 1) 1 (by decide +kernel) rfl ?_
        refine o_imul (by decide +kernel) ?_
        refine o_iadd (by decide +kernel) ?_
        refine o_iload_n (k := 2) 2 (by decide +kernel) rfl ?_
        refine o_iadd (by decide +kernel) ?_
        obtain ⟨hi, h⟩ := h
        refine f_iald (by decide +kernel) sh_346 hi rfl ?_
        refine o_goto (off := 5) 60 (by decide +kernel) (by decide) ?_
        exact f_iret (ty := .int) rfl rfl (by decide +kernel) rfl h
  · replace h := h.2 q
    refine o_aload_n (k := 0) 0 (by decide +kernel) rfl ?_
    refine f_getR (r := 346) (t := 12) (k := 0) (i := 7) (by decide +kernel) sh_345 rfl (by decide) lk_1361 (by simp [x_ty, tyX12]) (gr_12_0 sh_345) ?_
    refine o_sipush (n := 153) (v := 153) (by decide +kernel) (by decide) ?_
    refine f_iald (k := 153) (by decide +kernel) sh_346 (by unfold vp_in; decide) (by decide) ?_
    exact f_iret (ty := .int) rfl rfl (by decide +kernel) rfl h
set_option maxRecDepth 20000 in
theorem e_X12_foretold {d : Nat} {K : x_T → Int32 → Prop} {v1 : Int32} {v2 : Int32} {v3 : Int32} {τ : x_T} (h : x_CI d mX12_in [.int v1, .int 1, .int 60] τ (fun t1 a2 => (a2 = 0 → K t1 (-1000)) ∧ (¬ a2 = 0 → x_CI d mX12_isHouse [.ref 345, .int v2] t1 (fun t3 a4 => (a4 = 0 → K t3 (-1000)) ∧ (¬ a4 = 0 → x_CI d mX12_in [.int v3, .int 0, .int 2] t3 (fun t5 a6 => (¬ a6 = 0 → x_CV d mX12_laysNow [.ref 345] t5 (fun t7 => x_WI (d + 1) mX12_foretold K 38 [(0, .ref 345), (1, .int v1), (2, .int v2), (3, .int v3), (4, .int 0)] [] t7)) ∧ (a6 = 0 → K t5 (-1000)))))))) : x_CI (d + 1) mX12_foretold [.ref 345, .int v1, .int v2, .int v3] τ K := by
  refine x_CI_of (by decide) (Nat.le_of_ble_eq_true rfl) ?_
  show x_WI (d + 1) mX12_foretold K 0 [(0, .ref 345), (1, .int v1), (2, .int v2), (3, .int v3)] [] τ
  refine o_iload_n (k := 1) 1 (by decide +kernel) rfl ?_
  refine o_iconst (n := 1) (v := 1) (by decide +kernel) (by decide) ?_
  refine o_bipush (n := 60) (v := 60) (by decide +kernel) (by decide) ?_
  refine f_callSI (μ' := mX12_in) (i := 113) (vs := [.int v1, .int 1, .int 60]) (by decide +kernel) lk_1508 (cok_mX12_in) rfl (stt_mX12_in) rfl rfl (Nat.le_of_ble_eq_true rfl) ?_
  refine x_CI.mono h (fun t1 a2 h => ?_)
  refine o_if_eq (off := 20) 27 (by decide +kernel) (by decide) (fun q => ?_) (fun q => ?_)
  · replace h := h.1 q
    refine o_sipush (n := -1000) (v := (-1000)) (by decide +kernel) (by decide) ?_
    exact f_iret (ty := .int) rfl rfl (by decide +kernel) rfl h
  · replace h := h.2 q
    refine o_aload_n (k := 0) 0 (by decide +kernel) rfl ?_
    refine o_iload_n (k := 2) 2 (by decide +kernel) rfl ?_
    refine f_callVI (μ' := mX12_isHouse) (i := 117) (vs := [.int v2]) (by decide +kernel) lk_1515 (vok_mX12_isHouse) sh_345 rfl rfl rfl rfl (Nat.le_of_ble_eq_true rfl) ?_
    refine x_CI.mono h (fun t3 a4 h => ?_)
    refine o_if_eq (off := 12) 27 (by decide +kernel) (by decide) (fun q => ?_) (fun q => ?_)
    · replace h := h.1 q
      refine o_sipush (n := -1000) (v := (-1000)) (by decide +kernel) (by decide) ?_
      exact f_iret (ty := .int) rfl rfl (by decide +kernel) rfl h
    · replace h := h.2 q
      refine o_iload_n (k := 3) 3 (by decide +kernel) rfl ?_
      refine o_iconst (n := 0) (v := 0) (by decide +kernel) (by decide) ?_
      refine o_iconst (n := 2) (v := 2) (by decide +kernel) (by decide) ?_
      refine f_callSI (μ' := mX12_in) (i := 113) (vs := [.int v3, .int 0, .int 2]) (by decide +kernel) lk_1508 (cok_mX12_in) rfl (stt_mX12_in) rfl rfl (Nat.le_of_ble_eq_true rfl) ?_
      refine x_CI.mono h (fun t5 a6 h => ?_)
      refine o_if_ne (off := 7) 31 (by decide +kernel) (by decide) (fun q => ?_) (fun q => ?_)
      · replace h := h.1 q
        refine o_aload_n (k := 0) 0 (by decide +kernel) rfl ?_
        refine f_callVV (μ' := mX12_laysNow) (i := 396) (vs := []) (by decide +kernel) lk_1704 (vok_mX12_laysNow) sh_345 rfl rfl rfl rfl (Nat.le_of_ble_eq_true rfl) ?_
        refine x_CV.mono h (fun t7 h => ?_)
        refine o_iconst (n := 0) (v := 0) (by decide +kernel) (by decide) ?_
        refine o_istore (k := 4) (L' := [(4, .int 0), (0, .ref 345), (1, .int v1), (2, .int v2), (3, .int v3)]) (by decide +kernel) (by decide) rfl ?_
        refine o_sub [1, 2, 3, 4, 0] rfl ?_
        exact h
      · replace h := h.2 q
        refine o_sipush (n := -1000) (v := (-1000)) (by decide +kernel) (by decide) ?_
        exact f_iret (ty := .int) rfl rfl (by decide +kernel) rfl h
set_option maxRecDepth 20000 in
theorem k_X12_foretold_38 {d : Nat} {K : x_T → Int32 → Prop} {v1 : Int32} {v2 : Int32} {v3 : Int32} {v4 : Int32} {τ : x_T} (h : (v1 ≤ v4 → x_WI (d + 1) mX12_foretold K 63 [(0, .ref 345), (2, .int v2), (3, .int v3)] [] τ) ∧ (¬ v1 ≤ v4 → x_CI d mX12_canPass [.ref 345] τ (fun t1 a2 => (a2 = 0 → x_WI (d + 1) mX12_foretold K 63 [(0, .ref 345), (2, .int v2), (3, .int v3)] [] t1) ∧ (¬ a2 = 0 → x_CI d mX12_minutePasses [.ref 345] t1 (fun t3 a4 => ∀ y5, y5 = v4 + 1 → (x_WI (d + 1) mX12_foretold K 38 [(0, .ref 345), (1, .int v1), (2, .int v2), (3, .int v3), (4, .int y5)] [] t3)))))) : x_WI (d + 1) mX12_foretold K 38 [(0, .ref 345), (1, .int v1), (2, .int v2), (3, .int v3), (4, .int v4)] [] τ := by
  refine o_iload (k := 4) 4 (by decide +kernel) rfl ?_
  refine o_iload_n (k := 1) 1 (by decide +kernel) rfl ?_
  refine o_icmp_ge (off := 22) 63 (by decide +kernel) (by decide) (fun q => ?_) (fun q => ?_)
  · replace h := h.1 q
    refine o_sub [0, 2, 3] rfl ?_
    exact h
  · replace h := h.2 q
    refine o_aload_n (k := 0) 0 (by decide +kernel) rfl ?_
    refine f_callVI (μ' := mX12_canPass) (i := 420) (vs := []) (by decide +kernel) lk_1823 (vok_mX12_canPass) sh_345 rfl rfl rfl rfl (Nat.le_of_ble_eq_true rfl) ?_
    refine x_CI.mono h (fun t1 a2 h => ?_)
    refine o_if_eq (off := 15) 63 (by decide +kernel) (by decide) (fun q => ?_) (fun q => ?_)
    · replace h := h.1 q
      refine o_sub [0, 2, 3] rfl ?_
      exact h
    · replace h := h.2 q
      refine o_aload_n (k := 0) 0 (by decide +kernel) rfl ?_
      refine f_callVI (μ' := mX12_minutePasses) (i := 414) (vs := []) (by decide +kernel) lk_1781 (vok_mX12_minutePasses) sh_345 rfl rfl rfl rfl (Nat.le_of_ble_eq_true rfl) ?_
      refine x_CI.mono h (fun t3 a4 h => ?_)
      refine o_istore (k := 5) (L' := [(5, .int a4), (0, .ref 345), (1, .int v1), (2, .int v2), (3, .int v3), (4, .int v4)]) (by decide +kernel) (by decide) rfl ?_
      obtain ⟨y5, ey5⟩ : ∃ y : Int32, y = v4 + 1 := ⟨_, rfl⟩
      replace h := h y5 ey5
      refine o_iinc (i := 4) (n := 1) (v := y5) (L' := [(4, .int y5), (5, .int a4), (0, .ref 345), (1, .int v1), (2, .int v2), (3, .int v3)]) 5 (by decide +kernel) rfl (by rw [ey5]; rfl) (by decide) rfl ?_
      refine o_goto (off := -22) 38 (by decide +kernel) (by decide) ?_
      refine o_sub [2, 3, 4, 5, 0] rfl ?_
      exact h
set_option maxRecDepth 20000 in
theorem k_X12_foretold_63 {d : Nat} {K : x_T → Int32 → Prop} {v2 : Int32} {v3 : Int32} {τ : x_T} (h : (¬ v3 = 0 → (¬ v3 = 1 → x_CI d mX12_hourAt [.ref 345, .int v2, .int (τ.1 370 0)] τ (fun t1 a2 => K t1 a2)) ∧ (v3 = 1 → vp_in (15 + v2) 114 ∧ (K τ (τ.1 370 (15 + v2).toNatClampNeg)))) ∧ (v3 = 0 → vp_in (7 + v2) 114 ∧ (K τ (τ.1 370 (7 + v2).toNatClampNeg)))) : x_WI (d + 1) mX12_foretold K 63 [(0, .ref 345), (2, .int v2), (3, .int v3)] [] τ := by
  refine o_iload_n (k := 3) 2 (by decide +kernel) rfl ?_
  refine o_if_ne (off := 15) 79 (by decide +kernel) (by decide) (fun q => ?_) (fun q => ?_)
  · replace h := h.1 q
    refine o_iload_n (k := 3) 2 (by decide +kernel) rfl ?_
    refine o_iconst (n := 1) (v := 1) (by decide +kernel) (by decide) ?_
    refine o_icmp_ne (off := 15) 96 (by decide +kernel) (by decide) (fun q => ?_) (fun q => ?_)
    · replace h := h.1 q
      refine o_aload_n (k := 0) 0 (by decide +kernel) rfl ?_
      refine o_iload_n (k := 2) 1 (by decide +kernel) rfl ?_
      refine o_aload_n (k := 0) 0 (by decide +kernel) rfl ?_
      refine f_getR (r := 370) (t := 12) (k := 41) (i := 90) (by decide +kernel) sh_345 rfl (by decide) lk_1402 (by simp [x_ty, tyX12]) (gr_12_41 sh_345) ?_
      refine o_iconst (n := 0) (v := 0) (by decide +kernel) (by decide) ?_
      refine f_iald (k := 0) (by decide +kernel) sh_370 (by unfold vp_in; decide) (by decide) ?_
      refine f_callVI (μ' := mX12_hourAt) (i := 372) (vs := [.int v2, .int (τ.1 370 0)]) (by decide +kernel) lk_1797 (vok_mX12_hourAt) sh_345 rfl rfl rfl rfl (Nat.le_of_ble_eq_true rfl) ?_
      refine x_CI.mono h (fun t1 a2 h => ?_)
      exact f_iret (ty := .int) rfl rfl (by decide +kernel) rfl h
    · replace h := h.2 q
      refine o_aload_n (k := 0) 0 (by decide +kernel) rfl ?_
      refine f_getR (r := 370) (t := 12) (k := 41) (i := 90) (by decide +kernel) sh_345 rfl (by decide) lk_1402 (by simp [x_ty, tyX12]) (gr_12_41 sh_345) ?_
      refine o_bipush (n := 15) (v := 15) (by decide +kernel) (by decide) ?_
      refine o_iload_n (k := 2) 1 (by decide +kernel) rfl ?_
      refine o_iadd (by decide +kernel) ?_
      obtain ⟨hi, h⟩ := h
      refine f_iald (by decide +kernel) sh_370 hi rfl ?_
      refine o_goto (off := 14) 107 (by decide +kernel) (by decide) ?_
      exact f_iret (ty := .int) rfl rfl (by decide +kernel) rfl h
  · replace h := h.2 q
    refine o_aload_n (k := 0) 0 (by decide +kernel) rfl ?_
    refine f_getR (r := 370) (t := 12) (k := 41) (i := 90) (by decide +kernel) sh_345 rfl (by decide) lk_1402 (by simp [x_ty, tyX12]) (gr_12_41 sh_345) ?_
    refine o_bipush (n := 7) (v := 7) (by decide +kernel) (by decide) ?_
    refine o_iload_n (k := 2) 1 (by decide +kernel) rfl ?_
    refine o_iadd (by decide +kernel) ?_
    obtain ⟨hi, h⟩ := h
    refine f_iald (by decide +kernel) sh_370 hi rfl ?_
    refine o_goto (off := 31) 107 (by decide +kernel) (by decide) ?_
    exact f_iret (ty := .int) rfl rfl (by decide +kernel) rfl h
set_option maxRecDepth 20000 in
theorem e_X12_arrives {d : Nat} {K : x_T → Int32 → Prop}  {τ : x_T} (h : x_CV d mX12_laysNow [.ref 345] τ (fun t1 => (¬ t1.1 370 2 = 0 → x_WI (d + 1) mX12_arrives K 17 [(0, .ref 345), (1, .int 1)] [] t1) ∧ (t1.1 370 2 = 0 → K t1 (-1)))) : x_CI (d + 1) mX12_arrives [.ref 345] τ K := by
  refine x_CI_of (by decide) (Nat.le_of_ble_eq_true rfl) ?_
  show x_WI (d + 1) mX12_arrives K 0 [(0, .ref 345)] [] τ
  refine o_aload_n (k := 0) 0 (by decide +kernel) rfl ?_
  refine f_callVV (μ' := mX12_laysNow) (i := 396) (vs := []) (by decide +kernel) lk_1704 (vok_mX12_laysNow) sh_345 rfl rfl rfl rfl (Nat.le_of_ble_eq_true rfl) ?_
  refine x_CV.mono h (fun t1 h => ?_)
  refine o_aload_n (k := 0) 0 (by decide +kernel) rfl ?_
  refine f_getR (r := 370) (t := 12) (k := 41) (i := 90) (by decide +kernel) sh_345 rfl (by decide) lk_1402 (by simp [x_ty, tyX12]) (gr_12_41 sh_345) ?_
  refine o_iconst (n := 2) (v := 2) (by decide +kernel) (by decide) ?_
  refine f_iald (k := 2) (by decide +kernel) sh_370 (by unfold vp_in; decide) (by decide) ?_
  refine o_if_ne (off := 5) 15 (by decide +kernel) (by decide) (fun q => ?_) (fun q => ?_)
  · replace h := h.1 q
    refine o_iconst (n := 1) (v := 1) (by decide +kernel) (by decide) ?_
    refine o_istore_n (k := 1) (L' := [(1, .int 1), (0, .ref 345)]) (by decide +kernel) (by decide) rfl ?_
    refine o_sub [1, 0] rfl ?_
    exact h
  · replace h := h.2 q
    refine o_iconst (n := -1) (v := (-1)) (by decide +kernel) (by decide) ?_
    exact f_iret (ty := .int) rfl rfl (by decide +kernel) rfl h
set_option maxRecDepth 20000 in
theorem k_X12_arrives_17 {d : Nat} {K : x_T → Int32 → Prop} {v1 : Int32} {τ : x_T} (h : (61 ≤ v1 → K τ (-1)) ∧ (¬ 61 ≤ v1 → x_CI d mX12_canPass [.ref 345] τ (fun t1 a2 => (a2 = 0 → K t1 (-1)) ∧ (¬ a2 = 0 → x_CI d mX12_minutePasses [.ref 345] t1 (fun t3 a4 => (¬ t3.1 370 2 = 0 → ∀ y5, y5 = v1 + 1 → (x_WI (d + 1) mX12_arrives K 17 [(0, .ref 345), (1, .int y5)] [] t3)) ∧ (t3.1 370 2 = 0 → K t3 v1)))))) : x_WI (d + 1) mX12_arrives K 17 [(0, .ref 345), (1, .int v1)] [] τ := by
  refine o_iload_n (k := 1) 1 (by decide +kernel) rfl ?_
  refine o_bipush (n := 61) (v := 61) (by decide +kernel) (by decide) ?_
  refine o_icmp_ge (off := 32) 52 (by decide +kernel) (by decide) (fun q => ?_) (fun q => ?_)
  · replace h := h.1 q
    refine o_iconst (n := -1) (v := (-1)) (by decide +kernel) (by decide) ?_
    exact f_iret (ty := .int) rfl rfl (by decide +kernel) rfl h
  · replace h := h.2 q
    refine o_aload_n (k := 0) 0 (by decide +kernel) rfl ?_
    refine f_callVI (μ' := mX12_canPass) (i := 420) (vs := []) (by decide +kernel) lk_1823 (vok_mX12_canPass) sh_345 rfl rfl rfl rfl (Nat.le_of_ble_eq_true rfl) ?_
    refine x_CI.mono h (fun t1 a2 h => ?_)
    refine o_if_eq (off := 25) 52 (by decide +kernel) (by decide) (fun q => ?_) (fun q => ?_)
    · replace h := h.1 q
      refine o_iconst (n := -1) (v := (-1)) (by decide +kernel) (by decide) ?_
      exact f_iret (ty := .int) rfl rfl (by decide +kernel) rfl h
    · replace h := h.2 q
      refine o_aload_n (k := 0) 0 (by decide +kernel) rfl ?_
      refine f_callVI (μ' := mX12_minutePasses) (i := 414) (vs := []) (by decide +kernel) lk_1781 (vok_mX12_minutePasses) sh_345 rfl rfl rfl rfl (Nat.le_of_ble_eq_true rfl) ?_
      refine x_CI.mono h (fun t3 a4 h => ?_)
      refine o_istore_n (k := 2) (L' := [(2, .int a4), (0, .ref 345), (1, .int v1)]) (by decide +kernel) (by decide) rfl ?_
      refine o_aload_n (k := 0) 1 (by decide +kernel) rfl ?_
      refine f_getR (r := 370) (t := 12) (k := 41) (i := 90) (by decide +kernel) sh_345 rfl (by decide) lk_1402 (by simp [x_ty, tyX12]) (gr_12_41 sh_345) ?_
      refine o_iconst (n := 2) (v := 2) (by decide +kernel) (by decide) ?_
      refine f_iald (k := 2) (by decide +kernel) sh_370 (by unfold vp_in; decide) (by decide) ?_
      refine o_if_ne (off := 5) 46 (by decide +kernel) (by decide) (fun q => ?_) (fun q => ?_)
      · replace h := h.1 q
        obtain ⟨y5, ey5⟩ : ∃ y : Int32, y = v1 + 1 := ⟨_, rfl⟩
        replace h := h y5 ey5
        refine o_iinc (i := 1) (n := 1) (v := y5) (L' := [(1, .int y5), (2, .int a4), (0, .ref 345)]) 2 (by decide +kernel) rfl (by rw [ey5]; rfl) (by decide) rfl ?_
        refine o_goto (off := -32) 17 (by decide +kernel) (by decide) ?_
        refine o_sub [2, 0] rfl ?_
        exact h
      · replace h := h.2 q
        refine o_iload_n (k := 1) 2 (by decide +kernel) rfl ?_
        exact f_iret (ty := .int) rfl rfl (by decide +kernel) rfl h
set_option maxRecDepth 20000 in
theorem e_X12_want {d : Nat} {K : x_T → Int32 → Prop} {v1 : Int32} {v2 : Int32} {τ : x_T} (h : (¬ v1 = (-1) → x_CI d mX12_isHouse [.ref 345, .int v1] τ (fun t1 a2 => (a2 = 0 → K t1 (-2)) ∧ (¬ a2 = 0 → x_CI d mX12_in [.int v2, .int 0, .int 23] t1 (fun t3 a4 => (a4 = 0 → K t3 (-2)) ∧ (¬ a4 = 0 → (¬ t3.1 346 5 = 8 → vp_in (94 + (2 * (t3.1 346 5))) 3670 ∧ (∀ t5, t5 = x_w1 t3 346 ((94 + (2 * (t3.1 346 5))).toNatClampNeg) v1 → (vp_in ((94 + (2 * (t5.1 346 5))) + 1) 3670 ∧ (∀ t6, t6 = x_w1 t5 346 (((94 + (2 * (t5.1 346 5))) + 1).toNatClampNeg) v2 → (∀ t7, t7 = x_w1 t6 346 5 ((t6.1 346 5) + 1) → (K t7 (t7.1 346 5))))))) ∧ (t3.1 346 5 = 8 → K t3 (-2))))))) ∧ (v1 = (-1) → ∀ t8, t8 = x_w1 τ 346 5 0 → (K t8 0))) : x_CI (d + 1) mX12_want [.ref 345, .int v1, .int v2] τ K := by
  refine x_CI_of (by decide) (Nat.le_of_ble_eq_true rfl) ?_
  show x_WI (d + 1) mX12_want K 0 [(0, .ref 345), (1, .int v1), (2, .int v2)] [] τ
  refine o_iload_n (k := 1) 1 (by decide +kernel) rfl ?_
  refine o_iconst (n := -1) (v := (-1)) (by decide +kernel) (by decide) ?_
  refine o_icmp_ne (off := 12) 14 (by decide +kernel) (by decide) (fun q => ?_) (fun q => ?_)
  · replace h := h.1 q
    refine o_aload_n (k := 0) 0 (by decide +kernel) rfl ?_
    refine o_iload_n (k := 1) 1 (by decide +kernel) rfl ?_
    refine f_callVI (μ' := mX12_isHouse) (i := 117) (vs := [.int v1]) (by decide +kernel) lk_1515 (vok_mX12_isHouse) sh_345 rfl rfl rfl rfl (Nat.le_of_ble_eq_true rfl) ?_
    refine x_CI.mono h (fun t1 a2 h => ?_)
    refine o_if_eq (off := 24) 43 (by decide +kernel) (by decide) (fun q => ?_) (fun q => ?_)
    · replace h := h.1 q
      refine o_bipush (n := -2) (v := (-2)) (by decide +kernel) (by decide) ?_
      exact f_iret (ty := .int) rfl rfl (by decide +kernel) rfl h
    · replace h := h.2 q
      refine o_iload_n (k := 2) 2 (by decide +kernel) rfl ?_
      refine o_iconst (n := 0) (v := 0) (by decide +kernel) (by decide) ?_
      refine o_bipush (n := 23) (v := 23) (by decide +kernel) (by decide) ?_
      refine f_callSI (μ' := mX12_in) (i := 113) (vs := [.int v2, .int 0, .int 23]) (by decide +kernel) lk_1508 (cok_mX12_in) rfl (stt_mX12_in) rfl rfl (Nat.le_of_ble_eq_true rfl) ?_
      refine x_CI.mono h (fun t3 a4 h => ?_)
      refine o_if_eq (off := 14) 43 (by decide +kernel) (by decide) (fun q => ?_) (fun q => ?_)
      · replace h := h.1 q
        refine o_bipush (n := -2) (v := (-2)) (by decide +kernel) (by decide) ?_
        exact f_iret (ty := .int) rfl rfl (by decide +kernel) rfl h
      · replace h := h.2 q
        refine o_aload_n (k := 0) 0 (by decide +kernel) rfl ?_
        refine f_getR (r := 346) (t := 12) (k := 0) (i := 7) (by decide +kernel) sh_345 rfl (by decide) lk_1361 (by simp [x_ty, tyX12]) (gr_12_0 sh_345) ?_
        refine o_iconst (n := 5) (v := 5) (by decide +kernel) (by decide) ?_
        refine f_iald (k := 5) (by decide +kernel) sh_346 (by unfold vp_in; decide) (by decide) ?_
        refine o_bipush (n := 8) (v := 8) (by decide +kernel) (by decide) ?_
        refine o_icmp_ne (off := 6) 46 (by decide +kernel) (by decide) (fun q => ?_) (fun q => ?_)
        · replace h := h.1 q
          refine o_aload_n (k := 0) 0 (by decide +kernel) rfl ?_
          refine f_getR (r := 346) (t := 12) (k := 0) (i := 7) (by decide +kernel) sh_345 rfl (by decide) lk_1361 (by simp [x_ty, tyX12]) (gr_12_0 sh_345) ?_
          refine o_bipush (n := 94) (v := 94) (by decide +kernel) (by decide) ?_
          refine o_iconst (n := 2) (v := 2) (by decide +kernel) (by decide) ?_
          refine o_aload_n (k := 0) 0 (by decide +kernel) rfl ?_
          refine f_getR (r := 346) (t := 12) (k := 0) (i := 7) (by decide +kernel) sh_345 rfl (by decide) lk_1361 (by simp [x_ty, tyX12]) (gr_12_0 sh_345) ?_
          refine o_iconst (n := 5) (v := 5) (by decide +kernel) (by decide) ?_
          refine f_iald (k := 5) (by decide +kernel) sh_346 (by unfold vp_in; decide) (by decide) ?_
          refine o_imul (by decide +kernel) ?_
          refine o_iadd (by decide +kernel) ?_
          refine o_iload_n (k := 1) 1 (by decide +kernel) rfl ?_
          obtain ⟨hi, h⟩ := h
          refine f_iast (by decide +kernel) sh_346 hi rfl ?_
          refine f_name (fun t5 et5 => ?_)
          replace h := h t5 et5
          refine o_aload_n (k := 0) 0 (by decide +kernel) rfl ?_
          refine f_getR (r := 346) (t := 12) (k := 0) (i := 7) (by decide +kernel) sh_345 rfl (by decide) lk_1361 (by simp [x_ty, tyX12]) (gr_12_0 sh_345) ?_
          refine o_bipush (n := 94) (v := 94) (by decide +kernel) (by decide) ?_
          refine o_iconst (n := 2) (v := 2) (by decide +kernel) (by decide) ?_
          refine o_aload_n (k := 0) 0 (by decide +kernel) rfl ?_
          refine f_getR (r := 346) (t := 12) (k := 0) (i := 7) (by decide +kernel) sh_345 rfl (by decide) lk_1361 (by simp [x_ty, tyX12]) (gr_12_0 sh_345) ?_
          refine o_iconst (n := 5) (v := 5) (by decide +kernel) (by decide) ?_
          refine f_iald (k := 5) (by decide +kernel) sh_346 (by unfold vp_in; decide) (by decide) ?_
          refine o_imul (by decide +kernel) ?_
          refine o_iadd (by decide +kernel) ?_
          refine o_iconst (n := 1) (v := 1) (by decide +kernel) (by decide) ?_
          refine o_iadd (by decide +kernel) ?_
          refine o_iload_n (k := 2) 2 (by decide +kernel) rfl ?_
          obtain ⟨hi, h⟩ := h
          refine f_iast (by decide +kernel) sh_346 hi rfl ?_
          refine f_name (fun t6 et6 => ?_)
          replace h := h t6 et6
          refine o_aload_n (k := 0) 0 (by decide +kernel) rfl ?_
          refine f_getR (r := 346) (t := 12) (k := 0) (i := 7) (by decide +kernel) sh_345 rfl (by decide) lk_1361 (by simp [x_ty, tyX12]) (gr_12_0 sh_345) ?_
          refine o_iconst (n := 5) (v := 5) (by decide +kernel) (by decide) ?_
          refine o_dup2 (by decide +kernel) rfl rfl ?_
          refine f_iald (k := 5) (by decide +kernel) sh_346 (by unfold vp_in; decide) (by decide) ?_
          refine o_iconst (n := 1) (v := 1) (by decide +kernel) (by decide) ?_
          refine o_iadd (by decide +kernel) ?_
          refine f_iast (k := 5) (by decide +kernel) sh_346 (by unfold vp_in; decide) (by decide) ?_
          refine f_name (fun t7 et7 => ?_)
          replace h := h t7 et7
          refine o_aload_n (k := 0) 0 (by decide +kernel) rfl ?_
          refine f_getR (r := 346) (t := 12) (k := 0) (i := 7) (by decide +kernel) sh_345 rfl (by decide) lk_1361 (by simp [x_ty, tyX12]) (gr_12_0 sh_345) ?_
          refine o_iconst (n := 5) (v := 5) (by decide +kernel) (by decide) ?_
          refine f_iald (k := 5) (by decide +kernel) sh_346 (by unfold vp_in; decide) (by decide) ?_
          exact f_iret (ty := .int) rfl rfl (by decide +kernel) rfl h
        · replace h := h.2 q
          refine o_bipush (n := -2) (v := (-2)) (by decide +kernel) (by decide) ?_
          exact f_iret (ty := .int) rfl rfl (by decide +kernel) rfl h
  · replace h := h.2 q
    refine o_aload_n (k := 0) 0 (by decide +kernel) rfl ?_
    refine f_getR (r := 346) (t := 12) (k := 0) (i := 7) (by decide +kernel) sh_345 rfl (by decide) lk_1361 (by simp [x_ty, tyX12]) (gr_12_0 sh_345) ?_
    refine o_iconst (n := 5) (v := 5) (by decide +kernel) (by decide) ?_
    refine o_iconst (n := 0) (v := 0) (by decide +kernel) (by decide) ?_
    refine f_iast (k := 5) (by decide +kernel) sh_346 (by unfold vp_in; decide) (by decide) ?_
    refine f_name (fun t8 et8 => ?_)
    replace h := h t8 et8
    refine o_iconst (n := 0) (v := 0) (by decide +kernel) (by decide) ?_
    exact f_iret (ty := .int) rfl rfl (by decide +kernel) rfl h
set_option maxRecDepth 20000 in
theorem e_X12_isWanted {d : Nat} {K : x_T → Int32 → Prop} {v1 : Int32} {v2 : Int32} {τ : x_T} (h : vp_in (94 + (2 * v1)) 3670 ∧ (x_CI d mX12_hourAt [.ref 345, .int (τ.1 346 (94 + (2 * v1)).toNatClampNeg), .int v2] τ (fun t1 a2 => vp_in ((94 + (2 * v1)) + 1) 3670 ∧ ((¬ a2 = t1.1 346 ((94 + (2 * v1)) + 1).toNatClampNeg → K t1 0) ∧ (a2 = t1.1 346 ((94 + (2 * v1)) + 1).toNatClampNeg → K t1 1))))) : x_CI (d + 1) mX12_isWanted [.ref 345, .int v1, .int v2] τ K := by
  refine x_CI_of (by decide) (Nat.le_of_ble_eq_true rfl) ?_
  show x_WI (d + 1) mX12_isWanted K 0 [(0, .ref 345), (1, .int v1), (2, .int v2)] [] τ
  refine o_aload_n (k := 0) 0 (by decide +kernel) rfl ?_
  refine o_aload_n (k := 0) 0 (by decide +kernel) rfl ?_
  refine f_getR (r := 346) (t := 12) (k := 0) (i := 7) (by decide +kernel) sh_345 rfl (by decide) lk_1361 (by simp [x_ty, tyX12]) (gr_12_0 sh_345) ?_
  refine o_bipush (n := 94) (v := 94) (by decide +kernel) (by decide) ?_
  refine o_iconst (n := 2) (v := 2) (by decide +kernel) (by decide) ?_
  refine o_iload_n (k := 1) 1 (by decide +kernel) rfl ?_
  refine o_imul (by decide +kernel) ?_
  refine o_iadd (by decide +kernel) ?_
  obtain ⟨hi, h⟩ := h
  refine f_iald (by decide +kernel) sh_346 hi rfl ?_
  refine o_iload_n (k := 2) 2 (by decide +kernel) rfl ?_
  refine f_callVI (μ' := mX12_hourAt) (i := 372) (vs := [.int (τ.1 346 (94 + (2 * v1)).toNatClampNeg), .int v2]) (by decide +kernel) lk_1797 (vok_mX12_hourAt) sh_345 rfl rfl rfl rfl (Nat.le_of_ble_eq_true rfl) ?_
  refine x_CI.mono h (fun t1 a2 h => ?_)
  refine o_aload_n (k := 0) 0 (by decide +kernel) rfl ?_
  refine f_getR (r := 346) (t := 12) (k := 0) (i := 7) (by decide +kernel) sh_345 rfl (by decide) lk_1361 (by simp [x_ty, tyX12]) (gr_12_0 sh_345) ?_
  refine o_bipush (n := 94) (v := 94) (by decide +kernel) (by decide) ?_
  refine o_iconst (n := 2) (v := 2) (by decide +kernel) (by decide) ?_
  refine o_iload_n (k := 1) 1 (by decide +kernel) rfl ?_
  refine o_imul (by decide +kernel) ?_
  refine o_iadd (by decide +kernel) ?_
  refine o_iconst (n := 1) (v := 1) (by decide +kernel) (by decide) ?_
  refine o_iadd (by decide +kernel) ?_
  obtain ⟨hi, h⟩ := h
  refine f_iald (by decide +kernel) sh_346 hi rfl ?_
  refine o_icmp_ne (off := 7) 36 (by decide +kernel) (by decide) (fun q => ?_) (fun q => ?_)
  · replace h := h.1 q
    refine o_iconst (n := 0) (v := 0) (by decide +kernel) (by decide) ?_
    exact f_iret (ty := .boolean) rfl (by decide) (by decide +kernel) rfl h
  · replace h := h.2 q
    refine o_iconst (n := 1) (v := 1) (by decide +kernel) (by decide) ?_
    refine o_goto (off := 4) 37 (by decide +kernel) (by decide) ?_
    exact f_iret (ty := .boolean) rfl (by decide) (by decide +kernel) rfl h
set_option maxRecDepth 20000 in
theorem e_X12_fitting {d : Nat} {K : x_T → Int32 → Prop}  {τ : x_T} (h : x_CV d mX12_laysNow [.ref 345] τ (fun t1 => x_WI (d + 1) mX12_fitting K 8 [(0, .ref 345), (1, .int 0), (2, .int 0)] [] t1)) : x_CI (d + 1) mX12_fitting [.ref 345] τ K := by
  refine x_CI_of (by decide) (Nat.le_of_ble_eq_true rfl) ?_
  show x_WI (d + 1) mX12_fitting K 0 [(0, .ref 345)] [] τ
  refine o_aload_n (k := 0) 0 (by decide +kernel) rfl ?_
  refine f_callVV (μ' := mX12_laysNow) (i := 396) (vs := []) (by decide +kernel) lk_1704 (vok_mX12_laysNow) sh_345 rfl rfl rfl rfl (Nat.le_of_ble_eq_true rfl) ?_
  refine x_CV.mono h (fun t1 h => ?_)
  refine o_iconst (n := 0) (v := 0) (by decide +kernel) (by decide) ?_
  refine o_istore_n (k := 1) (L' := [(1, .int 0), (0, .ref 345)]) (by decide +kernel) (by decide) rfl ?_
  refine o_iconst (n := 0) (v := 0) (by decide +kernel) (by decide) ?_
  refine o_istore_n (k := 2) (L' := [(2, .int 0), (1, .int 0), (0, .ref 345)]) (by decide +kernel) (by decide) rfl ?_
  refine o_sub [2, 1, 0] rfl ?_
  exact h
set_option maxRecDepth 20000 in
theorem k_X12_fitting_8 {d : Nat} {K : x_T → Int32 → Prop} {v1 : Int32} {v2 : Int32} {τ : x_T} (h : (τ.1 346 0 ≤ v2 → K τ v1) ∧ (¬ τ.1 346 0 ≤ v2 → x_WI (d + 1) mX12_fitting K 23 [(0, .ref 345), (1, .int v1), (2, .int v2), (3, .int 1), (4, .int 0)] [] τ)) : x_WI (d + 1) mX12_fitting K 8 [(0, .ref 345), (1, .int v1), (2, .int v2)] [] τ := by
  refine o_iload_n (k := 2) 2 (by decide +kernel) rfl ?_
  refine o_aload_n (k := 0) 0 (by decide +kernel) rfl ?_
  refine f_getR (r := 346) (t := 12) (k := 0) (i := 7) (by decide +kernel) sh_345 rfl (by decide) lk_1361 (by simp [x_ty, tyX12]) (gr_12_0 sh_345) ?_
  refine o_iconst (n := 0) (v := 0) (by decide +kernel) (by decide) ?_
  refine f_iald (k := 0) (by decide +kernel) sh_346 (by unfold vp_in; decide) (by decide) ?_
  refine o_icmp_ge (off := 65) 80 (by decide +kernel) (by decide) (fun q => ?_) (fun q => ?_)
  · replace h := h.1 q
    refine o_iload_n (k := 1) 1 (by decide +kernel) rfl ?_
    exact f_iret (ty := .int) rfl rfl (by decide +kernel) rfl h
  · replace h := h.2 q
    refine o_iconst (n := 1) (v := 1) (by decide +kernel) (by decide) ?_
    refine o_istore_n (k := 3) (L' := [(3, .int 1), (0, .ref 345), (1, .int v1), (2, .int v2)]) (by decide +kernel) (by decide) rfl ?_
    refine o_iconst (n := 0) (v := 0) (by decide +kernel) (by decide) ?_
    refine o_istore (k := 4) (L' := [(4, .int 0), (3, .int 1), (0, .ref 345), (1, .int v1), (2, .int v2)]) (by decide +kernel) (by decide) rfl ?_
    refine o_sub [2, 3, 4, 1, 0] rfl ?_
    exact h
set_option maxRecDepth 20000 in
theorem k_X12_fitting_23 {d : Nat} {K : x_T → Int32 → Prop} {v1 : Int32} {v2 : Int32} {v3 : Int32} {v4 : Int32} {τ : x_T} (h : (τ.1 346 5 ≤ v4 → (v3 = 0 → x_WI (d + 1) mX12_fitting K 72 [(0, .ref 345), (2, .int v2)] [.int 0, .int v1] τ) ∧ (¬ v3 = 0 → x_WI (d + 1) mX12_fitting K 72 [(0, .ref 345), (2, .int v2)] [.int (1 <<< (v2 &&& 31)), .int v1] τ)) ∧ (¬ τ.1 346 5 ≤ v4 → (v3 = 0 → x_WI (d + 1) mX12_fitting K 52 [(0, .ref 345), (1, .int v1), (2, .int v2), (4, .int v4)] [] τ) ∧ (¬ v3 = 0 → x_CI d mX12_isWanted [.ref 345, .int v4, .int v2] τ (fun t1 a2 => (a2 = 0 → x_WI (d + 1) mX12_fitting K 52 [(0, .ref 345), (1, .int v1), (2, .int v2), (4, .int v4)] [] t1) ∧ (¬ a2 = 0 → x_WI (d + 1) mX12_fitting K 53 [(0, .ref 345), (1, .int v1), (2, .int v2), (4, .int v4)] [.int 1] t1))))) : x_WI (d + 1) mX12_fitting K 23 [(0, .ref 345), (1, .int v1), (2, .int v2), (3, .int v3), (4, .int v4)] [] τ := by
  refine o_iload (k := 4) 4 (by decide +kernel) rfl ?_
  refine o_aload_n (k := 0) 0 (by decide +kernel) rfl ?_
  refine f_getR (r := 346) (t := 12) (k := 0) (i := 7) (by decide +kernel) sh_345 rfl (by decide) lk_1361 (by simp [x_ty, tyX12]) (gr_12_0 sh_345) ?_
  refine o_iconst (n := 5) (v := 5) (by decide +kernel) (by decide) ?_
  refine f_iald (k := 5) (by decide +kernel) sh_346 (by unfold vp_in; decide) (by decide) ?_
  refine o_icmp_ge (off := 29) 60 (by decide +kernel) (by decide) (fun q => ?_) (fun q => ?_)
  · replace h := h.1 q
    refine o_iload_n (k := 1) 1 (by decide +kernel) rfl ?_
    refine o_iload_n (k := 3) 3 (by decide +kernel) rfl ?_
    refine o_if_eq (off := 9) 71 (by decide +kernel) (by decide) (fun q => ?_) (fun q => ?_)
    · replace h := h.1 q
      refine o_iconst (n := 0) (v := 0) (by decide +kernel) (by decide) ?_
      refine o_sub [0, 2] rfl ?_
      exact h
    · replace h := h.2 q
      refine o_iconst (n := 1) (v := 1) (by decide +kernel) (by decide) ?_
      refine o_iload_n (k := 2) 2 (by decide +kernel) rfl ?_
      refine o_ishl (by decide +kernel) ?_
      refine o_goto (off := 4) 72 (by decide +kernel) (by decide) ?_
      refine o_sub [0, 2] rfl ?_
      exact h
  · replace h := h.2 q
    refine o_iload_n (k := 3) 3 (by decide +kernel) rfl ?_
    refine o_if_eq (off := 17) 52 (by decide +kernel) (by decide) (fun q => ?_) (fun q => ?_)
    · replace h := h.1 q
      refine o_sub [0, 1, 2, 4] rfl ?_
      exact h
    · replace h := h.2 q
      refine o_aload_n (k := 0) 0 (by decide +kernel) rfl ?_
      refine o_iload (k := 4) 4 (by decide +kernel) rfl ?_
      refine o_iload_n (k := 2) 2 (by decide +kernel) rfl ?_
      refine f_callVI (μ' := mX12_isWanted) (i := 454) (vs := [.int v4, .int v2]) (by decide +kernel) lk_1882 (vok_mX12_isWanted) sh_345 rfl rfl rfl rfl (Nat.le_of_ble_eq_true rfl) ?_
      refine x_CI.mono h (fun t1 a2 h => ?_)
      refine o_if_eq (off := 7) 52 (by decide +kernel) (by decide) (fun q => ?_) (fun q => ?_)
      · replace h := h.1 q
        refine o_sub [0, 1, 2, 4] rfl ?_
        exact h
      · replace h := h.2 q
        refine o_iconst (n := 1) (v := 1) (by decide +kernel) (by decide) ?_
        refine o_goto (off := 4) 53 (by decide +kernel) (by decide) ?_
        refine o_sub [0, 1, 2, 4] rfl ?_
        exact h
set_option maxRecDepth 20000 in
theorem k_X12_fitting_52 {d : Nat} {K : x_T → Int32 → Prop} {v1 : Int32} {v2 : Int32} {v4 : Int32} {τ : x_T} (h : x_WI (d + 1) mX12_fitting K 53 [(0, .ref 345), (1, .int v1), (2, .int v2), (4, .int v4)] [.int 0] τ) : x_WI (d + 1) mX12_fitting K 52 [(0, .ref 345), (1, .int v1), (2, .int v2), (4, .int v4)] [] τ := by
  refine o_iconst (n := 0) (v := 0) (by decide +kernel) (by decide) ?_
  exact h
set_option maxRecDepth 20000 in
theorem k_X12_fitting_53 {d : Nat} {K : x_T → Int32 → Prop} {v1 : Int32} {v2 : Int32} {v4 : Int32} {s0 : Int32} {τ : x_T} (h : ∀ y1, y1 = v4 + 1 → (x_WI (d + 1) mX12_fitting K 23 [(0, .ref 345), (1, .int v1), (2, .int v2), (3, .int s0), (4, .int y1)] [] τ)) : x_WI (d + 1) mX12_fitting K 53 [(0, .ref 345), (1, .int v1), (2, .int v2), (4, .int v4)] [.int s0] τ := by
  refine o_istore_n (k := 3) (L' := [(3, .int s0), (0, .ref 345), (1, .int v1), (2, .int v2), (4, .int v4)]) (by decide +kernel) (by decide) rfl ?_
  obtain ⟨y1, ey1⟩ : ∃ y : Int32, y = v4 + 1 := ⟨_, rfl⟩
  replace h := h y1 ey1
  refine o_iinc (i := 4) (n := 1) (v := y1) (L' := [(4, .int y1), (3, .int s0), (0, .ref 345), (1, .int v1), (2, .int v2)]) 4 (by decide +kernel) rfl (by rw [ey1]; rfl) (by decide) rfl ?_
  refine o_goto (off := -34) 23 (by decide +kernel) (by decide) ?_
  refine o_sub [2, 3, 4, 1, 0] rfl ?_
  exact h
set_option maxRecDepth 20000 in
theorem k_X12_fitting_72 {d : Nat} {K : x_T → Int32 → Prop} {v2 : Int32} {s0 : Int32} {s1 : Int32} {τ : x_T} (h : ∀ y1, y1 = s1 ||| s0 → (∀ y2, y2 = v2 + 1 → (x_WI (d + 1) mX12_fitting K 8 [(0, .ref 345), (1, .int y1), (2, .int y2)] [] τ))) : x_WI (d + 1) mX12_fitting K 72 [(0, .ref 345), (2, .int v2)] [.int s0, .int s1] τ := by
  refine o_ior (by decide +kernel) ?_
  refine o_name (fun y1 ey1 => ?_)
  replace h := h y1 ey1
  refine o_istore_n (k := 1) (L' := [(1, .int y1), (0, .ref 345), (2, .int v2)]) (by decide +kernel) (by decide) rfl ?_
  obtain ⟨y2, ey2⟩ : ∃ y : Int32, y = v2 + 1 := ⟨_, rfl⟩
  replace h := h y2 ey2
  refine o_iinc (i := 2) (n := 1) (v := y2) (L' := [(2, .int y2), (1, .int y1), (0, .ref 345)]) 2 (by decide +kernel) rfl (by rw [ey2]; rfl) (by decide) rfl ?_
  refine o_goto (off := -69) 8 (by decide +kernel) (by decide) ?_
  refine o_sub [2, 1, 0] rfl ?_
  exact h
set_option maxRecDepth 20000 in
theorem e_X12_doneAt {d : Nat} {K : x_T → Int32 → Prop} {v1 : Int32} {v2 : Int32} {τ : x_T} (h : x_WI (d + 1) mX12_doneAt K 2 [(0, .ref 345), (1, .int v1), (3, .int v2)] [] τ) : x_CI (d + 1) mX12_doneAt [.ref 345, .int v1, .int v2] τ K := by
  refine x_CI_of (by decide) (Nat.le_of_ble_eq_true rfl) ?_
  show x_WI (d + 1) mX12_doneAt K 0 [(0, .ref 345), (1, .int v1), (2, .int v2)] [] τ
  refine o_iload_n (k := 2) 2 (by decide +kernel) rfl ?_
  refine o_istore_n (k := 3) (L' := [(3, .int v2), (0, .ref 345), (1, .int v1), (2, .int v2)]) (by decide +kernel) (by decide) rfl ?_
  refine o_sub [1, 2, 0] rfl ?_
  exact h
set_option maxRecDepth 20000 in
theorem k_X12_doneAt_2 {d : Nat} {K : x_T → Int32 → Prop} {v1 : Int32} {v3 : Int32} {τ : x_T} (h : (τ.1 346 5 ≤ v3 → K τ v3) ∧ (¬ τ.1 346 5 ≤ v3 → x_CI d mX12_isWanted [.ref 345, .int v3, .int v1] τ (fun t1 a2 => (a2 = 0 → K t1 v3) ∧ (¬ a2 = 0 → ∀ y3, y3 = v3 + 1 → (x_WI (d + 1) mX12_doneAt K 2 [(0, .ref 345), (1, .int v1), (3, .int y3)] [] t1))))) : x_WI (d + 1) mX12_doneAt K 2 [(0, .ref 345), (1, .int v1), (3, .int v3)] [] τ := by
  refine o_iload_n (k := 3) 2 (by decide +kernel) rfl ?_
  refine o_aload_n (k := 0) 0 (by decide +kernel) rfl ?_
  refine f_getR (r := 346) (t := 12) (k := 0) (i := 7) (by decide +kernel) sh_345 rfl (by decide) lk_1361 (by simp [x_ty, tyX12]) (gr_12_0 sh_345) ?_
  refine o_iconst (n := 5) (v := 5) (by decide +kernel) (by decide) ?_
  refine f_iald (k := 5) (by decide +kernel) sh_346 (by unfold vp_in; decide) (by decide) ?_
  refine o_icmp_ge (off := 18) 27 (by decide +kernel) (by decide) (fun q => ?_) (fun q => ?_)
  · replace h := h.1 q
    refine o_iload_n (k := 3) 2 (by decide +kernel) rfl ?_
    exact f_iret (ty := .int) rfl rfl (by decide +kernel) rfl h
  · replace h := h.2 q
    refine o_aload_n (k := 0) 0 (by decide +kernel) rfl ?_
    refine o_iload_n (k := 3) 2 (by decide +kernel) rfl ?_
    refine o_iload_n (k := 1) 1 (by decide +kernel) rfl ?_
    refine f_callVI (μ' := mX12_isWanted) (i := 454) (vs := [.int v3, .int v1]) (by decide +kernel) lk_1882 (vok_mX12_isWanted) sh_345 rfl rfl rfl rfl (Nat.le_of_ble_eq_true rfl) ?_
    refine x_CI.mono h (fun t1 a2 h => ?_)
    refine o_if_eq (off := 9) 27 (by decide +kernel) (by decide) (fun q => ?_) (fun q => ?_)
    · replace h := h.1 q
      refine o_iload_n (k := 3) 2 (by decide +kernel) rfl ?_
      exact f_iret (ty := .int) rfl rfl (by decide +kernel) rfl h
    · replace h := h.2 q
      obtain ⟨y3, ey3⟩ : ∃ y : Int32, y = v3 + 1 := ⟨_, rfl⟩
      replace h := h y3 ey3
      refine o_iinc (i := 3) (n := 1) (v := y3) (L' := [(3, .int y3), (0, .ref 345), (1, .int v1)]) 2 (by decide +kernel) rfl (by rw [ey3]; rfl) (by decide) rfl ?_
      refine o_goto (off := -22) 2 (by decide +kernel) (by decide) ?_
      refine o_sub [1, 2, 0] rfl ?_
      exact h
set_option maxRecDepth 20000 in
theorem e_X12_laysYet {d : Nat} {K : x_T → Prop}  {τ : x_T} (h : x_WV (d + 1) mX12_laysYet K 2 [(0, .ref 345), (1, .int 0)] [] τ) : x_CV (d + 1) mX12_laysYet [.ref 345] τ K := by
  refine x_CV_of (by decide) (Nat.le_of_ble_eq_true rfl) ?_
  show x_WV (d + 1) mX12_laysYet K 0 [(0, .ref 345)] [] τ
  refine o_iconst (n := 0) (v := 0) (by decide +kernel) (by decide) ?_
  refine o_istore_n (k := 1) (L' := [(1, .int 0), (0, .ref 345)]) (by decide +kernel) (by decide) rfl ?_
  refine o_sub [1, 0] rfl ?_
  exact h
set_option maxRecDepth 20000 in
theorem k_X12_laysYet_2 {d : Nat} {K : x_T → Prop} {v1 : Int32} {τ : x_T} (h : (72 ≤ v1 → x_WV (d + 1) mX12_laysYet K 42 [(0, .ref 345), (1, .int 1)] [] τ) ∧ (¬ 72 ≤ v1 → (¬ v1 - v1 / 9 * 9 = τ.1 346 5 → x_WV (d + 1) mX12_laysYet K 33 [(0, .ref 345), (1, .int v1)] [.int 999, .int v1, .ref 373] τ) ∧ (v1 - v1 / 9 * 9 = τ.1 346 5 → x_WV (d + 1) mX12_laysYet K 33 [(0, .ref 345), (1, .int v1)] [.int 0, .int v1, .ref 373] τ))) : x_WV (d + 1) mX12_laysYet K 2 [(0, .ref 345), (1, .int v1)] [] τ := by
  refine o_iload_n (k := 1) 1 (by decide +kernel) rfl ?_
  refine o_bipush (n := 72) (v := 72) (by decide +kernel) (by decide) ?_
  refine o_icmp_ge (off := 35) 40 (by decide +kernel) (by decide) (fun q => ?_) (fun q => ?_)
  · replace h := h.1 q
    refine o_iconst (n := 1) (v := 1) (by decide +kernel) (by decide) ?_
    refine o_istore_n (k := 1) (L' := [(1, .int 1), (0, .ref 345)]) (by decide +kernel) (by decide) rfl ?_
    refine o_sub [1, 0] rfl ?_
    exact h
  · replace h := h.2 q
    refine o_aload_n (k := 0) 0 (by decide +kernel) rfl ?_
    refine f_getR (r := 373) (t := 12) (k := 44) (i := 100) (by decide +kernel) sh_345 rfl (by decide) lk_1405 (by simp [x_ty, tyX12]) (gr_12_44 sh_345) ?_
    refine o_iload_n (k := 1) 1 (by decide +kernel) rfl ?_
    refine o_iload_n (k := 1) 1 (by decide +kernel) rfl ?_
    refine o_bipush (n := 9) (v := 9) (by decide +kernel) (by decide) ?_
    refine o_irem (by decide +kernel) (by decide) ?_
    refine o_aload_n (k := 0) 0 (by decide +kernel) rfl ?_
    refine f_getR (r := 346) (t := 12) (k := 0) (i := 7) (by decide +kernel) sh_345 rfl (by decide) lk_1361 (by simp [x_ty, tyX12]) (gr_12_0 sh_345) ?_
    refine o_iconst (n := 5) (v := 5) (by decide +kernel) (by decide) ?_
    refine f_iald (k := 5) (by decide +kernel) sh_346 (by unfold vp_in; decide) (by decide) ?_
    refine o_icmp_ne (off := 7) 30 (by decide +kernel) (by decide) (fun q => ?_) (fun q => ?_)
    · replace h := h.1 q
      refine o_sipush (n := 999) (v := 999) (by decide +kernel) (by decide) ?_
      exact h
    · replace h := h.2 q
      refine o_iconst (n := 0) (v := 0) (by decide +kernel) (by decide) ?_
      refine o_goto (off := 6) 33 (by decide +kernel) (by decide) ?_
      exact h
set_option maxRecDepth 20000 in
theorem k_X12_laysYet_33 {d : Nat} {K : x_T → Prop} {v1 : Int32} {s0 : Int32} {s1 : Int32} {τ : x_T} (h : vp_in s1 72 ∧ (∀ t1, t1 = x_w1 τ 373 s1.toNatClampNeg s0 → (∀ y2, y2 = v1 + 1 → (x_WV (d + 1) mX12_laysYet K 2 [(0, .ref 345), (1, .int y2)] [] t1)))) : x_WV (d + 1) mX12_laysYet K 33 [(0, .ref 345), (1, .int v1)] [.int s0, .int s1, .ref 373] τ := by
  obtain ⟨hi, h⟩ := h
  refine f_iast (by decide +kernel) sh_373 hi rfl ?_
  refine f_name (fun t1 et1 => ?_)
  replace h := h t1 et1
  obtain ⟨y2, ey2⟩ : ∃ y : Int32, y = v1 + 1 := ⟨_, rfl⟩
  replace h := h y2 ey2
  refine o_iinc (i := 1) (n := 1) (v := y2) (L' := [(1, .int y2), (0, .ref 345)]) 1 (by decide +kernel) rfl (by rw [ey2]; rfl) (by decide) rfl ?_
  refine o_goto (off := -35) 2 (by decide +kernel) (by decide) ?_
  refine o_sub [1, 0] rfl ?_
  exact h
set_option maxRecDepth 20000 in
theorem k_X12_laysYet_42 {d : Nat} {K : x_T → Prop} {v1 : Int32} {τ : x_T} (h : (v1 = 0 → K τ) ∧ (¬ v1 = 0 → x_WV (d + 1) mX12_laysYet K 50 [(0, .ref 345), (1, .int 0), (2, .int 0)] [] τ)) : x_WV (d + 1) mX12_laysYet K 42 [(0, .ref 345), (1, .int v1)] [] τ := by
  refine o_iload_n (k := 1) 1 (by decide +kernel) rfl ?_
  refine o_if_eq (off := 139) 182 (by decide +kernel) (by decide) (fun q => ?_) (fun q => ?_)
  · replace h := h.1 q
    exact f_vret rfl (by decide +kernel) rfl h
  · replace h := h.2 q
    refine o_iconst (n := 0) (v := 0) (by decide +kernel) (by decide) ?_
    refine o_istore_n (k := 1) (L' := [(1, .int 0), (0, .ref 345)]) (by decide +kernel) (by decide) rfl ?_
    refine o_iconst (n := 0) (v := 0) (by decide +kernel) (by decide) ?_
    refine o_istore_n (k := 2) (L' := [(2, .int 0), (1, .int 0), (0, .ref 345)]) (by decide +kernel) (by decide) rfl ?_
    refine o_sub [2, 1, 0] rfl ?_
    exact h
set_option maxRecDepth 20000 in
theorem k_X12_laysYet_50 {d : Nat} {K : x_T → Prop} {v1 : Int32} {v2 : Int32} {τ : x_T} (h : (9 * (τ.1 346 0) ≤ v2 → x_WV (d + 1) mX12_laysYet K 42 [(0, .ref 345), (1, .int v1)] [] τ) ∧ (¬ 9 * (τ.1 346 0) ≤ v2 → x_WV (d + 1) mX12_laysYet K 65 [(0, .ref 345), (1, .int v1), (2, .int v2), (3, .int 0)] [] τ)) : x_WV (d + 1) mX12_laysYet K 50 [(0, .ref 345), (1, .int v1), (2, .int v2)] [] τ := by
  refine o_iload_n (k := 2) 2 (by decide +kernel) rfl ?_
  refine o_bipush (n := 9) (v := 9) (by decide +kernel) (by decide) ?_
  refine o_aload_n (k := 0) 0 (by decide +kernel) rfl ?_
  refine f_getR (r := 346) (t := 12) (k := 0) (i := 7) (by decide +kernel) sh_345 rfl (by decide) lk_1361 (by simp [x_ty, tyX12]) (gr_12_0 sh_345) ?_
  refine o_iconst (n := 0) (v := 0) (by decide +kernel) (by decide) ?_
  refine f_iald (k := 0) (by decide +kernel) sh_346 (by unfold vp_in; decide) (by decide) ?_
  refine o_imul (by decide +kernel) ?_
  refine o_icmp_ge (off := 119) 179 (by decide +kernel) (by decide) (fun q => ?_) (fun q => ?_)
  · replace h := h.1 q
    refine o_goto (off := -137) 42 (by decide +kernel) (by decide) ?_
    refine o_sub [0, 1] rfl ?_
    exact h
  · replace h := h.2 q
    refine o_iconst (n := 0) (v := 0) (by decide +kernel) (by decide) ?_
    refine o_istore_n (k := 3) (L' := [(3, .int 0), (0, .ref 345), (1, .int v1), (2, .int v2)]) (by decide +kernel) (by decide) rfl ?_
    refine o_sub [1, 2, 3, 0] rfl ?_
    exact h
set_option maxRecDepth 20000 in
theorem k_X12_laysYet_65 {d : Nat} {K : x_T → Prop} {v1 : Int32} {v2 : Int32} {v3 : Int32} {τ : x_T} (h : (τ.1 346 0 ≤ v3 → ∀ y1, y1 = v2 + 1 → (x_WV (d + 1) mX12_laysYet K 50 [(0, .ref 345), (1, .int v1), (2, .int y1)] [] τ)) ∧ (¬ τ.1 346 0 ≤ v3 → vp_in ((30 + (8 * (v2 / 9))) + v3) 3670 ∧ ((τ.1 346 ((30 + (8 * (v2 / 9))) + v3).toNatClampNeg ≤ 0 → x_WV (d + 1) mX12_laysYet K 167 [(0, .ref 345), (1, .int v1), (2, .int v2), (3, .int v3)] [] τ) ∧ (¬ τ.1 346 ((30 + (8 * (v2 / 9))) + v3).toNatClampNeg ≤ 0 → x_CI d mX12_doneAt [.ref 345, .int v3, .int (v2 - v2 / 9 * 9)] τ (fun t2 a3 => vp_in ((9 * v3) + a3) 72 ∧ (∀ y4, y4 = 1 + (t2.1 373 ((9 * v3) + a3).toNatClampNeg) → ((¬ v1 = 0 → x_WV (d + 1) mX12_laysYet K 133 [(0, .ref 345), (2, .int v2), (3, .int v3), (4, .int y4)] [] t2) ∧ (v1 = 0 → vp_in v2 72 ∧ ((t2.1 373 v2.toNatClampNeg ≤ y4 → x_WV (d + 1) mX12_laysYet K 138 [(0, .ref 345), (2, .int v2), (3, .int v3), (4, .int y4)] [.int 0] t2) ∧ (¬ t2.1 373 v2.toNatClampNeg ≤ y4 → x_WV (d + 1) mX12_laysYet K 133 [(0, .ref 345), (2, .int v2), (3, .int v3), (4, .int y4)] [] t2)))))))))) : x_WV (d + 1) mX12_laysYet K 65 [(0, .ref 345), (1, .int v1), (2, .int v2), (3, .int v3)] [] τ := by
  refine o_iload_n (k := 3) 3 (by decide +kernel) rfl ?_
  refine o_aload_n (k := 0) 0 (by decide +kernel) rfl ?_
  refine f_getR (r := 346) (t := 12) (k := 0) (i := 7) (by decide +kernel) sh_345 rfl (by decide) lk_1361 (by simp [x_ty, tyX12]) (gr_12_0 sh_345) ?_
  refine o_iconst (n := 0) (v := 0) (by decide +kernel) (by decide) ?_
  refine f_iald (k := 0) (by decide +kernel) sh_346 (by unfold vp_in; decide) (by decide) ?_
  refine o_icmp_ge (off := 101) 173 (by decide +kernel) (by decide) (fun q => ?_) (fun q => ?_)
  · replace h := h.1 q
    obtain ⟨y1, ey1⟩ : ∃ y : Int32, y = v2 + 1 := ⟨_, rfl⟩
    replace h := h y1 ey1
    refine o_iinc (i := 2) (n := 1) (v := y1) (L' := [(2, .int y1), (0, .ref 345), (1, .int v1), (3, .int v3)]) 2 (by decide +kernel) rfl (by rw [ey1]; rfl) (by decide) rfl ?_
    refine o_goto (off := -126) 50 (by decide +kernel) (by decide) ?_
    refine o_sub [1, 2, 0] rfl ?_
    exact h
  · replace h := h.2 q
    refine o_aload_n (k := 0) 0 (by decide +kernel) rfl ?_
    refine f_getR (r := 346) (t := 12) (k := 0) (i := 7) (by decide +kernel) sh_345 rfl (by decide) lk_1361 (by simp [x_ty, tyX12]) (gr_12_0 sh_345) ?_
    refine o_bipush (n := 30) (v := 30) (by decide +kernel) (by decide) ?_
    refine o_bipush (n := 8) (v := 8) (by decide +kernel) (by decide) ?_
    refine o_iload_n (k := 2) 2 (by decide +kernel) rfl ?_
    refine o_bipush (n := 9) (v := 9) (by decide +kernel) (by decide) ?_
    refine o_idiv (by decide +kernel) (by decide) ?_
    refine o_imul (by decide +kernel) ?_
    refine o_iadd (by decide +kernel) ?_
    refine o_iload_n (k := 3) 3 (by decide +kernel) rfl ?_
    refine o_iadd (by decide +kernel) ?_
    obtain ⟨hi, h⟩ := h
    refine f_iald (by decide +kernel) sh_346 hi rfl ?_
    refine o_if_le (off := 75) 167 (by decide +kernel) (by decide) (fun q => ?_) (fun q => ?_)
    · replace h := h.1 q
      exact h
    · replace h := h.2 q
      refine o_iconst (n := 1) (v := 1) (by decide +kernel) (by decide) ?_
      refine o_aload_n (k := 0) 0 (by decide +kernel) rfl ?_
      refine f_getR (r := 373) (t := 12) (k := 44) (i := 100) (by decide +kernel) sh_345 rfl (by decide) lk_1405 (by simp [x_ty, tyX12]) (gr_12_44 sh_345) ?_
      refine o_bipush (n := 9) (v := 9) (by decide +kernel) (by decide) ?_
      refine o_iload_n (k := 3) 3 (by decide +kernel) rfl ?_
      refine o_imul (by decide +kernel) ?_
      refine o_aload_n (k := 0) 0 (by decide +kernel) rfl ?_
      refine o_iload_n (k := 3) 3 (by decide +kernel) rfl ?_
      refine o_iload_n (k := 2) 2 (by decide +kernel) rfl ?_
      refine o_bipush (n := 9) (v := 9) (by decide +kernel) (by decide) ?_
      refine o_irem (by decide +kernel) (by decide) ?_
      refine f_callVI (μ' := mX12_doneAt) (i := 457) (vs := [.int v3, .int (v2 - v2 / 9 * 9)]) (by decide +kernel) lk_1894 (vok_mX12_doneAt) sh_345 rfl rfl rfl rfl (Nat.le_of_ble_eq_true rfl) ?_
      refine x_CI.mono h (fun t2 a3 h => ?_)
      refine o_iadd (by decide +kernel) ?_
      obtain ⟨hi, h⟩ := h
      refine f_iald (by decide +kernel) sh_373 hi rfl ?_
      refine o_iadd (by decide +kernel) ?_
      refine o_name (fun y4 ey4 => ?_)
      replace h := h y4 ey4
      refine o_istore (k := 4) (L' := [(4, .int y4), (0, .ref 345), (1, .int v1), (2, .int v2), (3, .int v3)]) (by decide +kernel) (by decide) rfl ?_
      refine o_iload_n (k := 1) 2 (by decide +kernel) rfl ?_
      refine o_if_ne (off := 14) 133 (by decide +kernel) (by decide) (fun q => ?_) (fun q => ?_)
      · replace h := h.1 q
        refine o_sub [1, 3, 4, 0] rfl ?_
        exact h
      · replace h := h.2 q
        refine o_iload (k := 4) 0 (by decide +kernel) rfl ?_
        refine o_aload_n (k := 0) 1 (by decide +kernel) rfl ?_
        refine f_getR (r := 373) (t := 12) (k := 44) (i := 100) (by decide +kernel) sh_345 rfl (by decide) lk_1405 (by simp [x_ty, tyX12]) (gr_12_44 sh_345) ?_
        refine o_iload_n (k := 2) 3 (by decide +kernel) rfl ?_
        obtain ⟨hi, h⟩ := h
        refine f_iald (by decide +kernel) sh_373 hi rfl ?_
        refine o_icmp_ge (off := 7) 137 (by decide +kernel) (by decide) (fun q => ?_) (fun q => ?_)
        · replace h := h.1 q
          refine o_iconst (n := 0) (v := 0) (by decide +kernel) (by decide) ?_
          refine o_sub [1, 3, 4, 0] rfl ?_
          exact h
        · replace h := h.2 q
          refine o_sub [1, 3, 4, 0] rfl ?_
          exact h
set_option maxRecDepth 20000 in
theorem k_X12_laysYet_133 {d : Nat} {K : x_T → Prop} {v2 : Int32} {v3 : Int32} {v4 : Int32} {τ : x_T} (h : x_WV (d + 1) mX12_laysYet K 138 [(0, .ref 345), (2, .int v2), (3, .int v3), (4, .int v4)] [.int 1] τ) : x_WV (d + 1) mX12_laysYet K 133 [(0, .ref 345), (2, .int v2), (3, .int v3), (4, .int v4)] [] τ := by
  refine o_iconst (n := 1) (v := 1) (by decide +kernel) (by decide) ?_
  refine o_goto (off := 4) 138 (by decide +kernel) (by decide) ?_
  exact h
set_option maxRecDepth 20000 in
theorem k_X12_laysYet_138 {d : Nat} {K : x_T → Prop} {v2 : Int32} {v3 : Int32} {v4 : Int32} {s0 : Int32} {τ : x_T} (h : vp_in v2 72 ∧ ((τ.1 373 v2.toNatClampNeg ≤ v4 → vp_in v2 72 ∧ (x_WV (d + 1) mX12_laysYet K 166 [(0, .ref 345), (1, .int s0), (2, .int v2), (3, .int v3)] [.int (τ.1 373 v2.toNatClampNeg), .int v2, .ref 373] τ)) ∧ (¬ τ.1 373 v2.toNatClampNeg ≤ v4 → x_WV (d + 1) mX12_laysYet K 166 [(0, .ref 345), (1, .int s0), (2, .int v2), (3, .int v3)] [.int v4, .int v2, .ref 373] τ))) : x_WV (d + 1) mX12_laysYet K 138 [(0, .ref 345), (2, .int v2), (3, .int v3), (4, .int v4)] [.int s0] τ := by
  refine o_istore_n (k := 1) (L' := [(1, .int s0), (0, .ref 345), (2, .int v2), (3, .int v3), (4, .int v4)]) (by decide +kernel) (by decide) rfl ?_
  refine o_aload_n (k := 0) 1 (by decide +kernel) rfl ?_
  refine f_getR (r := 373) (t := 12) (k := 44) (i := 100) (by decide +kernel) sh_345 rfl (by decide) lk_1405 (by simp [x_ty, tyX12]) (gr_12_44 sh_345) ?_
  refine o_iload_n (k := 2) 2 (by decide +kernel) rfl ?_
  refine o_iload (k := 4) 4 (by decide +kernel) rfl ?_
  refine o_aload_n (k := 0) 1 (by decide +kernel) rfl ?_
  refine f_getR (r := 373) (t := 12) (k := 44) (i := 100) (by decide +kernel) sh_345 rfl (by decide) lk_1405 (by simp [x_ty, tyX12]) (gr_12_44 sh_345) ?_
  refine o_iload_n (k := 2) 2 (by decide +kernel) rfl ?_
  obtain ⟨hi, h⟩ := h
  refine f_iald (by decide +kernel) sh_373 hi rfl ?_
  refine o_icmp_ge (off := 8) 160 (by decide +kernel) (by decide) (fun q => ?_) (fun q => ?_)
  · replace h := h.1 q
    refine o_aload_n (k := 0) 1 (by decide +kernel) rfl ?_
    refine f_getR (r := 373) (t := 12) (k := 44) (i := 100) (by decide +kernel) sh_345 rfl (by decide) lk_1405 (by simp [x_ty, tyX12]) (gr_12_44 sh_345) ?_
    refine o_iload_n (k := 2) 2 (by decide +kernel) rfl ?_
    obtain ⟨hi, h⟩ := h
    refine f_iald (by decide +kernel) sh_373 hi rfl ?_
    refine o_sub [1, 0, 2, 3] rfl ?_
    exact h
  · replace h := h.2 q
    refine o_iload (k := 4) 4 (by decide +kernel) rfl ?_
    refine o_goto (off := 9) 166 (by decide +kernel) (by decide) ?_
    refine o_sub [1, 0, 2, 3] rfl ?_
    exact h
set_option maxRecDepth 20000 in
theorem k_X12_laysYet_166 {d : Nat} {K : x_T → Prop} {v1 : Int32} {v2 : Int32} {v3 : Int32} {s0 : Int32} {s1 : Int32} {τ : x_T} (h : vp_in s1 72 ∧ (∀ t1, t1 = x_w1 τ 373 s1.toNatClampNeg s0 → (x_WV (d + 1) mX12_laysYet K 167 [(0, .ref 345), (1, .int v1), (2, .int v2), (3, .int v3)] [] t1))) : x_WV (d + 1) mX12_laysYet K 166 [(0, .ref 345), (1, .int v1), (2, .int v2), (3, .int v3)] [.int s0, .int s1, .ref 373] τ := by
  obtain ⟨hi, h⟩ := h
  refine f_iast (by decide +kernel) sh_373 hi rfl ?_
  refine f_name (fun t1 et1 => ?_)
  replace h := h t1 et1
  exact h
set_option maxRecDepth 20000 in
theorem k_X12_laysYet_167 {d : Nat} {K : x_T → Prop} {v1 : Int32} {v2 : Int32} {v3 : Int32} {τ : x_T} (h : ∀ y1, y1 = v3 + 1 → (x_WV (d + 1) mX12_laysYet K 65 [(0, .ref 345), (1, .int v1), (2, .int v2), (3, .int y1)] [] τ)) : x_WV (d + 1) mX12_laysYet K 167 [(0, .ref 345), (1, .int v1), (2, .int v2), (3, .int v3)] [] τ := by
  obtain ⟨y1, ey1⟩ : ∃ y : Int32, y = v3 + 1 := ⟨_, rfl⟩
  replace h := h y1 ey1
  refine o_iinc (i := 3) (n := 1) (v := y1) (L' := [(3, .int y1), (0, .ref 345), (1, .int v1), (2, .int v2)]) 3 (by decide +kernel) rfl (by rw [ey1]; rfl) (by decide) rfl ?_
  refine o_goto (off := -105) 65 (by decide +kernel) (by decide) ?_
  refine o_sub [1, 2, 3, 0] rfl ?_
  exact h
set_option maxRecDepth 20000 in
theorem e_X12_route {d : Nat} {K : x_T → Int32 → Prop} {v1 : Int32} {τ : x_T} (h : x_CV d mX12_laysNow [.ref 345] τ (fun t1 => (v1 < (-1) → K t1 (-2)) ∧ (¬ v1 < (-1) → (¬ t1.1 346 0 = 0 → x_CV d mX12_laysYet [.ref 345] t1 (fun t3 => x_CI d mX12_doneAt [.ref 345, .int (t3.1 370 0), .int 0] t3 (fun t5 a6 => ∀ y7, y7 = (9 * (t3.1 370 0)) + a6 → (vp_in y7 72 ∧ ((999 ≤ t5.1 373 y7.toNatClampNeg → K t5 (-2)) ∧ (¬ 999 ≤ t5.1 373 y7.toNatClampNeg → vp_in y7 72 ∧ ((v1 < t5.1 373 y7.toNatClampNeg → (¬ v1 = (-1) → x_WI (d + 1) mX12_route K 89 [(0, .ref 345), (1, .int v1), (2, .int y7), (3, .int 0), (4, .int 0)] [] t5) ∧ (v1 = (-1) → vp_in y7 72 ∧ (K t5 (t5.1 373 y7.toNatClampNeg)))) ∧ (¬ v1 < t5.1 373 y7.toNatClampNeg → K t5 (-2))))))))) ∧ (t1.1 346 0 = 0 → K t1 (-2))))) : x_CI (d + 1) mX12_route [.ref 345, .int v1] τ K := by
  refine x_CI_of (by decide) (Nat.le_of_ble_eq_true rfl) ?_
  show x_WI (d + 1) mX12_route K 0 [(0, .ref 345), (1, .int v1)] [] τ
  refine o_aload_n (k := 0) 0 (by decide +kernel) rfl ?_
  refine f_callVV (μ' := mX12_laysNow) (i := 396) (vs := []) (by decide +kernel) lk_1704 (vok_mX12_laysNow) sh_345 rfl rfl rfl rfl (Nat.le_of_ble_eq_true rfl) ?_
  refine x_CV.mono h (fun t1 h => ?_)
  refine o_iload_n (k := 1) 1 (by decide +kernel) rfl ?_
  refine o_iconst (n := -1) (v := (-1)) (by decide +kernel) (by decide) ?_
  refine o_icmp_lt (off := 12) 18 (by decide +kernel) (by decide) (fun q => ?_) (fun q => ?_)
  · replace h := h.1 q
    refine o_bipush (n := -2) (v := (-2)) (by decide +kernel) (by decide) ?_
    exact f_iret (ty := .int) rfl rfl (by decide +kernel) rfl h
  · replace h := h.2 q
    refine o_aload_n (k := 0) 0 (by decide +kernel) rfl ?_
    refine f_getR (r := 346) (t := 12) (k := 0) (i := 7) (by decide +kernel) sh_345 rfl (by decide) lk_1361 (by simp [x_ty, tyX12]) (gr_12_0 sh_345) ?_
    refine o_iconst (n := 0) (v := 0) (by decide +kernel) (by decide) ?_
    refine f_iald (k := 0) (by decide +kernel) sh_346 (by unfold vp_in; decide) (by decide) ?_
    refine o_if_ne (off := 6) 21 (by decide +kernel) (by decide) (fun q => ?_) (fun q => ?_)
    · replace h := h.1 q
      refine o_aload_n (k := 0) 0 (by decide +kernel) rfl ?_
      refine f_callVV (μ' := mX12_laysYet) (i := 460) (vs := []) (by decide +kernel) lk_1890 (vok_mX12_laysYet) sh_345 rfl rfl rfl rfl (Nat.le_of_ble_eq_true rfl) ?_
      refine x_CV.mono h (fun t3 h => ?_)
      refine o_bipush (n := 9) (v := 9) (by decide +kernel) (by decide) ?_
      refine o_aload_n (k := 0) 0 (by decide +kernel) rfl ?_
      refine f_getR (r := 370) (t := 12) (k := 41) (i := 90) (by decide +kernel) sh_345 rfl (by decide) lk_1402 (by simp [x_ty, tyX12]) (gr_12_41 sh_345) ?_
      refine o_iconst (n := 0) (v := 0) (by decide +kernel) (by decide) ?_
      refine f_iald (k := 0) (by decide +kernel) sh_370 (by unfold vp_in; decide) (by decide) ?_
      refine o_imul (by decide +kernel) ?_
      refine o_aload_n (k := 0) 0 (by decide +kernel) rfl ?_
      refine o_aload_n (k := 0) 0 (by decide +kernel) rfl ?_
      refine f_getR (r := 370) (t := 12) (k := 41) (i := 90) (by decide +kernel) sh_345 rfl (by decide) lk_1402 (by simp [x_ty, tyX12]) (gr_12_41 sh_345) ?_
      refine o_iconst (n := 0) (v := 0) (by decide +kernel) (by decide) ?_
      refine f_iald (k := 0) (by decide +kernel) sh_370 (by unfold vp_in; decide) (by decide) ?_
      refine o_iconst (n := 0) (v := 0) (by decide +kernel) (by decide) ?_
      refine f_callVI (μ' := mX12_doneAt) (i := 457) (vs := [.int (t3.1 370 0), .int 0]) (by decide +kernel) lk_1894 (vok_mX12_doneAt) sh_345 rfl rfl rfl rfl (Nat.le_of_ble_eq_true rfl) ?_
      refine x_CI.mono h (fun t5 a6 h => ?_)
      refine o_iadd (by decide +kernel) ?_
      refine o_name (fun y7 ey7 => ?_)
      replace h := h y7 ey7
      refine o_istore_n (k := 2) (L' := [(2, .int y7), (0, .ref 345), (1, .int v1)]) (by decide +kernel) (by decide) rfl ?_
      refine o_aload_n (k := 0) 1 (by decide +kernel) rfl ?_
      refine f_getR (r := 373) (t := 12) (k := 44) (i := 100) (by decide +kernel) sh_345 rfl (by decide) lk_1405 (by simp [x_ty, tyX12]) (gr_12_44 sh_345) ?_
      refine o_iload_n (k := 2) 0 (by decide +kernel) rfl ?_
      obtain ⟨hi, h⟩ := h
      refine f_iald (by decide +kernel) sh_373 hi rfl ?_
      refine o_sipush (n := 999) (v := 999) (by decide +kernel) (by decide) ?_
      refine o_icmp_ge (off := 13) 69 (by decide +kernel) (by decide) (fun q => ?_) (fun q => ?_)
      · replace h := h.1 q
        refine o_bipush (n := -2) (v := (-2)) (by decide +kernel) (by decide) ?_
        exact f_iret (ty := .int) rfl rfl (by decide +kernel) rfl h
      · replace h := h.2 q
        refine o_iload_n (k := 1) 2 (by decide +kernel) rfl ?_
        refine o_aload_n (k := 0) 1 (by decide +kernel) rfl ?_
        refine f_getR (r := 373) (t := 12) (k := 44) (i := 100) (by decide +kernel) sh_345 rfl (by decide) lk_1405 (by simp [x_ty, tyX12]) (gr_12_44 sh_345) ?_
        refine o_iload_n (k := 2) 0 (by decide +kernel) rfl ?_
        obtain ⟨hi, h⟩ := h
        refine f_iald (by decide +kernel) sh_373 hi rfl ?_
        refine o_icmp_lt (off := 6) 72 (by decide +kernel) (by decide) (fun q => ?_) (fun q => ?_)
        · replace h := h.1 q
          refine o_iload_n (k := 1) 2 (by decide +kernel) rfl ?_
          refine o_iconst (n := -1) (v := (-1)) (by decide +kernel) (by decide) ?_
          refine o_icmp_ne (off := 10) 84 (by decide +kernel) (by decide) (fun q => ?_) (fun q => ?_)
          · replace h := h.1 q
            refine o_iconst (n := 0) (v := 0) (by decide +kernel) (by decide) ?_
            refine o_istore_n (k := 3) (L' := [(3, .int 0), (2, .int y7), (0, .ref 345), (1, .int v1)]) (by decide +kernel) (by decide) rfl ?_
            refine o_iconst (n := 0) (v := 0) (by decide +kernel) (by decide) ?_
            refine o_istore (k := 4) (L' := [(4, .int 0), (3, .int 0), (2, .int y7), (0, .ref 345), (1, .int v1)]) (by decide +kernel) (by decide) rfl ?_
            refine o_sub [3, 4, 2, 1, 0] rfl ?_
            exact h
          · replace h := h.2 q
            refine o_aload_n (k := 0) 1 (by decide +kernel) rfl ?_
            refine f_getR (r := 373) (t := 12) (k := 44) (i := 100) (by decide +kernel) sh_345 rfl (by decide) lk_1405 (by simp [x_ty, tyX12]) (gr_12_44 sh_345) ?_
            refine o_iload_n (k := 2) 0 (by decide +kernel) rfl ?_
            obtain ⟨hi, h⟩ := h
            refine f_iald (by decide +kernel) sh_373 hi rfl ?_
            exact f_iret (ty := .int) rfl rfl (by decide +kernel) rfl h
        · replace h := h.2 q
          refine o_bipush (n := -2) (v := (-2)) (by decide +kernel) (by decide) ?_
          exact f_iret (ty := .int) rfl rfl (by decide +kernel) rfl h
    · replace h := h.2 q
      refine o_bipush (n := -2) (v := (-2)) (by decide +kernel) (by decide) ?_
      exact f_iret (ty := .int) rfl rfl (by decide +kernel) rfl h
set_option maxRecDepth 20000 in
theorem k_X12_route_89 {d : Nat} {K : x_T → Int32 → Prop} {v1 : Int32} {v2 : Int32} {v3 : Int32} {v4 : Int32} {τ : x_T} (h : (v1 < v4 → K τ v3) ∧ (¬ v1 < v4 → x_WI (d + 1) mX12_route K 97 [(0, .ref 345), (1, .int v1), (2, .int v2), (3, .int 0), (4, .int v4)] [] τ)) : x_WI (d + 1) mX12_route K 89 [(0, .ref 345), (1, .int v1), (2, .int v2), (3, .int v3), (4, .int v4)] [] τ := by
  refine o_iload (k := 4) 4 (by decide +kernel) rfl ?_
  refine o_iload_n (k := 1) 1 (by decide +kernel) rfl ?_
  refine o_icmp_gt (off := 82) 174 (by decide +kernel) (by decide) (fun q => ?_) (fun q => ?_)
  · replace h := h.1 q
    refine o_iload_n (k := 3) 3 (by decide +kernel) rfl ?_
    exact f_iret (ty := .int) rfl rfl (by decide +kernel) rfl h
  · replace h := h.2 q
    refine o_iconst (n := 0) (v := 0) (by decide +kernel) (by decide) ?_
    refine o_istore_n (k := 3) (L' := [(3, .int 0), (0, .ref 345), (1, .int v1), (2, .int v2), (4, .int v4)]) (by decide +kernel) (by decide) rfl ?_
    refine o_sub [1, 2, 3, 0, 4] rfl ?_
    exact h
set_option maxRecDepth 20000 in
theorem k_X12_route_97 {d : Nat} {K : x_T → Int32 → Prop} {v1 : Int32} {v2 : Int32} {v3 : Int32} {v4 : Int32} {τ : x_T} (h : vp_in ((30 + (8 * (v2 / 9))) + v3) 3670 ∧ ((τ.1 346 ((30 + (8 * (v2 / 9))) + v3).toNatClampNeg = 0 → x_WI (d + 1) mX12_route K 147 [(0, .ref 345), (1, .int v1), (2, .int v2), (3, .int v3), (4, .int v4)] [] τ) ∧ (¬ τ.1 346 ((30 + (8 * (v2 / 9))) + v3).toNatClampNeg = 0 → x_CI d mX12_doneAt [.ref 345, .int v3, .int (v2 - v2 / 9 * 9)] τ (fun t1 a2 => vp_in ((9 * v3) + a2) 72 ∧ (vp_in v2 72 ∧ ((t1.1 373 ((9 * v3) + a2).toNatClampNeg = (t1.1 373 v2.toNatClampNeg) - 1 → x_CI d mX12_doneAt [.ref 345, .int v3, .int (v2 - v2 / 9 * 9)] t1 (fun t3 a4 => ∀ y5, y5 = (9 * v3) + a4 → (∀ y6, y6 = v4 + 1 → (x_WI (d + 1) mX12_route K 89 [(0, .ref 345), (1, .int v1), (2, .int y5), (3, .int v3), (4, .int y6)] [] t3)))) ∧ (¬ t1.1 373 ((9 * v3) + a2).toNatClampNeg = (t1.1 373 v2.toNatClampNeg) - 1 → x_WI (d + 1) mX12_route K 147 [(0, .ref 345), (1, .int v1), (2, .int v2), (3, .int v3), (4, .int v4)] [] t1))))))) : x_WI (d + 1) mX12_route K 97 [(0, .ref 345), (1, .int v1), (2, .int v2), (3, .int v3), (4, .int v4)] [] τ := by
  refine o_aload_n (k := 0) 0 (by decide +kernel) rfl ?_
  refine f_getR (r := 346) (t := 12) (k := 0) (i := 7) (by decide +kernel) sh_345 rfl (by decide) lk_1361 (by simp [x_ty, tyX12]) (gr_12_0 sh_345) ?_
  refine o_bipush (n := 30) (v := 30) (by decide +kernel) (by decide) ?_
  refine o_bipush (n := 8) (v := 8) (by decide +kernel) (by decide) ?_
  refine o_iload_n (k := 2) 2 (by decide +kernel) rfl ?_
  refine o_bipush (n := 9) (v := 9) (by decide +kernel) (by decide) ?_
  refine o_idiv (by decide +kernel) (by decide) ?_
  refine o_imul (by decide +kernel) ?_
  refine o_iadd (by decide +kernel) ?_
  refine o_iload_n (k := 3) 3 (by decide +kernel) rfl ?_
  refine o_iadd (by decide +kernel) ?_
  obtain ⟨hi, h⟩ := h
  refine f_iald (by decide +kernel) sh_346 hi rfl ?_
  refine o_if_eq (off := 33) 147 (by decide +kernel) (by decide) (fun q => ?_) (fun q => ?_)
  · replace h := h.1 q
    exact h
  · replace h := h.2 q
    refine o_aload_n (k := 0) 0 (by decide +kernel) rfl ?_
    refine f_getR (r := 373) (t := 12) (k := 44) (i := 100) (by decide +kernel) sh_345 rfl (by decide) lk_1405 (by simp [x_ty, tyX12]) (gr_12_44 sh_345) ?_
    refine o_bipush (n := 9) (v := 9) (by decide +kernel) (by decide) ?_
    refine o_iload_n (k := 3) 3 (by decide +kernel) rfl ?_
    refine o_imul (by decide +kernel) ?_
    refine o_aload_n (k := 0) 0 (by decide +kernel) rfl ?_
    refine o_iload_n (k := 3) 3 (by decide +kernel) rfl ?_
    refine o_iload_n (k := 2) 2 (by decide +kernel) rfl ?_
    refine o_bipush (n := 9) (v := 9) (by decide +kernel) (by decide) ?_
    refine o_irem (by decide +kernel) (by decide) ?_
    refine f_callVI (μ' := mX12_doneAt) (i := 457) (vs := [.int v3, .int (v2 - v2 / 9 * 9)]) (by decide +kernel) lk_1894 (vok_mX12_doneAt) sh_345 rfl rfl rfl rfl (Nat.le_of_ble_eq_true rfl) ?_
    refine x_CI.mono h (fun t1 a2 h => ?_)
    refine o_iadd (by decide +kernel) ?_
    obtain ⟨hi, h⟩ := h
    refine f_iald (by decide +kernel) sh_373 hi rfl ?_
    refine o_aload_n (k := 0) 0 (by decide +kernel) rfl ?_
    refine f_getR (r := 373) (t := 12) (k := 44) (i := 100) (by decide +kernel) sh_345 rfl (by decide) lk_1405 (by simp [x_ty, tyX12]) (gr_12_44 sh_345) ?_
    refine o_iload_n (k := 2) 2 (by decide +kernel) rfl ?_
    obtain ⟨hi, h⟩ := h
    refine f_iald (by decide +kernel) sh_373 hi rfl ?_
    refine o_iconst (n := 1) (v := 1) (by decide +kernel) (by decide) ?_
    refine o_isub (by decide +kernel) ?_
    refine o_icmp_eq (off := 9) 153 (by decide +kernel) (by decide) (fun q => ?_) (fun q => ?_)
    · replace h := h.1 q
      refine o_bipush (n := 9) (v := 9) (by decide +kernel) (by decide) ?_
      refine o_iload_n (k := 3) 3 (by decide +kernel) rfl ?_
      refine o_imul (by decide +kernel) ?_
      refine o_aload_n (k := 0) 0 (by decide +kernel) rfl ?_
      refine o_iload_n (k := 3) 3 (by decide +kernel) rfl ?_
      refine o_iload_n (k := 2) 2 (by decide +kernel) rfl ?_
      refine o_bipush (n := 9) (v := 9) (by decide +kernel) (by decide) ?_
      refine o_irem (by decide +kernel) (by decide) ?_
      refine f_callVI (μ' := mX12_doneAt) (i := 457) (vs := [.int v3, .int (v2 - v2 / 9 * 9)]) (by decide +kernel) lk_1894 (vok_mX12_doneAt) sh_345 rfl rfl rfl rfl (Nat.le_of_ble_eq_true rfl) ?_
      refine x_CI.mono h (fun t3 a4 h => ?_)
      refine o_iadd (by decide +kernel) ?_
      refine o_name (fun y5 ey5 => ?_)
      replace h := h y5 ey5
      refine o_istore_n (k := 2) (L' := [(2, .int y5), (0, .ref 345), (1, .int v1), (3, .int v3), (4, .int v4)]) (by decide +kernel) (by decide) rfl ?_
      obtain ⟨y6, ey6⟩ : ∃ y : Int32, y = v4 + 1 := ⟨_, rfl⟩
      replace h := h y6 ey6
      refine o_iinc (i := 4) (n := 1) (v := y6) (L' := [(4, .int y6), (2, .int y5), (0, .ref 345), (1, .int v1), (3, .int v3)]) 4 (by decide +kernel) rfl (by rw [ey6]; rfl) (by decide) rfl ?_
      refine o_goto (off := -82) 89 (by decide +kernel) (by decide) ?_
      refine o_sub [2, 3, 1, 4, 0] rfl ?_
      exact h
    · replace h := h.2 q
      exact h
set_option maxRecDepth 20000 in
theorem k_X12_route_147 {d : Nat} {K : x_T → Int32 → Prop} {v1 : Int32} {v2 : Int32} {v3 : Int32} {v4 : Int32} {τ : x_T} (h : ∀ y1, y1 = v3 + 1 → (x_WI (d + 1) mX12_route K 97 [(0, .ref 345), (1, .int v1), (2, .int v2), (3, .int y1), (4, .int v4)] [] τ)) : x_WI (d + 1) mX12_route K 147 [(0, .ref 345), (1, .int v1), (2, .int v2), (3, .int v3), (4, .int v4)] [] τ := by
  obtain ⟨y1, ey1⟩ : ∃ y : Int32, y = v3 + 1 := ⟨_, rfl⟩
  replace h := h y1 ey1
  refine o_iinc (i := 3) (n := 1) (v := y1) (L' := [(3, .int y1), (0, .ref 345), (1, .int v1), (2, .int v2), (4, .int v4)]) 3 (by decide +kernel) rfl (by rw [ey1]; rfl) (by decide) rfl ?_
  refine o_goto (off := -53) 97 (by decide +kernel) (by decide) ?_
  refine o_sub [1, 2, 3, 0, 4] rfl ?_
  exact h
