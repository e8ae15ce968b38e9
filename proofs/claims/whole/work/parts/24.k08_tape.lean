set_option maxRecDepth 20000 in
theorem e_X8_addFour {d : Nat} {K : x_T → Prop} {v1 : Int32} {τ : x_T} (h : x_WV d mX8_addFour K 3 [(0, .ref 314), (1, .int v1), (2, .int 24)] [] τ) : x_CV d mX8_addFour [.ref 314, .int v1] τ K := by
  refine x_CV_of (by decide) (Nat.le_of_ble_eq_true rfl) ?_
  show x_WV d mX8_addFour K 0 [(0, .ref 314), (1, .int v1)] [] τ
  refine o_bipush (n := 24) (v := 24) (by decide +kernel) (by decide) ?_
  refine o_istore_n (k := 2) (L' := [(2, .int 24), (0, .ref 314), (1, .int v1)]) (by decide +kernel) (by decide) rfl ?_
  refine o_sub [1, 2, 0] rfl ?_
  exact h
set_option maxRecDepth 20000 in
theorem k_X8_addFour_3 {d : Nat} {K : x_T → Prop} {v1 : Int32} {v2 : Int32} {τ : x_T} (h : (v2 < 0 → K τ) ∧ (¬ v2 < 0 → (τ.1 314 1 < 0 → x_WV d mX8_addFour K 50 [(0, .ref 314), (1, .int v1), (2, .int v2)] [] τ) ∧ (¬ τ.1 314 1 < 0 → (300 ≤ τ.1 314 1 → x_WV d mX8_addFour K 50 [(0, .ref 314), (1, .int v1), (2, .int v2)] [] τ) ∧ (¬ 300 ≤ τ.1 314 1 → vp_in (τ.1 314 1) 300 ∧ (∀ t1, t1 = x_w1 τ 315 ((τ.1 314 1).toNatClampNeg) (((v1.toUInt32 >>> (v2.toUInt32 &&& Int32.toUInt32 31)).toInt32) &&& 255) → (∀ t2, t2 = x_w1 t1 314 1 ((t1.1 314 1) + 1) → (x_WV d mX8_addFour K 50 [(0, .ref 314), (1, .int v1), (2, .int v2)] [] t2))))))) : x_WV d mX8_addFour K 3 [(0, .ref 314), (1, .int v1), (2, .int v2)] [] τ := by
  refine o_iload_n (k := 2) 2 (by decide +kernel) rfl ?_
  refine o_if_lt (off := 52) 56 (by decide +kernel) (by decide) (fun q => ?_) (fun q => ?_)
  · replace h := h.1 q
    exact f_vret rfl (by decide +kernel) rfl h
  · replace h := h.2 q
    refine o_aload_n (k := 0) 0 (by decide +kernel) rfl ?_
    refine f_getI (t := 8) (k := 1) (i := 24) (by decide +kernel) sh_314 rfl (by decide) lk_352 rfl ?_
    refine o_if_lt (off := 39) 50 (by decide +kernel) (by decide) (fun q => ?_) (fun q => ?_)
    · replace h := h.1 q
      exact h
    · replace h := h.2 q
      refine o_aload_n (k := 0) 0 (by decide +kernel) rfl ?_
      refine f_getI (t := 8) (k := 1) (i := 24) (by decide +kernel) sh_314 rfl (by decide) lk_352 rfl ?_
      refine o_sipush (n := 300) (v := 300) (by decide +kernel) (by decide) ?_
      refine o_icmp_ge (off := 29) 50 (by decide +kernel) (by decide) (fun q => ?_) (fun q => ?_)
      · replace h := h.1 q
        exact h
      · replace h := h.2 q
        refine o_aload_n (k := 0) 0 (by decide +kernel) rfl ?_
        refine f_getR (r := 315) (t := 8) (k := 0) (i := 9) (by decide +kernel) sh_314 rfl (by decide) lk_351 (by simp [x_ty, tyX8]) (gr_8_0 sh_314) ?_
        refine o_aload_n (k := 0) 0 (by decide +kernel) rfl ?_
        refine f_getI (t := 8) (k := 1) (i := 24) (by decide +kernel) sh_314 rfl (by decide) lk_352 rfl ?_
        refine o_iload_n (k := 1) 1 (by decide +kernel) rfl ?_
        refine o_iload_n (k := 2) 2 (by decide +kernel) rfl ?_
        refine o_iushr (by decide +kernel) ?_
        refine o_sipush (n := 255) (v := 255) (by decide +kernel) (by decide) ?_
        refine o_iand (by decide +kernel) ?_
        obtain ⟨hi, h⟩ := h
        refine f_iast (by decide +kernel) sh_315 hi rfl ?_
        refine f_name (fun t1 et1 => ?_)
        replace h := h t1 et1
        refine o_aload_n (k := 0) 0 (by decide +kernel) rfl ?_
        refine o_dup (by decide +kernel) rfl ?_
        refine f_getI (t := 8) (k := 1) (i := 24) (by decide +kernel) sh_314 rfl (by decide) lk_352 rfl ?_
        refine o_iconst (n := 1) (v := 1) (by decide +kernel) (by decide) ?_
        refine o_iadd (by decide +kernel) ?_
        refine f_putI (t := 8) (k := 1) (i := 24) (by decide +kernel) sh_314 rfl (by decide) lk_352 rfl rfl ?_
        refine f_name (fun t2 et2 => ?_)
        replace h := h t2 et2
        exact h
set_option maxRecDepth 20000 in
theorem k_X8_addFour_50 {d : Nat} {K : x_T → Prop} {v1 : Int32} {v2 : Int32} {τ : x_T} (h : ∀ y1, y1 = v2 + (-8) → (x_WV d mX8_addFour K 3 [(0, .ref 314), (1, .int v1), (2, .int y1)] [] τ)) : x_WV d mX8_addFour K 50 [(0, .ref 314), (1, .int v1), (2, .int v2)] [] τ := by
  obtain ⟨y1, ey1⟩ : ∃ y : Int32, y = v2 + (-8) := ⟨_, rfl⟩
  replace h := h y1 ey1
  refine o_iinc (i := 2) (n := -8) (v := y1) (L' := [(2, .int y1), (0, .ref 314), (1, .int v1)]) 2 (by decide +kernel) rfl (by rw [ey1]; rfl) (by decide) rfl ?_
  refine o_goto (off := -50) 3 (by decide +kernel) (by decide) ?_
  refine o_sub [1, 2, 0] rfl ?_
  exact h
set_option maxRecDepth 20000 in
theorem e_X8_kindAt {d : Nat} {K : x_T → Int32 → Prop} {v1 : Int32} {τ : x_T} (h : (v1 < 0 → K τ 46) ∧ (¬ v1 < 0 → (τ.1 314 5 ≤ v1 → K τ 46) ∧ (¬ τ.1 314 5 ≤ v1 → (301 ≤ v1 → K τ 46) ∧ (¬ 301 ≤ v1 → vp_in v1 301 ∧ (K τ (τ.1 316 v1.toNatClampNeg)))))) : x_CI d mX8_kindAt [.ref 314, .int v1] τ K := by
  refine x_CI_of (by decide) (Nat.le_of_ble_eq_true rfl) ?_
  show x_WI d mX8_kindAt K 0 [(0, .ref 314), (1, .int v1)] [] τ
  refine o_iload_n (k := 1) 1 (by decide +kernel) rfl ?_
  refine o_if_lt (off := 27) 28 (by decide +kernel) (by decide) (fun q => ?_) (fun q => ?_)
  · replace h := h.1 q
    refine o_bipush (n := 46) (v := 46) (by decide +kernel) (by decide) ?_
    exact f_iret (ty := .int) rfl rfl (by decide +kernel) rfl h
  · replace h := h.2 q
    refine o_iload_n (k := 1) 1 (by decide +kernel) rfl ?_
    refine o_aload_n (k := 0) 0 (by decide +kernel) rfl ?_
    refine f_getI (t := 8) (k := 5) (i := 28) (by decide +kernel) sh_314 rfl (by decide) lk_357 rfl ?_
    refine o_icmp_ge (off := 19) 28 (by decide +kernel) (by decide) (fun q => ?_) (fun q => ?_)
    · replace h := h.1 q
      refine o_bipush (n := 46) (v := 46) (by decide +kernel) (by decide) ?_
      exact f_iret (ty := .int) rfl rfl (by decide +kernel) rfl h
    · replace h := h.2 q
      refine o_iload_n (k := 1) 1 (by decide +kernel) rfl ?_
      refine o_sipush (n := 301) (v := 301) (by decide +kernel) (by decide) ?_
      refine o_icmp_ge (off := 12) 28 (by decide +kernel) (by decide) (fun q => ?_) (fun q => ?_)
      · replace h := h.1 q
        refine o_bipush (n := 46) (v := 46) (by decide +kernel) (by decide) ?_
        exact f_iret (ty := .int) rfl rfl (by decide +kernel) rfl h
      · replace h := h.2 q
        refine o_aload_n (k := 0) 0 (by decide +kernel) rfl ?_
        refine f_getR (r := 316) (t := 8) (k := 2) (i := 15) (by decide +kernel) sh_314 rfl (by decide) lk_354 (by simp [x_ty, tyX8]) (gr_8_2 sh_314) ?_
        refine o_iload_n (k := 1) 1 (by decide +kernel) rfl ?_
        obtain ⟨hi, h⟩ := h
        refine f_iald (by decide +kernel) sh_316 hi rfl ?_
        refine o_goto (off := 5) 30 (by decide +kernel) (by decide) ?_
        exact f_iret (ty := .int) rfl rfl (by decide +kernel) rfl h
set_option maxRecDepth 20000 in
theorem e_X8_valueAt {d : Nat} {K : x_T → Int32 → Prop} {v1 : Int32} {τ : x_T} (h : (v1 < 0 → K τ 0) ∧ (¬ v1 < 0 → (τ.1 314 5 ≤ v1 → K τ 0) ∧ (¬ τ.1 314 5 ≤ v1 → (301 ≤ v1 → K τ 0) ∧ (¬ 301 ≤ v1 → vp_in v1 301 ∧ (K τ (τ.1 317 v1.toNatClampNeg)))))) : x_CI d mX8_valueAt [.ref 314, .int v1] τ K := by
  refine x_CI_of (by decide) (Nat.le_of_ble_eq_true rfl) ?_
  show x_WI d mX8_valueAt K 0 [(0, .ref 314), (1, .int v1)] [] τ
  refine o_iload_n (k := 1) 1 (by decide +kernel) rfl ?_
  refine o_if_lt (off := 27) 28 (by decide +kernel) (by decide) (fun q => ?_) (fun q => ?_)
  · replace h := h.1 q
    refine o_iconst (n := 0) (v := 0) (by decide +kernel) (by decide) ?_
    exact f_iret (ty := .int) rfl rfl (by decide +kernel) rfl h
  · replace h := h.2 q
    refine o_iload_n (k := 1) 1 (by decide +kernel) rfl ?_
    refine o_aload_n (k := 0) 0 (by decide +kernel) rfl ?_
    refine f_getI (t := 8) (k := 5) (i := 28) (by decide +kernel) sh_314 rfl (by decide) lk_357 rfl ?_
    refine o_icmp_ge (off := 19) 28 (by decide +kernel) (by decide) (fun q => ?_) (fun q => ?_)
    · replace h := h.1 q
      refine o_iconst (n := 0) (v := 0) (by decide +kernel) (by decide) ?_
      exact f_iret (ty := .int) rfl rfl (by decide +kernel) rfl h
    · replace h := h.2 q
      refine o_iload_n (k := 1) 1 (by decide +kernel) rfl ?_
      refine o_sipush (n := 301) (v := 301) (by decide +kernel) (by decide) ?_
      refine o_icmp_ge (off := 12) 28 (by decide +kernel) (by decide) (fun q => ?_) (fun q => ?_)
      · replace h := h.1 q
        refine o_iconst (n := 0) (v := 0) (by decide +kernel) (by decide) ?_
        exact f_iret (ty := .int) rfl rfl (by decide +kernel) rfl h
      · replace h := h.2 q
        refine o_aload_n (k := 0) 0 (by decide +kernel) rfl ?_
        refine f_getR (r := 317) (t := 8) (k := 3) (i := 18) (by decide +kernel) sh_314 rfl (by decide) lk_355 (by simp [x_ty, tyX8]) (gr_8_3 sh_314) ?_
        refine o_iload_n (k := 1) 1 (by decide +kernel) rfl ?_
        obtain ⟨hi, h⟩ := h
        refine f_iald (by decide +kernel) sh_317 hi rfl ?_
        refine o_goto (off := 4) 29 (by decide +kernel) (by decide) ?_
        exact f_iret (ty := .int) rfl rfl (by decide +kernel) rfl h
set_option maxRecDepth 20000 in
theorem e_X8_placeAt {d : Nat} {K : x_T → Int32 → Prop} {v1 : Int32} {τ : x_T} (h : (v1 < 0 → K τ (τ.1 314 1)) ∧ (¬ v1 < 0 → (τ.1 314 5 ≤ v1 → K τ (τ.1 314 1)) ∧ (¬ τ.1 314 5 ≤ v1 → (301 ≤ v1 → K τ (τ.1 314 1)) ∧ (¬ 301 ≤ v1 → vp_in v1 301 ∧ (K τ (τ.1 318 v1.toNatClampNeg)))))) : x_CI d mX8_placeAt [.ref 314, .int v1] τ K := by
  refine x_CI_of (by decide) (Nat.le_of_ble_eq_true rfl) ?_
  show x_WI d mX8_placeAt K 0 [(0, .ref 314), (1, .int v1)] [] τ
  refine o_iload_n (k := 1) 1 (by decide +kernel) rfl ?_
  refine o_if_lt (off := 27) 28 (by decide +kernel) (by decide) (fun q => ?_) (fun q => ?_)
  · replace h := h.1 q
    refine o_aload_n (k := 0) 0 (by decide +kernel) rfl ?_
    refine f_getI (t := 8) (k := 1) (i := 24) (by decide +kernel) sh_314 rfl (by decide) lk_352 rfl ?_
    exact f_iret (ty := .int) rfl rfl (by decide +kernel) rfl h
  · replace h := h.2 q
    refine o_iload_n (k := 1) 1 (by decide +kernel) rfl ?_
    refine o_aload_n (k := 0) 0 (by decide +kernel) rfl ?_
    refine f_getI (t := 8) (k := 5) (i := 28) (by decide +kernel) sh_314 rfl (by decide) lk_357 rfl ?_
    refine o_icmp_ge (off := 19) 28 (by decide +kernel) (by decide) (fun q => ?_) (fun q => ?_)
    · replace h := h.1 q
      refine o_aload_n (k := 0) 0 (by decide +kernel) rfl ?_
      refine f_getI (t := 8) (k := 1) (i := 24) (by decide +kernel) sh_314 rfl (by decide) lk_352 rfl ?_
      exact f_iret (ty := .int) rfl rfl (by decide +kernel) rfl h
    · replace h := h.2 q
      refine o_iload_n (k := 1) 1 (by decide +kernel) rfl ?_
      refine o_sipush (n := 301) (v := 301) (by decide +kernel) (by decide) ?_
      refine o_icmp_ge (off := 12) 28 (by decide +kernel) (by decide) (fun q => ?_) (fun q => ?_)
      · replace h := h.1 q
        refine o_aload_n (k := 0) 0 (by decide +kernel) rfl ?_
        refine f_getI (t := 8) (k := 1) (i := 24) (by decide +kernel) sh_314 rfl (by decide) lk_352 rfl ?_
        exact f_iret (ty := .int) rfl rfl (by decide +kernel) rfl h
      · replace h := h.2 q
        refine o_aload_n (k := 0) 0 (by decide +kernel) rfl ?_
        refine f_getR (r := 318) (t := 8) (k := 4) (i := 21) (by decide +kernel) sh_314 rfl (by decide) lk_356 (by simp [x_ty, tyX8]) (gr_8_4 sh_314) ?_
        refine o_iload_n (k := 1) 1 (by decide +kernel) rfl ?_
        obtain ⟨hi, h⟩ := h
        refine f_iald (by decide +kernel) sh_318 hi rfl ?_
        refine o_goto (off := 7) 32 (by decide +kernel) (by decide) ?_
        exact f_iret (ty := .int) rfl rfl (by decide +kernel) rfl h
set_option maxRecDepth 20000 in
theorem e_X8_cut {d : Nat} {K : x_T → Prop}  {τ : x_T} (h : ∀ t1, t1 = x_w1 τ 314 5 0 → (x_WV (d + 1) mX8_cut K 9 [(0, .ref 314), (1, .int 0), (2, .int 0)] [] t1)) : x_CV (d + 1) mX8_cut [.ref 314] τ K := by
  refine x_CV_of (by decide) (Nat.le_of_ble_eq_true rfl) ?_
  show x_WV (d + 1) mX8_cut K 0 [(0, .ref 314)] [] τ
  refine o_aload_n (k := 0) 0 (by decide +kernel) rfl ?_
  refine o_iconst (n := 0) (v := 0) (by decide +kernel) (by decide) ?_
  refine f_putI (t := 8) (k := 5) (i := 28) (by decide +kernel) sh_314 rfl (by decide) lk_357 rfl rfl ?_
  refine f_name (fun t1 et1 => ?_)
  replace h := h t1 et1
  refine o_iconst (n := 0) (v := 0) (by decide +kernel) (by decide) ?_
  refine o_istore_n (k := 1) (L' := [(1, .int 0), (0, .ref 314)]) (by decide +kernel) (by decide) rfl ?_
  refine o_iconst (n := 0) (v := 0) (by decide +kernel) (by decide) ?_
  refine o_istore_n (k := 2) (L' := [(2, .int 0), (1, .int 0), (0, .ref 314)]) (by decide +kernel) (by decide) rfl ?_
  refine o_sub [2, 1, 0] rfl ?_
  exact h
set_option maxRecDepth 20000 in
theorem k_X8_cut_9 {d : Nat} {K : x_T → Prop} {v1 : Int32} {v2 : Int32} {τ : x_T} (h : (300 ≤ v2 → x_WV (d + 1) mX8_cut K 92 [(0, .ref 314)] [] τ) ∧ (¬ 300 ≤ v2 → (τ.1 314 1 ≤ v1 → x_WV (d + 1) mX8_cut K 92 [(0, .ref 314)] [] τ) ∧ (¬ τ.1 314 1 ≤ v1 → x_CI d mX8_byteAt [.ref 314, .int v1] τ (fun t1 a2 => (a2 = 32 → x_WV (d + 1) mX8_cut K 42 [(0, .ref 314), (1, .int v1), (2, .int v2)] [] t1) ∧ (¬ a2 = 32 → (¬ a2 = 10 → x_CI d mX8_isLetter [.int a2] t1 (fun t3 a4 => (a4 = 0 → x_CI d mX8_isDigit [.int a2] t3 (fun t5 a6 => (a6 = 0 → x_CI d mX8_cutSign [.ref 314, .int v1] t5 (fun t7 a8 => x_WV (d + 1) mX8_cut K 86 [(0, .ref 314), (1, .int a8), (2, .int v2)] [] t7)) ∧ (¬ a6 = 0 → x_CI d mX8_cutNumber [.ref 314, .int v1] t5 (fun t9 a10 => x_WV (d + 1) mX8_cut K 86 [(0, .ref 314), (1, .int a10), (2, .int v2)] [] t9)))) ∧ (¬ a4 = 0 → x_CI d mX8_cutWord [.ref 314, .int v1] t3 (fun t11 a12 => x_WV (d + 1) mX8_cut K 86 [(0, .ref 314), (1, .int a12), (2, .int v2)] [] t11)))) ∧ (a2 = 10 → x_WV (d + 1) mX8_cut K 42 [(0, .ref 314), (1, .int v1), (2, .int v2)] [] t1)))))) : x_WV (d + 1) mX8_cut K 9 [(0, .ref 314), (1, .int v1), (2, .int v2)] [] τ := by
  refine o_iload_n (k := 2) 2 (by decide +kernel) rfl ?_
  refine o_sipush (n := 300) (v := 300) (by decide +kernel) (by decide) ?_
  refine o_icmp_ge (off := 79) 92 (by decide +kernel) (by decide) (fun q => ?_) (fun q => ?_)
  · replace h := h.1 q
    refine o_sub [0] rfl ?_
    exact h
  · replace h := h.2 q
    refine o_iload_n (k := 1) 1 (by decide +kernel) rfl ?_
    refine o_aload_n (k := 0) 0 (by decide +kernel) rfl ?_
    refine f_getI (t := 8) (k := 1) (i := 24) (by decide +kernel) sh_314 rfl (by decide) lk_352 rfl ?_
    refine o_icmp_ge (off := 71) 92 (by decide +kernel) (by decide) (fun q => ?_) (fun q => ?_)
    · replace h := h.1 q
      refine o_sub [0] rfl ?_
      exact h
    · replace h := h.2 q
      refine o_aload_n (k := 0) 0 (by decide +kernel) rfl ?_
      refine o_iload_n (k := 1) 1 (by decide +kernel) rfl ?_
      refine f_callVI (μ' := mX8_byteAt) (i := 31) (vs := [.int v1]) (by decide +kernel) lk_808 (vok_mX8_byteAt) sh_314 rfl rfl rfl rfl (Nat.le_of_ble_eq_true rfl) ?_
      refine x_CI.mono h (fun t1 a2 h => ?_)
      refine o_istore_n (k := 3) (L' := [(3, .int a2), (0, .ref 314), (1, .int v1), (2, .int v2)]) (by decide +kernel) (by decide) rfl ?_
      refine o_iload_n (k := 3) 0 (by decide +kernel) rfl ?_
      refine o_bipush (n := 32) (v := 32) (by decide +kernel) (by decide) ?_
      refine o_icmp_eq (off := 9) 42 (by decide +kernel) (by decide) (fun q => ?_) (fun q => ?_)
      · replace h := h.1 q
        refine o_sub [1, 2, 3] rfl ?_
        exact h
      · replace h := h.2 q
        refine o_iload_n (k := 3) 0 (by decide +kernel) rfl ?_
        refine o_bipush (n := 10) (v := 10) (by decide +kernel) (by decide) ?_
        refine o_icmp_ne (off := 9) 48 (by decide +kernel) (by decide) (fun q => ?_) (fun q => ?_)
        · replace h := h.1 q
          refine o_iload_n (k := 3) 0 (by decide +kernel) rfl ?_
          refine f_callSI (μ' := mX8_isLetter) (i := 35) (vs := [.int a2]) (by decide +kernel) lk_812 (cok_mX8_isLetter) rfl (stt_mX8_isLetter) rfl rfl (Nat.le_of_ble_eq_true rfl) ?_
          refine x_CI.mono h (fun t3 a4 h => ?_)
          refine o_if_eq (off := 12) 64 (by decide +kernel) (by decide) (fun q => ?_) (fun q => ?_)
          · replace h := h.1 q
            refine o_iload_n (k := 3) 0 (by decide +kernel) rfl ?_
            refine f_callSI (μ' := mX8_isDigit) (i := 42) (vs := [.int a2]) (by decide +kernel) lk_876 (cok_mX8_isDigit) rfl (stt_mX8_isDigit) rfl rfl (Nat.le_of_ble_eq_true rfl) ?_
            refine x_CI.mono h (fun t5 a6 h => ?_)
            refine o_if_eq (off := 12) 80 (by decide +kernel) (by decide) (fun q => ?_) (fun q => ?_)
            · replace h := h.1 q
              refine o_aload_n (k := 0) 1 (by decide +kernel) rfl ?_
              refine o_iload_n (k := 1) 2 (by decide +kernel) rfl ?_
              refine f_callVI (μ' := mX8_cutSign) (i := 48) (vs := [.int v1]) (by decide +kernel) lk_884 (vok_mX8_cutSign) sh_314 rfl rfl rfl rfl (Nat.le_of_ble_eq_true rfl) ?_
              refine x_CI.mono h (fun t7 a8 h => ?_)
              refine o_istore_n (k := 1) (L' := [(1, .int a8), (3, .int a2), (0, .ref 314), (2, .int v2)]) (by decide +kernel) (by decide) rfl ?_
              refine o_sub [2, 0, 3] rfl ?_
              exact h
            · replace h := h.2 q
              refine o_aload_n (k := 0) 1 (by decide +kernel) rfl ?_
              refine o_iload_n (k := 1) 2 (by decide +kernel) rfl ?_
              refine f_callVI (μ' := mX8_cutNumber) (i := 45) (vs := [.int v1]) (by decide +kernel) lk_879 (vok_mX8_cutNumber) sh_314 rfl rfl rfl rfl (Nat.le_of_ble_eq_true rfl) ?_
              refine x_CI.mono h (fun t9 a10 h => ?_)
              refine o_istore_n (k := 1) (L' := [(1, .int a10), (3, .int a2), (0, .ref 314), (2, .int v2)]) (by decide +kernel) (by decide) rfl ?_
              refine o_goto (off := 9) 86 (by decide +kernel) (by decide) ?_
              refine o_sub [2, 0, 3] rfl ?_
              exact h
          · replace h := h.2 q
            refine o_aload_n (k := 0) 1 (by decide +kernel) rfl ?_
            refine o_iload_n (k := 1) 2 (by decide +kernel) rfl ?_
            refine f_callVI (μ' := mX8_cutWord) (i := 39) (vs := [.int v1]) (by decide +kernel) lk_815 (vok_mX8_cutWord) sh_314 rfl rfl rfl rfl (Nat.le_of_ble_eq_true rfl) ?_
            refine x_CI.mono h (fun t11 a12 h => ?_)
            refine o_istore_n (k := 1) (L' := [(1, .int a12), (3, .int a2), (0, .ref 314), (2, .int v2)]) (by decide +kernel) (by decide) rfl ?_
            refine o_goto (off := 25) 86 (by decide +kernel) (by decide) ?_
            refine o_sub [2, 0, 3] rfl ?_
            exact h
        · replace h := h.2 q
          refine o_sub [1, 2, 3] rfl ?_
          exact h
set_option maxRecDepth 20000 in
theorem k_X8_cut_42 {d : Nat} {K : x_T → Prop} {v1 : Int32} {v2 : Int32} {τ : x_T} (h : ∀ y1, y1 = v1 + 1 → (x_WV (d + 1) mX8_cut K 86 [(0, .ref 314), (1, .int y1), (2, .int v2)] [] τ)) : x_WV (d + 1) mX8_cut K 42 [(0, .ref 314), (1, .int v1), (2, .int v2)] [] τ := by
  obtain ⟨y1, ey1⟩ : ∃ y : Int32, y = v1 + 1 := ⟨_, rfl⟩
  replace h := h y1 ey1
  refine o_iinc (i := 1) (n := 1) (v := y1) (L' := [(1, .int y1), (0, .ref 314), (2, .int v2)]) 1 (by decide +kernel) rfl (by rw [ey1]; rfl) (by decide) rfl ?_
  refine o_goto (off := 41) 86 (by decide +kernel) (by decide) ?_
  refine o_sub [1, 0, 2] rfl ?_
  exact h
set_option maxRecDepth 20000 in
theorem k_X8_cut_86 {d : Nat} {K : x_T → Prop} {v1 : Int32} {v2 : Int32} {τ : x_T} (h : ∀ y1, y1 = v2 + 1 → (x_WV (d + 1) mX8_cut K 9 [(0, .ref 314), (1, .int v1), (2, .int y1)] [] τ)) : x_WV (d + 1) mX8_cut K 86 [(0, .ref 314), (1, .int v1), (2, .int v2)] [] τ := by
  obtain ⟨y1, ey1⟩ : ∃ y : Int32, y = v2 + 1 := ⟨_, rfl⟩
  replace h := h y1 ey1
  refine o_iinc (i := 2) (n := 1) (v := y1) (L' := [(2, .int y1), (0, .ref 314), (1, .int v1)]) 2 (by decide +kernel) rfl (by rw [ey1]; rfl) (by decide) rfl ?_
  refine o_goto (off := -80) 9 (by decide +kernel) (by decide) ?_
  refine o_sub [1, 2, 0] rfl ?_
  exact h
set_option maxRecDepth 20000 in
theorem k_X8_cut_92 {d : Nat} {K : x_T → Prop}  {τ : x_T} (h : x_CV d mX8_note [.ref 314, .int 46, .int 0, .int (τ.1 314 1)] τ (fun t1 => K t1)) : x_WV (d + 1) mX8_cut K 92 [(0, .ref 314)] [] τ := by
  refine o_aload_n (k := 0) 0 (by decide +kernel) rfl ?_
  refine o_bipush (n := 46) (v := 46) (by decide +kernel) (by decide) ?_
  refine o_iconst (n := 0) (v := 0) (by decide +kernel) (by decide) ?_
  refine o_aload_n (k := 0) 0 (by decide +kernel) rfl ?_
  refine f_getI (t := 8) (k := 1) (i := 24) (by decide +kernel) sh_314 rfl (by decide) lk_352 rfl ?_
  refine f_callVV (μ' := mX8_note) (i := 51) (vs := [.int 46, .int 0, .int (τ.1 314 1)]) (by decide +kernel) lk_872 (vok_mX8_note) sh_314 rfl rfl rfl rfl (Nat.le_of_ble_eq_true rfl) ?_
  refine x_CV.mono h (fun t1 h => ?_)
  exact f_vret rfl (by decide +kernel) rfl h
set_option maxRecDepth 20000 in
theorem e_X8_byteAt {d : Nat} {K : x_T → Int32 → Prop} {v1 : Int32} {τ : x_T} (h : (v1 < 0 → K τ 0) ∧ (¬ v1 < 0 → (τ.1 314 1 ≤ v1 → K τ 0) ∧ (¬ τ.1 314 1 ≤ v1 → (300 ≤ v1 → K τ 0) ∧ (¬ 300 ≤ v1 → vp_in v1 300 ∧ (K τ (τ.1 315 v1.toNatClampNeg)))))) : x_CI d mX8_byteAt [.ref 314, .int v1] τ K := by
  refine x_CI_of (by decide) (Nat.le_of_ble_eq_true rfl) ?_
  show x_WI d mX8_byteAt K 0 [(0, .ref 314), (1, .int v1)] [] τ
  refine o_iload_n (k := 1) 1 (by decide +kernel) rfl ?_
  refine o_if_lt (off := 27) 28 (by decide +kernel) (by decide) (fun q => ?_) (fun q => ?_)
  · replace h := h.1 q
    refine o_iconst (n := 0) (v := 0) (by decide +kernel) (by decide) ?_
    exact f_iret (ty := .int) rfl rfl (by decide +kernel) rfl h
  · replace h := h.2 q
    refine o_iload_n (k := 1) 1 (by decide +kernel) rfl ?_
    refine o_aload_n (k := 0) 0 (by decide +kernel) rfl ?_
    refine f_getI (t := 8) (k := 1) (i := 24) (by decide +kernel) sh_314 rfl (by decide) lk_352 rfl ?_
    refine o_icmp_ge (off := 19) 28 (by decide +kernel) (by decide) (fun q => ?_) (fun q => ?_)
    · replace h := h.1 q
      refine o_iconst (n := 0) (v := 0) (by decide +kernel) (by decide) ?_
      exact f_iret (ty := .int) rfl rfl (by decide +kernel) rfl h
    · replace h := h.2 q
      refine o_iload_n (k := 1) 1 (by decide +kernel) rfl ?_
      refine o_sipush (n := 300) (v := 300) (by decide +kernel) (by decide) ?_
      refine o_icmp_ge (off := 12) 28 (by decide +kernel) (by decide) (fun q => ?_) (fun q => ?_)
      · replace h := h.1 q
        refine o_iconst (n := 0) (v := 0) (by decide +kernel) (by decide) ?_
        exact f_iret (ty := .int) rfl rfl (by decide +kernel) rfl h
      · replace h := h.2 q
        refine o_aload_n (k := 0) 0 (by decide +kernel) rfl ?_
        refine f_getR (r := 315) (t := 8) (k := 0) (i := 9) (by decide +kernel) sh_314 rfl (by decide) lk_351 (by simp [x_ty, tyX8]) (gr_8_0 sh_314) ?_
        refine o_iload_n (k := 1) 1 (by decide +kernel) rfl ?_
        obtain ⟨hi, h⟩ := h
        refine f_iald (by decide +kernel) sh_315 hi rfl ?_
        refine o_goto (off := 4) 29 (by decide +kernel) (by decide) ?_
        exact f_iret (ty := .int) rfl rfl (by decide +kernel) rfl h
set_option maxRecDepth 20000 in
theorem e_X8_isLetter {d : Nat} {K : x_T → Int32 → Prop} {v0 : Int32} {τ : x_T} (h : (v0 < 97 → x_WI d mX8_isLetter K 12 [(0, .int v0)] [] τ) ∧ (¬ v0 < 97 → (v0 ≤ 122 → K τ 1) ∧ (¬ v0 ≤ 122 → x_WI d mX8_isLetter K 12 [(0, .int v0)] [] τ))) : x_CI d mX8_isLetter [.int v0] τ K := by
  refine x_CI_of (by decide) (Nat.le_of_ble_eq_true rfl) ?_
  show x_WI d mX8_isLetter K 0 [(0, .int v0)] [] τ
  refine o_iload_n (k := 0) 0 (by decide +kernel) rfl ?_
  refine o_bipush (n := 97) (v := 97) (by decide +kernel) (by decide) ?_
  refine o_icmp_lt (off := 9) 12 (by decide +kernel) (by decide) (fun q => ?_) (fun q => ?_)
  · replace h := h.1 q
    exact h
  · replace h := h.2 q
    refine o_iload_n (k := 0) 0 (by decide +kernel) rfl ?_
    refine o_bipush (n := 122) (v := 122) (by decide +kernel) (by decide) ?_
    refine o_icmp_le (off := 15) 24 (by decide +kernel) (by decide) (fun q => ?_) (fun q => ?_)
    · replace h := h.1 q
      refine o_iconst (n := 1) (v := 1) (by decide +kernel) (by decide) ?_
      refine o_goto (off := 4) 29 (by decide +kernel) (by decide) ?_
      exact f_iret (ty := .boolean) rfl (by decide) (by decide +kernel) rfl h
    · replace h := h.2 q
      exact h
set_option maxRecDepth 20000 in
theorem k_X8_isLetter_12 {d : Nat} {K : x_T → Int32 → Prop} {v0 : Int32} {τ : x_T} (h : (v0 < 65 → K τ 0) ∧ (¬ v0 < 65 → (90 < v0 → K τ 0) ∧ (¬ 90 < v0 → K τ 1))) : x_WI d mX8_isLetter K 12 [(0, .int v0)] [] τ := by
  refine o_iload_n (k := 0) 0 (by decide +kernel) rfl ?_
  refine o_bipush (n := 65) (v := 65) (by decide +kernel) (by decide) ?_
  refine o_icmp_lt (off := 13) 28 (by decide +kernel) (by decide) (fun q => ?_) (fun q => ?_)
  · replace h := h.1 q
    refine o_iconst (n := 0) (v := 0) (by decide +kernel) (by decide) ?_
    exact f_iret (ty := .boolean) rfl (by decide) (by decide +kernel) rfl h
  · replace h := h.2 q
    refine o_iload_n (k := 0) 0 (by decide +kernel) rfl ?_
    refine o_bipush (n := 90) (v := 90) (by decide +kernel) (by decide) ?_
    refine o_icmp_gt (off := 7) 28 (by decide +kernel) (by decide) (fun q => ?_) (fun q => ?_)
    · replace h := h.1 q
      refine o_iconst (n := 0) (v := 0) (by decide +kernel) (by decide) ?_
      exact f_iret (ty := .boolean) rfl (by decide) (by decide +kernel) rfl h
    · replace h := h.2 q
      refine o_iconst (n := 1) (v := 1) (by decide +kernel) (by decide) ?_
      refine o_goto (off := 4) 29 (by decide +kernel) (by decide) ?_
      exact f_iret (ty := .boolean) rfl (by decide) (by decide +kernel) rfl h
set_option maxRecDepth 20000 in
theorem e_X8_isDigit {d : Nat} {K : x_T → Int32 → Prop} {v0 : Int32} {τ : x_T} (h : (v0 < 48 → K τ 0) ∧ (¬ v0 < 48 → (57 < v0 → K τ 0) ∧ (¬ 57 < v0 → K τ 1))) : x_CI d mX8_isDigit [.int v0] τ K := by
  refine x_CI_of (by decide) (Nat.le_of_ble_eq_true rfl) ?_
  show x_WI d mX8_isDigit K 0 [(0, .int v0)] [] τ
  refine o_iload_n (k := 0) 0 (by decide +kernel) rfl ?_
  refine o_bipush (n := 48) (v := 48) (by decide +kernel) (by decide) ?_
  refine o_icmp_lt (off := 13) 16 (by decide +kernel) (by decide) (fun q => ?_) (fun q => ?_)
  · replace h := h.1 q
    refine o_iconst (n := 0) (v := 0) (by decide +kernel) (by decide) ?_
    exact f_iret (ty := .boolean) rfl (by decide) (by decide +kernel) rfl h
  · replace h := h.2 q
    refine o_iload_n (k := 0) 0 (by decide +kernel) rfl ?_
    refine o_bipush (n := 57) (v := 57) (by decide +kernel) (by decide) ?_
    refine o_icmp_gt (off := 7) 16 (by decide +kernel) (by decide) (fun q => ?_) (fun q => ?_)
    · replace h := h.1 q
      refine o_iconst (n := 0) (v := 0) (by decide +kernel) (by decide) ?_
      exact f_iret (ty := .boolean) rfl (by decide) (by decide +kernel) rfl h
    · replace h := h.2 q
      refine o_iconst (n := 1) (v := 1) (by decide +kernel) (by decide) ?_
      refine o_goto (off := 4) 17 (by decide +kernel) (by decide) ?_
      exact f_iret (ty := .boolean) rfl (by decide) (by decide +kernel) rfl h
set_option maxRecDepth 20000 in
theorem e_X8_note {d : Nat} {K : x_T → Prop} {v1 : Int32} {v2 : Int32} {v3 : Int32} {τ : x_T} (h : (τ.1 314 5 < 0 → K τ) ∧ (¬ τ.1 314 5 < 0 → (301 ≤ τ.1 314 5 → K τ) ∧ (¬ 301 ≤ τ.1 314 5 → vp_in (τ.1 314 5) 301 ∧ (∀ t1, t1 = x_w1 τ 316 ((τ.1 314 5).toNatClampNeg) v1 → (vp_in (t1.1 314 5) 301 ∧ (∀ t2, t2 = x_w1 t1 317 ((t1.1 314 5).toNatClampNeg) v2 → (vp_in (t2.1 314 5) 301 ∧ (∀ t3, t3 = x_w1 t2 318 ((t2.1 314 5).toNatClampNeg) v3 → (∀ t4, t4 = x_w1 t3 314 5 ((t3.1 314 5) + 1) → (K t4)))))))))) : x_CV d mX8_note [.ref 314, .int v1, .int v2, .int v3] τ K := by
  refine x_CV_of (by decide) (Nat.le_of_ble_eq_true rfl) ?_
  show x_WV d mX8_note K 0 [(0, .ref 314), (1, .int v1), (2, .int v2), (3, .int v3)] [] τ
  refine o_aload_n (k := 0) 0 (by decide +kernel) rfl ?_
  refine f_getI (t := 8) (k := 5) (i := 28) (by decide +kernel) sh_314 rfl (by decide) lk_357 rfl ?_
  refine o_if_lt (off := 53) 57 (by decide +kernel) (by decide) (fun q => ?_) (fun q => ?_)
  · replace h := h.1 q
    exact f_vret rfl (by decide +kernel) rfl h
  · replace h := h.2 q
    refine o_aload_n (k := 0) 0 (by decide +kernel) rfl ?_
    refine f_getI (t := 8) (k := 5) (i := 28) (by decide +kernel) sh_314 rfl (by decide) lk_357 rfl ?_
    refine o_sipush (n := 301) (v := 301) (by decide +kernel) (by decide) ?_
    refine o_icmp_ge (off := 43) 57 (by decide +kernel) (by decide) (fun q => ?_) (fun q => ?_)
    · replace h := h.1 q
      exact f_vret rfl (by decide +kernel) rfl h
    · replace h := h.2 q
      refine o_aload_n (k := 0) 0 (by decide +kernel) rfl ?_
      refine f_getR (r := 316) (t := 8) (k := 2) (i := 15) (by decide +kernel) sh_314 rfl (by decide) lk_354 (by simp [x_ty, tyX8]) (gr_8_2 sh_314) ?_
      refine o_aload_n (k := 0) 0 (by decide +kernel) rfl ?_
      refine f_getI (t := 8) (k := 5) (i := 28) (by decide +kernel) sh_314 rfl (by decide) lk_357 rfl ?_
      refine o_iload_n (k := 1) 1 (by decide +kernel) rfl ?_
      obtain ⟨hi, h⟩ := h
      refine f_iast (by decide +kernel) sh_316 hi rfl ?_
      refine f_name (fun t1 et1 => ?_)
      replace h := h t1 et1
      refine o_aload_n (k := 0) 0 (by decide +kernel) rfl ?_
      refine f_getR (r := 317) (t := 8) (k := 3) (i := 18) (by decide +kernel) sh_314 rfl (by decide) lk_355 (by simp [x_ty, tyX8]) (gr_8_3 sh_314) ?_
      refine o_aload_n (k := 0) 0 (by decide +kernel) rfl ?_
      refine f_getI (t := 8) (k := 5) (i := 28) (by decide +kernel) sh_314 rfl (by decide) lk_357 rfl ?_
      refine o_iload_n (k := 2) 2 (by decide +kernel) rfl ?_
      obtain ⟨hi, h⟩ := h
      refine f_iast (by decide +kernel) sh_317 hi rfl ?_
      refine f_name (fun t2 et2 => ?_)
      replace h := h t2 et2
      refine o_aload_n (k := 0) 0 (by decide +kernel) rfl ?_
      refine f_getR (r := 318) (t := 8) (k := 4) (i := 21) (by decide +kernel) sh_314 rfl (by decide) lk_356 (by simp [x_ty, tyX8]) (gr_8_4 sh_314) ?_
      refine o_aload_n (k := 0) 0 (by decide +kernel) rfl ?_
      refine f_getI (t := 8) (k := 5) (i := 28) (by decide +kernel) sh_314 rfl (by decide) lk_357 rfl ?_
      refine o_iload_n (k := 3) 3 (by decide +kernel) rfl ?_
      obtain ⟨hi, h⟩ := h
      refine f_iast (by decide +kernel) sh_318 hi rfl ?_
      refine f_name (fun t3 et3 => ?_)
      replace h := h t3 et3
      refine o_aload_n (k := 0) 0 (by decide +kernel) rfl ?_
      refine o_dup (by decide +kernel) rfl ?_
      refine f_getI (t := 8) (k := 5) (i := 28) (by decide +kernel) sh_314 rfl (by decide) lk_357 rfl ?_
      refine o_iconst (n := 1) (v := 1) (by decide +kernel) (by decide) ?_
      refine o_iadd (by decide +kernel) ?_
      refine f_putI (t := 8) (k := 5) (i := 28) (by decide +kernel) sh_314 rfl (by decide) lk_357 rfl rfl ?_
      refine f_name (fun t4 et4 => ?_)
      replace h := h t4 et4
      exact f_vret rfl (by decide +kernel) rfl h
set_option maxRecDepth 20000 in
theorem e_X8_cutWord {d : Nat} {K : x_T → Int32 → Prop} {v1 : Int32} {τ : x_T} (h : x_WI (d + 1) mX8_cutWord K 2 [(0, .ref 314), (1, .int v1), (2, .int v1)] [] τ) : x_CI (d + 1) mX8_cutWord [.ref 314, .int v1] τ K := by
  refine x_CI_of (by decide) (Nat.le_of_ble_eq_true rfl) ?_
  show x_WI (d + 1) mX8_cutWord K 0 [(0, .ref 314), (1, .int v1)] [] τ
  refine o_iload_n (k := 1) 1 (by decide +kernel) rfl ?_
  refine o_istore_n (k := 2) (L' := [(2, .int v1), (0, .ref 314), (1, .int v1)]) (by decide +kernel) (by decide) rfl ?_
  refine o_sub [1, 2, 0] rfl ?_
  exact h
set_option maxRecDepth 20000 in
theorem k_X8_cutWord_2 {d : Nat} {K : x_T → Int32 → Prop} {v1 : Int32} {v2 : Int32} {τ : x_T} (h : (τ.1 314 1 ≤ v2 → x_WI (d + 1) mX8_cutWord K 27 [(0, .ref 314), (1, .int v1), (2, .int v2)] [] τ) ∧ (¬ τ.1 314 1 ≤ v2 → x_CI d mX8_byteAt [.ref 314, .int v2] τ (fun t1 a2 => x_CI d mX8_isLetter [.int a2] t1 (fun t3 a4 => (a4 = 0 → x_WI (d + 1) mX8_cutWord K 27 [(0, .ref 314), (1, .int v1), (2, .int v2)] [] t3) ∧ (¬ a4 = 0 → ∀ y5, y5 = v2 + 1 → (x_WI (d + 1) mX8_cutWord K 2 [(0, .ref 314), (1, .int v1), (2, .int y5)] [] t3)))))) : x_WI (d + 1) mX8_cutWord K 2 [(0, .ref 314), (1, .int v1), (2, .int v2)] [] τ := by
  refine o_iload_n (k := 2) 2 (by decide +kernel) rfl ?_
  refine o_aload_n (k := 0) 0 (by decide +kernel) rfl ?_
  refine f_getI (t := 8) (k := 1) (i := 24) (by decide +kernel) sh_314 rfl (by decide) lk_352 rfl ?_
  refine o_icmp_ge (off := 20) 27 (by decide +kernel) (by decide) (fun q => ?_) (fun q => ?_)
  · replace h := h.1 q
    exact h
  · replace h := h.2 q
    refine o_aload_n (k := 0) 0 (by decide +kernel) rfl ?_
    refine o_iload_n (k := 2) 2 (by decide +kernel) rfl ?_
    refine f_callVI (μ' := mX8_byteAt) (i := 31) (vs := [.int v2]) (by decide +kernel) lk_808 (vok_mX8_byteAt) sh_314 rfl rfl rfl rfl (Nat.le_of_ble_eq_true rfl) ?_
    refine x_CI.mono h (fun t1 a2 h => ?_)
    refine f_callSI (μ' := mX8_isLetter) (i := 35) (vs := [.int a2]) (by decide +kernel) lk_812 (cok_mX8_isLetter) rfl (stt_mX8_isLetter) rfl rfl (Nat.le_of_ble_eq_true rfl) ?_
    refine x_CI.mono h (fun t3 a4 h => ?_)
    refine o_if_eq (off := 9) 27 (by decide +kernel) (by decide) (fun q => ?_) (fun q => ?_)
    · replace h := h.1 q
      exact h
    · replace h := h.2 q
      obtain ⟨y5, ey5⟩ : ∃ y : Int32, y = v2 + 1 := ⟨_, rfl⟩
      replace h := h y5 ey5
      refine o_iinc (i := 2) (n := 1) (v := y5) (L' := [(2, .int y5), (0, .ref 314), (1, .int v1)]) 2 (by decide +kernel) rfl (by rw [ey5]; rfl) (by decide) rfl ?_
      refine o_goto (off := -22) 2 (by decide +kernel) (by decide) ?_
      refine o_sub [1, 2, 0] rfl ?_
      exact h
set_option maxRecDepth 20000 in
theorem k_X8_cutWord_27 {d : Nat} {K : x_T → Int32 → Prop} {v1 : Int32} {v2 : Int32} {τ : x_T} (h : x_CI d mX8_wordOf [.ref 314, .int v1, .int v2] τ (fun t1 a2 => x_CV d mX8_note [.ref 314, .int a2, .int 0, .int v1] t1 (fun t3 => K t3 v2))) : x_WI (d + 1) mX8_cutWord K 27 [(0, .ref 314), (1, .int v1), (2, .int v2)] [] τ := by
  refine o_aload_n (k := 0) 0 (by decide +kernel) rfl ?_
  refine o_aload_n (k := 0) 0 (by decide +kernel) rfl ?_
  refine o_iload_n (k := 1) 1 (by decide +kernel) rfl ?_
  refine o_iload_n (k := 2) 2 (by decide +kernel) rfl ?_
  refine f_callVI (μ' := mX8_wordOf) (i := 55) (vs := [.int v1, .int v2]) (by decide +kernel) lk_819 (vok_mX8_wordOf) sh_314 rfl rfl rfl rfl (Nat.le_of_ble_eq_true rfl) ?_
  refine x_CI.mono h (fun t1 a2 h => ?_)
  refine o_iconst (n := 0) (v := 0) (by decide +kernel) (by decide) ?_
  refine o_iload_n (k := 1) 1 (by decide +kernel) rfl ?_
  refine f_callVV (μ' := mX8_note) (i := 51) (vs := [.int a2, .int 0, .int v1]) (by decide +kernel) lk_872 (vok_mX8_note) sh_314 rfl rfl rfl rfl (Nat.le_of_ble_eq_true rfl) ?_
  refine x_CV.mono h (fun t3 h => ?_)
  refine o_iload_n (k := 2) 2 (by decide +kernel) rfl ?_
  exact f_iret (ty := .int) rfl rfl (by decide +kernel) rfl h
set_option maxRecDepth 20000 in
theorem e_X8_cutNumber {d : Nat} {K : x_T → Int32 → Prop} {v1 : Int32} {τ : x_T} (h : x_WI (d + 1) mX8_cutNumber K 4 [(0, .ref 314), (1, .int v1), (2, .int v1), (3, .int 0)] [] τ) : x_CI (d + 1) mX8_cutNumber [.ref 314, .int v1] τ K := by
  refine x_CI_of (by decide) (Nat.le_of_ble_eq_true rfl) ?_
  show x_WI (d + 1) mX8_cutNumber K 0 [(0, .ref 314), (1, .int v1)] [] τ
  refine o_iload_n (k := 1) 1 (by decide +kernel) rfl ?_
  refine o_istore_n (k := 2) (L' := [(2, .int v1), (0, .ref 314), (1, .int v1)]) (by decide +kernel) (by decide) rfl ?_
  refine o_iconst (n := 0) (v := 0) (by decide +kernel) (by decide) ?_
  refine o_istore_n (k := 3) (L' := [(3, .int 0), (2, .int v1), (0, .ref 314), (1, .int v1)]) (by decide +kernel) (by decide) rfl ?_
  refine o_sub [2, 3, 1, 0] rfl ?_
  exact h
set_option maxRecDepth 20000 in
theorem k_X8_cutNumber_4 {d : Nat} {K : x_T → Int32 → Prop} {v1 : Int32} {v2 : Int32} {v3 : Int32} {τ : x_T} (h : (τ.1 314 1 ≤ v2 → x_WI (d + 1) mX8_cutNumber K 49 [(0, .ref 314), (1, .int v1), (2, .int v2), (3, .int v3)] [] τ) ∧ (¬ τ.1 314 1 ≤ v2 → x_CI d mX8_byteAt [.ref 314, .int v2] τ (fun t1 a2 => x_CI d mX8_isDigit [.int a2] t1 (fun t3 a4 => (a4 = 0 → x_WI (d + 1) mX8_cutNumber K 49 [(0, .ref 314), (1, .int v1), (2, .int v2), (3, .int v3)] [] t3) ∧ (¬ a4 = 0 → x_CI d mX8_byteAt [.ref 314, .int v2] t3 (fun t5 a6 => ∀ y7, y7 = (if ((v3 * 10) + a6) - 48 < 10000 then ((v3 * 10) + a6) - 48 else 10000) → (∀ y8, y8 = v2 + 1 → (x_WI (d + 1) mX8_cutNumber K 4 [(0, .ref 314), (1, .int v1), (2, .int y8), (3, .int y7)] [] t5)))))))) : x_WI (d + 1) mX8_cutNumber K 4 [(0, .ref 314), (1, .int v1), (2, .int v2), (3, .int v3)] [] τ := by
  refine o_iload_n (k := 2) 2 (by decide +kernel) rfl ?_
  refine o_aload_n (k := 0) 0 (by decide +kernel) rfl ?_
  refine f_getI (t := 8) (k := 1) (i := 24) (by decide +kernel) sh_314 rfl (by decide) lk_352 rfl ?_
  refine o_icmp_ge (off := 40) 49 (by decide +kernel) (by decide) (fun q => ?_) (fun q => ?_)
  · replace h := h.1 q
    exact h
  · replace h := h.2 q
    refine o_aload_n (k := 0) 0 (by decide +kernel) rfl ?_
    refine o_iload_n (k := 2) 2 (by decide +kernel) rfl ?_
    refine f_callVI (μ' := mX8_byteAt) (i := 31) (vs := [.int v2]) (by decide +kernel) lk_808 (vok_mX8_byteAt) sh_314 rfl rfl rfl rfl (Nat.le_of_ble_eq_true rfl) ?_
    refine x_CI.mono h (fun t1 a2 h => ?_)
    refine f_callSI (μ' := mX8_isDigit) (i := 42) (vs := [.int a2]) (by decide +kernel) lk_876 (cok_mX8_isDigit) rfl (stt_mX8_isDigit) rfl rfl (Nat.le_of_ble_eq_true rfl) ?_
    refine x_CI.mono h (fun t3 a4 h => ?_)
    refine o_if_eq (off := 29) 49 (by decide +kernel) (by decide) (fun q => ?_) (fun q => ?_)
    · replace h := h.1 q
      exact h
    · replace h := h.2 q
      refine o_sipush (n := 10000) (v := 10000) (by decide +kernel) (by decide) ?_
      refine o_iload_n (k := 3) 3 (by decide +kernel) rfl ?_
      refine o_bipush (n := 10) (v := 10) (by decide +kernel) (by decide) ?_
      refine o_imul (by decide +kernel) ?_
      refine o_aload_n (k := 0) 0 (by decide +kernel) rfl ?_
      refine o_iload_n (k := 2) 2 (by decide +kernel) rfl ?_
      refine f_callVI (μ' := mX8_byteAt) (i := 31) (vs := [.int v2]) (by decide +kernel) lk_808 (vok_mX8_byteAt) sh_314 rfl rfl rfl rfl (Nat.le_of_ble_eq_true rfl) ?_
      refine x_CI.mono h (fun t5 a6 h => ?_)
      refine o_iadd (by decide +kernel) ?_
      refine o_bipush (n := 48) (v := 48) (by decide +kernel) (by decide) ?_
      refine o_isub (by decide +kernel) ?_
      refine o_mmin (i := 70) (by decide +kernel) lk_883 lm_min (Nat.le_of_ble_eq_true rfl) ?_
      refine o_name (fun y7 ey7 => ?_)
      replace h := h y7 ey7
      refine o_istore_n (k := 3) (L' := [(3, .int y7), (0, .ref 314), (1, .int v1), (2, .int v2)]) (by decide +kernel) (by decide) rfl ?_
      obtain ⟨y8, ey8⟩ : ∃ y : Int32, y = v2 + 1 := ⟨_, rfl⟩
      replace h := h y8 ey8
      refine o_iinc (i := 2) (n := 1) (v := y8) (L' := [(2, .int y8), (3, .int y7), (0, .ref 314), (1, .int v1)]) 3 (by decide +kernel) rfl (by rw [ey8]; rfl) (by decide) rfl ?_
      refine o_goto (off := -42) 4 (by decide +kernel) (by decide) ?_
      refine o_sub [2, 3, 0, 1] rfl ?_
      exact h
set_option maxRecDepth 20000 in
theorem k_X8_cutNumber_49 {d : Nat} {K : x_T → Int32 → Prop} {v1 : Int32} {v2 : Int32} {v3 : Int32} {τ : x_T} (h : x_CV d mX8_note [.ref 314, .int 45, .int v3, .int v1] τ (fun t1 => K t1 v2)) : x_WI (d + 1) mX8_cutNumber K 49 [(0, .ref 314), (1, .int v1), (2, .int v2), (3, .int v3)] [] τ := by
  refine o_aload_n (k := 0) 0 (by decide +kernel) rfl ?_
  refine o_bipush (n := 45) (v := 45) (by decide +kernel) (by decide) ?_
  refine o_iload_n (k := 3) 3 (by decide +kernel) rfl ?_
  refine o_iload_n (k := 1) 1 (by decide +kernel) rfl ?_
  refine f_callVV (μ' := mX8_note) (i := 51) (vs := [.int 45, .int v3, .int v1]) (by decide +kernel) lk_872 (vok_mX8_note) sh_314 rfl rfl rfl rfl (Nat.le_of_ble_eq_true rfl) ?_
  refine x_CV.mono h (fun t1 h => ?_)
  refine o_iload_n (k := 2) 2 (by decide +kernel) rfl ?_
  exact f_iret (ty := .int) rfl rfl (by decide +kernel) rfl h
