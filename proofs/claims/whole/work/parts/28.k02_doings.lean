set_option maxRecDepth 20000 in
theorem e_X2_canSetOff {d : Nat} {K : x_T → Int32 → Prop} {r1 : Nat} (h1 : x_sh r1 = (1, 11)) {v2 : Int32} {v3 : Int32} {τ : x_T} (h : (¬ τ.1 r1 2 = 0 → K τ 0) ∧ (τ.1 r1 2 = 0 → x_CI d mX3_isPusher [.ref 1, .int v3] τ (fun t1 a2 => (a2 = 0 → K t1 0) ∧ (¬ a2 = 0 → x_CI d mX3_laneBetween [.ref 1, .int (t1.1 r1 0), .int v2] t1 (fun t3 a4 => (a4 ≤ 0 → K t3 0) ∧ (¬ a4 ≤ 0 → K t3 1)))))) : x_CI (d + 1) mX2_canSetOff [.ref 332, .ref r1, .int v2, .int v3] τ K := by
  refine x_CI_of (by decide) (Nat.le_of_ble_eq_true rfl) ?_
  show x_WI (d + 1) mX2_canSetOff K 0 [(0, .ref 332), (1, .ref r1), (2, .int v2), (3, .int v3)] [] τ
  refine o_aload_n (k := 1) 1 (by decide +kernel) rfl ?_
  refine f_getI (t := 1) (k := 2) (i := 19) (by decide +kernel) h1 rfl (by decide) lk_233 rfl ?_
  refine o_if_ne (off := 33) 37 (by decide +kernel) (by decide) (fun q => ?_) (fun q => ?_)
  · replace h := h.1 q
    refine o_iconst (n := 0) (v := 0) (by decide +kernel) (by decide) ?_
    exact f_iret (ty := .boolean) rfl (by decide) (by decide +kernel) rfl h
  · replace h := h.2 q
    refine o_aload_n (k := 0) 0 (by decide +kernel) rfl ?_
    refine f_getR (r := 1) (t := 2) (k := 0) (i := 9) (by decide +kernel) sh_332 rfl (by decide) lk_429 (by simp [x_ty, tyX2]) (gr_2_0 sh_332) ?_
    refine o_iload_n (k := 3) 3 (by decide +kernel) rfl ?_
    refine f_callVI (μ' := mX3_isPusher) (i := 25) (vs := [.int v3]) (by decide +kernel) lk_593 (vok_mX3_isPusher) sh_1 rfl rfl rfl rfl (Nat.le_of_ble_eq_true rfl) ?_
    refine x_CI.mono h (fun t1 a2 h => ?_)
    refine o_if_eq (off := 22) 37 (by decide +kernel) (by decide) (fun q => ?_) (fun q => ?_)
    · replace h := h.1 q
      refine o_iconst (n := 0) (v := 0) (by decide +kernel) (by decide) ?_
      exact f_iret (ty := .boolean) rfl (by decide) (by decide +kernel) rfl h
    · replace h := h.2 q
      refine o_aload_n (k := 0) 0 (by decide +kernel) rfl ?_
      refine f_getR (r := 1) (t := 2) (k := 0) (i := 9) (by decide +kernel) sh_332 rfl (by decide) lk_429 (by simp [x_ty, tyX2]) (gr_2_0 sh_332) ?_
      refine o_aload_n (k := 1) 1 (by decide +kernel) rfl ?_
      refine f_getI (t := 1) (k := 0) (i := 31) (by decide +kernel) h1 rfl (by decide) lk_226 rfl ?_
      refine o_iload_n (k := 2) 2 (by decide +kernel) rfl ?_
      refine f_callVI (μ' := mX3_laneBetween) (i := 34) (vs := [.int (t1.1 r1 0), .int v2]) (by decide +kernel) lk_597 (vok_mX3_laneBetween) sh_1 rfl rfl rfl rfl (Nat.le_of_ble_eq_true rfl) ?_
      refine x_CI.mono h (fun t3 a4 h => ?_)
      refine o_if_le (off := 7) 37 (by decide +kernel) (by decide) (fun q => ?_) (fun q => ?_)
      · replace h := h.1 q
        refine o_iconst (n := 0) (v := 0) (by decide +kernel) (by decide) ?_
        exact f_iret (ty := .boolean) rfl (by decide) (by decide +kernel) rfl h
      · replace h := h.2 q
        refine o_iconst (n := 1) (v := 1) (by decide +kernel) (by decide) ?_
        refine o_goto (off := 4) 38 (by decide +kernel) (by decide) ?_
        exact f_iret (ty := .boolean) rfl (by decide) (by decide +kernel) rfl h
set_option maxRecDepth 20000 in
theorem e_X2_setOff {d : Nat} {K : x_T → Prop} {r1 : Nat} (h1 : x_sh r1 = (1, 11)) {v2 : Int32} {v3 : Int32} {τ : x_T} (h : x_CI d mX4_hardness [.ref 329, .ref r1, .int (τ.1 r1 0), .int v2, .int v3] τ (fun t1 a2 => ∀ t3, t3 = x_w1 t1 r1 2 a2 → (∀ t4, t4 = x_w1 t3 r1 1 v2 → (∀ t5, t5 = x_w1 t4 r1 3 v3 → (K t5))))) : x_CV (d + 1) mX2_setOff [.ref 332, .ref r1, .int v2, .int v3] τ K := by
  refine x_CV_of (by decide) (Nat.le_of_ble_eq_true rfl) ?_
  show x_WV (d + 1) mX2_setOff K 0 [(0, .ref 332), (1, .ref r1), (2, .int v2), (3, .int v3)] [] τ
  refine o_aload_n (k := 1) 1 (by decide +kernel) rfl ?_
  refine o_aload_n (k := 0) 0 (by decide +kernel) rfl ?_
  refine f_getR (r := 329) (t := 2) (k := 1) (i := 15) (by decide +kernel) sh_332 rfl (by decide) lk_430 (by simp [x_ty, tyX2]) (gr_2_1 sh_332) ?_
  refine o_aload_n (k := 1) 1 (by decide +kernel) rfl ?_
  refine o_aload_n (k := 1) 1 (by decide +kernel) rfl ?_
  refine f_getI (t := 1) (k := 0) (i := 31) (by decide +kernel) h1 rfl (by decide) lk_226 rfl ?_
  refine o_iload_n (k := 2) 2 (by decide +kernel) rfl ?_
  refine o_iload_n (k := 3) 3 (by decide +kernel) rfl ?_
  refine f_callVI (μ' := mX4_hardness) (i := 38) (vs := [.ref r1, .int (τ.1 r1 0), .int v2, .int v3]) (by decide +kernel) lk_620 (vok_mX4_hardness) sh_329 rfl rfl rfl rfl (Nat.le_of_ble_eq_true rfl) ?_
  refine x_CI.mono h (fun t1 a2 h => ?_)
  refine f_putI (t := 1) (k := 2) (i := 19) (by decide +kernel) h1 rfl (by decide) lk_233 rfl rfl ?_
  refine f_name (fun t3 et3 => ?_)
  replace h := h t3 et3
  refine o_aload_n (k := 1) 1 (by decide +kernel) rfl ?_
  refine o_iload_n (k := 2) 2 (by decide +kernel) rfl ?_
  refine f_putI (t := 1) (k := 1) (i := 44) (by decide +kernel) h1 rfl (by decide) lk_231 rfl rfl ?_
  refine f_name (fun t4 et4 => ?_)
  replace h := h t4 et4
  refine o_aload_n (k := 1) 1 (by decide +kernel) rfl ?_
  refine o_iload_n (k := 3) 3 (by decide +kernel) rfl ?_
  refine f_putI (t := 1) (k := 3) (i := 47) (by decide +kernel) h1 rfl (by decide) lk_238 rfl rfl ?_
  refine f_name (fun t5 et5 => ?_)
  replace h := h t5 et5
  exact f_vret rfl (by decide +kernel) rfl h
set_option maxRecDepth 20000 in
theorem e_X2_tipOver {d : Nat} {K : x_T → Prop} {r1 : Nat} (h1 : x_sh r1 = (1, 11)) {τ : x_T} (h : x_CV d mX1_lieAt [.ref r1, .int (τ.1 r1 0)] τ (fun t1 => ∀ y3, y3 = (if 0 < (t1.1 r1 4) - 5 then (t1.1 r1 4) - 5 else 0) → (∀ t4, t4 = x_w1 t1 r1 4 y3 → (K t4)))) : x_CV (d + 1) mX2_tipOver [.ref 332, .ref r1] τ K := by
  refine x_CV_of (by decide) (Nat.le_of_ble_eq_true rfl) ?_
  show x_WV (d + 1) mX2_tipOver K 0 [(0, .ref 332), (1, .ref r1)] [] τ
  refine o_aload_n (k := 1) 1 (by decide +kernel) rfl ?_
  refine o_aload_n (k := 1) 1 (by decide +kernel) rfl ?_
  refine f_getI (t := 1) (k := 0) (i := 31) (by decide +kernel) h1 rfl (by decide) lk_226 rfl ?_
  refine f_callVV (μ' := mX1_lieAt) (i := 50) (vs := [.int (τ.1 r1 0)]) (by decide +kernel) lk_702 (vok_mX1_lieAt) h1 rfl rfl rfl rfl (Nat.le_of_ble_eq_true rfl) ?_
  refine x_CV.mono h (fun t1 h => ?_)
  refine o_aload_n (k := 1) 1 (by decide +kernel) rfl ?_
  refine o_iconst (n := 0) (v := 0) (by decide +kernel) (by decide) ?_
  refine o_aload_n (k := 1) 1 (by decide +kernel) rfl ?_
  refine f_getI (t := 1) (k := 4) (i := 54) (by decide +kernel) h1 rfl (by decide) lk_241 rfl ?_
  refine o_iconst (n := 5) (v := 5) (by decide +kernel) (by decide) ?_
  refine o_isub (by decide +kernel) ?_
  refine o_mmax (i := 57) (by decide +kernel) lk_706 lm_max (Nat.le_of_ble_eq_true rfl) ?_
  refine o_name (fun y3 ey3 => ?_)
  replace h := h y3 ey3
  refine f_putI (t := 1) (k := 4) (i := 54) (by decide +kernel) h1 rfl (by decide) lk_241 rfl rfl ?_
  refine f_name (fun t4 et4 => ?_)
  replace h := h t4 et4
  exact f_vret rfl (by decide +kernel) rfl h
set_option maxRecDepth 20000 in
theorem e_X2_passMinute {d : Nat} {K : x_T → Int32 → Prop} {r1 : Nat} (h1 : x_sh r1 = (1, 11)) {τ : x_T} (h : x_CV d mX2_roll [.ref 332, .ref r1] τ (fun t1 => x_WI (d + 1) mX2_passMinute K 9 [(0, .ref 332), (1, .ref r1), (2, .int 0), (3, .int 0)] [] t1)) : x_CI (d + 1) mX2_passMinute [.ref 332, .ref r1] τ K := by
  refine x_CI_of (by decide) (Nat.le_of_ble_eq_true rfl) ?_
  show x_WI (d + 1) mX2_passMinute K 0 [(0, .ref 332), (1, .ref r1)] [] τ
  refine o_aload_n (k := 0) 0 (by decide +kernel) rfl ?_
  refine o_aload_n (k := 1) 1 (by decide +kernel) rfl ?_
  refine f_callVV (μ' := mX2_roll) (i := 62) (vs := [.ref r1]) (by decide +kernel) lk_719 (vok_mX2_roll) sh_332 rfl rfl rfl rfl (Nat.le_of_ble_eq_true rfl) ?_
  refine x_CV.mono h (fun t1 h => ?_)
  refine o_iconst (n := 0) (v := 0) (by decide +kernel) (by decide) ?_
  refine o_istore_n (k := 2) (L' := [(2, .int 0), (0, .ref 332), (1, .ref r1)]) (by decide +kernel) (by decide) rfl ?_
  refine o_iconst (n := 0) (v := 0) (by decide +kernel) (by decide) ?_
  refine o_istore_n (k := 3) (L' := [(3, .int 0), (2, .int 0), (0, .ref 332), (1, .ref r1)]) (by decide +kernel) (by decide) rfl ?_
  refine o_sub [2, 3, 1, 0] rfl ?_
  exact h
set_option maxRecDepth 20000 in
theorem k_X2_passMinute_9 {d : Nat} {K : x_T → Int32 → Prop} {r1 : Nat} (h1 : x_sh r1 = (1, 11)) {v2 : Int32} {v3 : Int32} {τ : x_T} (h : (τ.1 1 0 ≤ v3 → ∀ t1, t1 = x_w1 τ r1 5 ((τ.1 r1 5) + 1) → (K t1 v2)) ∧ (¬ τ.1 1 0 ≤ v3 → x_CI d mX2_fallsInDebt [.ref 332, .ref r1, .int v3] τ (fun t2 a3 => (a3 = 0 → x_WI (d + 1) mX2_passMinute K 32 [(0, .ref 332), (1, .ref r1), (2, .int v2), (3, .int v3)] [] t2) ∧ (¬ a3 = 0 → ∀ y4, y4 = v2 + 1 → (x_WI (d + 1) mX2_passMinute K 32 [(0, .ref 332), (1, .ref r1), (2, .int y4), (3, .int v3)] [] t2))))) : x_WI (d + 1) mX2_passMinute K 9 [(0, .ref 332), (1, .ref r1), (2, .int v2), (3, .int v3)] [] τ := by
  refine o_iload_n (k := 3) 3 (by decide +kernel) rfl ?_
  refine o_aload_n (k := 0) 0 (by decide +kernel) rfl ?_
  refine f_getR (r := 1) (t := 2) (k := 0) (i := 9) (by decide +kernel) sh_332 rfl (by decide) lk_429 (by simp [x_ty, tyX2]) (gr_2_0 sh_332) ?_
  refine f_getI (t := 3) (k := 0) (i := 66) (by decide +kernel) sh_1 rfl (by decide) lk_180 rfl ?_
  refine o_icmp_ge (off := 21) 38 (by decide +kernel) (by decide) (fun q => ?_) (fun q => ?_)
  · replace h := h.1 q
    refine o_aload_n (k := 1) 1 (by decide +kernel) rfl ?_
    refine o_dup (by decide +kernel) rfl ?_
    refine f_getI (t := 1) (k := 5) (i := 73) (by decide +kernel) h1 rfl (by decide) lk_246 rfl ?_
    refine o_iconst (n := 1) (v := 1) (by decide +kernel) (by decide) ?_
    refine o_iadd (by decide +kernel) ?_
    refine f_putI (t := 1) (k := 5) (i := 73) (by decide +kernel) h1 rfl (by decide) lk_246 rfl rfl ?_
    refine f_name (fun t1 et1 => ?_)
    replace h := h t1 et1
    refine o_iload_n (k := 2) 2 (by decide +kernel) rfl ?_
    exact f_iret (ty := .int) rfl rfl (by decide +kernel) rfl h
  · replace h := h.2 q
    refine o_aload_n (k := 0) 0 (by decide +kernel) rfl ?_
    refine o_aload_n (k := 1) 1 (by decide +kernel) rfl ?_
    refine o_iload_n (k := 3) 3 (by decide +kernel) rfl ?_
    refine f_callVI (μ' := mX2_fallsInDebt) (i := 69) (vs := [.ref r1, .int v3]) (by decide +kernel) lk_729 (vok_mX2_fallsInDebt) sh_332 rfl rfl rfl rfl (Nat.le_of_ble_eq_true rfl) ?_
    refine x_CI.mono h (fun t2 a3 h => ?_)
    refine o_if_eq (off := 6) 32 (by decide +kernel) (by decide) (fun q => ?_) (fun q => ?_)
    · replace h := h.1 q
      exact h
    · replace h := h.2 q
      obtain ⟨y4, ey4⟩ : ∃ y : Int32, y = v2 + 1 := ⟨_, rfl⟩
      replace h := h y4 ey4
      refine o_iinc (i := 2) (n := 1) (v := y4) (L' := [(2, .int y4), (0, .ref 332), (1, .ref r1), (3, .int v3)]) 2 (by decide +kernel) rfl (by rw [ey4]; rfl) (by decide) rfl ?_
      refine o_sub [1, 2, 0, 3] rfl ?_
      exact h
set_option maxRecDepth 20000 in
theorem k_X2_passMinute_32 {d : Nat} {K : x_T → Int32 → Prop} {r1 : Nat} (h1 : x_sh r1 = (1, 11)) {v2 : Int32} {v3 : Int32} {τ : x_T} (h : ∀ y1, y1 = v3 + 1 → (x_WI (d + 1) mX2_passMinute K 9 [(0, .ref 332), (1, .ref r1), (2, .int v2), (3, .int y1)] [] τ)) : x_WI (d + 1) mX2_passMinute K 32 [(0, .ref 332), (1, .ref r1), (2, .int v2), (3, .int v3)] [] τ := by
  obtain ⟨y1, ey1⟩ : ∃ y : Int32, y = v3 + 1 := ⟨_, rfl⟩
  replace h := h y1 ey1
  refine o_iinc (i := 3) (n := 1) (v := y1) (L' := [(3, .int y1), (0, .ref 332), (1, .ref r1), (2, .int v2)]) 3 (by decide +kernel) rfl (by rw [ey1]; rfl) (by decide) rfl ?_
  refine o_goto (off := -26) 9 (by decide +kernel) (by decide) ?_
  refine o_sub [1, 2, 3, 0] rfl ?_
  exact h
set_option maxRecDepth 20000 in
theorem e_X2_roll {d : Nat} {K : x_T → Prop} {r1 : Nat} (h1 : x_sh r1 = (1, 11)) {τ : x_T} (h : (0 < τ.1 r1 2 → x_CI d mX3_strengthOf [.ref 1, .int (τ.1 r1 3)] τ (fun t1 a2 => ∀ y3, y3 = (if 0 < (τ.1 r1 2) - a2 then (τ.1 r1 2) - a2 else 0) → (∀ t4, t4 = x_w1 t1 r1 2 y3 → (x_CI d mX4_wearing [.ref 329, .ref r1] t4 (fun t5 a6 => ∀ y7, y7 = (if 0 < (t4.1 r1 4) - a6 then (t4.1 r1 4) - a6 else 0) → (∀ t8, t8 = x_w1 t5 r1 4 y7 → ((¬ t8.1 r1 2 = 0 → (¬ t8.1 r1 4 = 0 → K t8) ∧ (t8.1 r1 4 = 0 → ∀ y9, y9 = (if (t8.1 r1 2) + 5 < 9999 then (t8.1 r1 2) + 5 else 9999) → (∀ t10, t10 = x_w1 t8 r1 2 y9 → (K t10)))) ∧ (t8.1 r1 2 = 0 → x_CV d mX1_lieAt [.ref r1, .int (t8.1 r1 1)] t8 (fun t11 => K t11))))))))) ∧ (¬ 0 < τ.1 r1 2 → K τ)) : x_CV (d + 1) mX2_roll [.ref 332, .ref r1] τ K := by
  refine x_CV_of (by decide) (Nat.le_of_ble_eq_true rfl) ?_
  show x_WV (d + 1) mX2_roll K 0 [(0, .ref 332), (1, .ref r1)] [] τ
  refine o_aload_n (k := 1) 1 (by decide +kernel) rfl ?_
  refine f_getI (t := 1) (k := 2) (i := 19) (by decide +kernel) h1 rfl (by decide) lk_233 rfl ?_
  refine o_if_gt (off := 4) 8 (by decide +kernel) (by decide) (fun q => ?_) (fun q => ?_)
  · replace h := h.1 q
    refine o_aload_n (k := 1) 1 (by decide +kernel) rfl ?_
    refine o_iconst (n := 0) (v := 0) (by decide +kernel) (by decide) ?_
    refine o_aload_n (k := 1) 1 (by decide +kernel) rfl ?_
    refine f_getI (t := 1) (k := 2) (i := 19) (by decide +kernel) h1 rfl (by decide) lk_233 rfl ?_
    refine o_aload_n (k := 0) 0 (by decide +kernel) rfl ?_
    refine f_getR (r := 1) (t := 2) (k := 0) (i := 9) (by decide +kernel) sh_332 rfl (by decide) lk_429 (by simp [x_ty, tyX2]) (gr_2_0 sh_332) ?_
    refine o_aload_n (k := 1) 1 (by decide +kernel) rfl ?_
    refine f_getI (t := 1) (k := 3) (i := 47) (by decide +kernel) h1 rfl (by decide) lk_238 rfl ?_
    refine f_callVI (μ' := mX3_strengthOf) (i := 76) (vs := [.int (τ.1 r1 3)]) (by decide +kernel) lk_723 (vok_mX3_strengthOf) sh_1 rfl rfl rfl rfl (Nat.le_of_ble_eq_true rfl) ?_
    refine x_CI.mono h (fun t1 a2 h => ?_)
    refine o_isub (by decide +kernel) ?_
    refine o_mmax (i := 57) (by decide +kernel) lk_706 lm_max (Nat.le_of_ble_eq_true rfl) ?_
    refine o_name (fun y3 ey3 => ?_)
    replace h := h y3 ey3
    refine f_putI (t := 1) (k := 2) (i := 19) (by decide +kernel) h1 rfl (by decide) lk_233 rfl rfl ?_
    refine f_name (fun t4 et4 => ?_)
    replace h := h t4 et4
    refine o_aload_n (k := 1) 1 (by decide +kernel) rfl ?_
    refine o_iconst (n := 0) (v := 0) (by decide +kernel) (by decide) ?_
    refine o_aload_n (k := 1) 1 (by decide +kernel) rfl ?_
    refine f_getI (t := 1) (k := 4) (i := 54) (by decide +kernel) h1 rfl (by decide) lk_241 rfl ?_
    refine o_aload_n (k := 0) 0 (by decide +kernel) rfl ?_
    refine f_getR (r := 329) (t := 2) (k := 1) (i := 15) (by decide +kernel) sh_332 rfl (by decide) lk_430 (by simp [x_ty, tyX2]) (gr_2_1 sh_332) ?_
    refine o_aload_n (k := 1) 1 (by decide +kernel) rfl ?_
    refine f_callVI (μ' := mX4_wearing) (i := 80) (vs := [.ref r1]) (by decide +kernel) lk_724 (vok_mX4_wearing) sh_329 rfl rfl rfl rfl (Nat.le_of_ble_eq_true rfl) ?_
    refine x_CI.mono h (fun t5 a6 h => ?_)
    refine o_isub (by decide +kernel) ?_
    refine o_mmax (i := 57) (by decide +kernel) lk_706 lm_max (Nat.le_of_ble_eq_true rfl) ?_
    refine o_name (fun y7 ey7 => ?_)
    replace h := h y7 ey7
    refine f_putI (t := 1) (k := 4) (i := 54) (by decide +kernel) h1 rfl (by decide) lk_241 rfl rfl ?_
    refine f_name (fun t8 et8 => ?_)
    replace h := h t8 et8
    refine o_aload_n (k := 1) 1 (by decide +kernel) rfl ?_
    refine f_getI (t := 1) (k := 2) (i := 19) (by decide +kernel) h1 rfl (by decide) lk_233 rfl ?_
    refine o_if_ne (off := 14) 71 (by decide +kernel) (by decide) (fun q => ?_) (fun q => ?_)
    · replace h := h.1 q
      refine o_aload_n (k := 1) 1 (by decide +kernel) rfl ?_
      refine f_getI (t := 1) (k := 4) (i := 54) (by decide +kernel) h1 rfl (by decide) lk_241 rfl ?_
      refine o_if_ne (off := 19) 94 (by decide +kernel) (by decide) (fun q => ?_) (fun q => ?_)
      · replace h := h.1 q
        exact f_vret rfl (by decide +kernel) rfl h
      · replace h := h.2 q
        refine o_aload_n (k := 1) 1 (by decide +kernel) rfl ?_
        refine o_sipush (n := 9999) (v := 9999) (by decide +kernel) (by decide) ?_
        refine o_aload_n (k := 1) 1 (by decide +kernel) rfl ?_
        refine f_getI (t := 1) (k := 2) (i := 19) (by decide +kernel) h1 rfl (by decide) lk_233 rfl ?_
        refine o_iconst (n := 5) (v := 5) (by decide +kernel) (by decide) ?_
        refine o_iadd (by decide +kernel) ?_
        refine o_mmin (i := 84) (by decide +kernel) lk_728 lm_min (Nat.le_of_ble_eq_true rfl) ?_
        refine o_name (fun y9 ey9 => ?_)
        replace h := h y9 ey9
        refine f_putI (t := 1) (k := 2) (i := 19) (by decide +kernel) h1 rfl (by decide) lk_233 rfl rfl ?_
        refine f_name (fun t10 et10 => ?_)
        replace h := h t10 et10
        exact f_vret rfl (by decide +kernel) rfl h
    · replace h := h.2 q
      refine o_aload_n (k := 1) 1 (by decide +kernel) rfl ?_
      refine o_aload_n (k := 1) 1 (by decide +kernel) rfl ?_
      refine f_getI (t := 1) (k := 1) (i := 44) (by decide +kernel) h1 rfl (by decide) lk_231 rfl ?_
      refine f_callVV (μ' := mX1_lieAt) (i := 50) (vs := [.int (t8.1 r1 1)]) (by decide +kernel) lk_702 (vok_mX1_lieAt) h1 rfl rfl rfl rfl (Nat.le_of_ble_eq_true rfl) ?_
      refine x_CV.mono h (fun t11 h => ?_)
      refine o_goto (off := 26) 94 (by decide +kernel) (by decide) ?_
      exact f_vret rfl (by decide +kernel) rfl h
  · replace h := h.2 q
    exact f_vret rfl (by decide +kernel) rfl h
set_option maxRecDepth 20000 in
theorem e_X2_fallsInDebt {d : Nat} {K : x_T → Int32 → Prop} {r1 : Nat} (h1 : x_sh r1 = (1, 11)) {v2 : Int32} {τ : x_T} (h : (v2 < 0 → K τ 0) ∧ (¬ v2 < 0 → (v2 < 8 → vp_in v2 8 ∧ (∀ y1, y1 = τ.1 (r1 + 1) v2.toNatClampNeg → (x_CI d mX4_earning [.ref 329, .ref r1, .int v2] τ (fun t2 a3 => x_CI d mX11_held [.int (y1 + a3), .int (-999), .int 9999] t2 (fun t4 a5 => (0 ≤ a5 → x_WI (d + 1) mX2_fallsInDebt K 54 [(0, .ref 332), (1, .ref r1), (2, .int v2), (4, .int a5)] [] t4) ∧ (¬ 0 ≤ a5 → (y1 < 0 → x_WI (d + 1) mX2_fallsInDebt K 54 [(0, .ref 332), (1, .ref r1), (2, .int v2), (4, .int a5)] [] t4) ∧ (¬ y1 < 0 → x_WI (d + 1) mX2_fallsInDebt K 55 [(0, .ref 332), (1, .ref r1), (2, .int v2), (4, .int a5)] [.int 1] t4))))))) ∧ (¬ v2 < 8 → K τ 0))) : x_CI (d + 1) mX2_fallsInDebt [.ref 332, .ref r1, .int v2] τ K := by
  refine x_CI_of (by decide) (Nat.le_of_ble_eq_true rfl) ?_
  show x_WI (d + 1) mX2_fallsInDebt K 0 [(0, .ref 332), (1, .ref r1), (2, .int v2)] [] τ
  refine o_iload_n (k := 2) 2 (by decide +kernel) rfl ?_
  refine o_if_lt (off := 9) 10 (by decide +kernel) (by decide) (fun q => ?_) (fun q => ?_)
  · replace h := h.1 q
    refine o_iconst (n := 0) (v := 0) (by decide +kernel) (by decide) ?_
    exact f_iret (ty := .boolean) rfl (by decide) (by decide +kernel) rfl h
  · replace h := h.2 q
    refine o_iload_n (k := 2) 2 (by decide +kernel) rfl ?_
    refine o_bipush (n := 8) (v := 8) (by decide +kernel) (by decide) ?_
    refine o_icmp_lt (off := 5) 12 (by decide +kernel) (by decide) (fun q => ?_) (fun q => ?_)
    · replace h := h.1 q
      refine o_aload_n (k := 1) 1 (by decide +kernel) rfl ?_
      refine f_getR (r := (r1 + 1)) (t := 1) (k := 7) (i := 87) (by decide +kernel) h1 rfl (by decide) lk_251 (by simp [x_ty, tyX1]) (gr_1_7 h1) ?_
      refine o_iload_n (k := 2) 2 (by decide +kernel) rfl ?_
      obtain ⟨hi, h⟩ := h
      refine f_iald (by decide +kernel) (shd_1_1 h1) hi rfl ?_
      refine o_name (fun y1 ey1 => ?_)
      replace h := h y1 ey1
      refine o_istore_n (k := 3) (L' := [(3, .int y1), (0, .ref 332), (1, .ref r1), (2, .int v2)]) (by decide +kernel) (by decide) rfl ?_
      refine o_iload_n (k := 3) 0 (by decide +kernel) rfl ?_
      refine o_aload_n (k := 0) 1 (by decide +kernel) rfl ?_
      refine f_getR (r := 329) (t := 2) (k := 1) (i := 15) (by decide +kernel) sh_332 rfl (by decide) lk_430 (by simp [x_ty, tyX2]) (gr_2_1 sh_332) ?_
      refine o_aload_n (k := 1) 2 (by decide +kernel) rfl ?_
      refine o_iload_n (k := 2) 3 (by decide +kernel) rfl ?_
      refine f_callVI (μ' := mX4_earning) (i := 91) (vs := [.ref r1, .int v2]) (by decide +kernel) lk_733 (vok_mX4_earning) sh_329 rfl rfl rfl rfl (Nat.le_of_ble_eq_true rfl) ?_
      refine x_CI.mono h (fun t2 a3 h => ?_)
      refine o_iadd (by decide +kernel) ?_
      refine o_sipush (n := -999) (v := (-999)) (by decide +kernel) (by decide) ?_
      refine o_sipush (n := 9999) (v := 9999) (by decide +kernel) (by decide) ?_
      refine f_callSNI (μ' := mX11_held) (i := 95) (hn0 := "NoonOnABarrow") (vs := [.int (y1 + a3), .int (-999), .int 9999]) (by decide +kernel) (by decide +kernel) (cok_mX11_held) rfl (stt_mX11_held) rfl rfl (Nat.le_of_ble_eq_true rfl) ?_
      refine x_CI.mono h (fun t4 a5 h => ?_)
      refine o_istore (k := 4) (L' := [(4, .int a5), (3, .int y1), (0, .ref 332), (1, .ref r1), (2, .int v2)]) (by decide +kernel) (by decide) rfl ?_
      refine o_iload (k := 4) 0 (by decide +kernel) rfl ?_
      refine o_if_ge (off := 11) 54 (by decide +kernel) (by decide) (fun q => ?_) (fun q => ?_)
      · replace h := h.1 q
        refine o_sub [2, 3, 4, 0] rfl ?_
        exact h
      · replace h := h.2 q
        refine o_iload_n (k := 3) 1 (by decide +kernel) rfl ?_
        refine o_if_lt (off := 7) 54 (by decide +kernel) (by decide) (fun q => ?_) (fun q => ?_)
        · replace h := h.1 q
          refine o_sub [2, 3, 4, 0] rfl ?_
          exact h
        · replace h := h.2 q
          refine o_iconst (n := 1) (v := 1) (by decide +kernel) (by decide) ?_
          refine o_goto (off := 4) 55 (by decide +kernel) (by decide) ?_
          refine o_sub [2, 3, 4, 0] rfl ?_
          exact h
    · replace h := h.2 q
      refine o_iconst (n := 0) (v := 0) (by decide +kernel) (by decide) ?_
      exact f_iret (ty := .boolean) rfl (by decide) (by decide +kernel) rfl h
set_option maxRecDepth 20000 in
theorem k_X2_fallsInDebt_54 {d : Nat} {K : x_T → Int32 → Prop} {r1 : Nat} (h1 : x_sh r1 = (1, 11)) {v2 : Int32} {v4 : Int32} {τ : x_T} (h : x_WI (d + 1) mX2_fallsInDebt K 55 [(0, .ref 332), (1, .ref r1), (2, .int v2), (4, .int v4)] [.int 0] τ) : x_WI (d + 1) mX2_fallsInDebt K 54 [(0, .ref 332), (1, .ref r1), (2, .int v2), (4, .int v4)] [] τ := by
  refine o_iconst (n := 0) (v := 0) (by decide +kernel) (by decide) ?_
  exact h
set_option maxRecDepth 20000 in
theorem k_X2_fallsInDebt_55 {d : Nat} {K : x_T → Int32 → Prop} {r1 : Nat} (h1 : x_sh r1 = (1, 11)) {v2 : Int32} {v4 : Int32} {s0 : Int32} {τ : x_T} (h : (s0 = 0 → x_WI (d + 1) mX2_fallsInDebt K 70 [(0, .ref 332), (1, .ref r1), (2, .int v2), (4, .int v4), (5, .int s0)] [] τ) ∧ (¬ s0 = 0 → x_CV d mX1_writeDebt [.ref r1, .int v2, .int (-v4)] τ (fun t1 => x_WI (d + 1) mX2_fallsInDebt K 70 [(0, .ref 332), (1, .ref r1), (2, .int v2), (4, .int v4), (5, .int s0)] [] t1))) : x_WI (d + 1) mX2_fallsInDebt K 55 [(0, .ref 332), (1, .ref r1), (2, .int v2), (4, .int v4)] [.int s0] τ := by
  refine o_istore (k := 5) (L' := [(5, .int s0), (0, .ref 332), (1, .ref r1), (2, .int v2), (4, .int v4)]) (by decide +kernel) (by decide) rfl ?_
  refine o_iload (k := 5) 0 (by decide +kernel) rfl ?_
  refine o_if_eq (off := 11) 70 (by decide +kernel) (by decide) (fun q => ?_) (fun q => ?_)
  · replace h := h.1 q
    refine o_sub [1, 2, 3, 4, 0] rfl ?_
    exact h
  · replace h := h.2 q
    refine o_aload_n (k := 1) 2 (by decide +kernel) rfl ?_
    refine o_iload_n (k := 2) 3 (by decide +kernel) rfl ?_
    refine o_iload (k := 4) 4 (by decide +kernel) rfl ?_
    refine o_ineg (by decide +kernel) ?_
    refine f_callVV (μ' := mX1_writeDebt) (i := 99) (vs := [.int v2, .int (-v4)]) (by decide +kernel) lk_755 (vok_mX1_writeDebt) h1 rfl rfl rfl rfl (Nat.le_of_ble_eq_true rfl) ?_
    refine x_CV.mono h (fun t1 h => ?_)
    refine o_sub [1, 2, 3, 4, 0] rfl ?_
    exact h
set_option maxRecDepth 20000 in
theorem k_X2_fallsInDebt_70 {d : Nat} {K : x_T → Int32 → Prop} {r1 : Nat} (h1 : x_sh r1 = (1, 11)) {v2 : Int32} {v4 : Int32} {v5 : Int32} {τ : x_T} (h : x_CI d mX3_hourBy [.ref 1, .int (τ.1 r1 0), .int v2] τ (fun t1 a2 => (¬ a2 = 12 → x_WI (d + 1) mX2_fallsInDebt K 92 [(1, .ref r1), (2, .int v2), (4, .int v4), (5, .int v5)] [.int 0] t1) ∧ (a2 = 12 → x_WI (d + 1) mX2_fallsInDebt K 92 [(1, .ref r1), (2, .int v2), (4, .int v4), (5, .int v5)] [.int 1] t1))) : x_WI (d + 1) mX2_fallsInDebt K 70 [(0, .ref 332), (1, .ref r1), (2, .int v2), (4, .int v4), (5, .int v5)] [] τ := by
  refine o_aload_n (k := 0) 0 (by decide +kernel) rfl ?_
  refine f_getR (r := 1) (t := 2) (k := 0) (i := 9) (by decide +kernel) sh_332 rfl (by decide) lk_429 (by simp [x_ty, tyX2]) (gr_2_0 sh_332) ?_
  refine o_aload_n (k := 1) 1 (by decide +kernel) rfl ?_
  refine f_getI (t := 1) (k := 0) (i := 31) (by decide +kernel) h1 rfl (by decide) lk_226 rfl ?_
  refine o_iload_n (k := 2) 2 (by decide +kernel) rfl ?_
  refine f_callVI (μ' := mX3_hourBy) (i := 103) (vs := [.int (τ.1 r1 0), .int v2]) (by decide +kernel) lk_759 (vok_mX3_hourBy) sh_1 rfl rfl rfl rfl (Nat.le_of_ble_eq_true rfl) ?_
  refine x_CI.mono h (fun t1 a2 h => ?_)
  refine o_bipush (n := 12) (v := 12) (by decide +kernel) (by decide) ?_
  refine o_icmp_ne (off := 7) 91 (by decide +kernel) (by decide) (fun q => ?_) (fun q => ?_)
  · replace h := h.1 q
    refine o_iconst (n := 0) (v := 0) (by decide +kernel) (by decide) ?_
    refine o_sub [1, 2, 3, 4] rfl ?_
    exact h
  · replace h := h.2 q
    refine o_iconst (n := 1) (v := 1) (by decide +kernel) (by decide) ?_
    refine o_goto (off := 4) 92 (by decide +kernel) (by decide) ?_
    refine o_sub [1, 2, 3, 4] rfl ?_
    exact h
set_option maxRecDepth 20000 in
theorem k_X2_fallsInDebt_92 {d : Nat} {K : x_T → Int32 → Prop} {r1 : Nat} (h1 : x_sh r1 = (1, 11)) {v2 : Int32} {v4 : Int32} {v5 : Int32} {s0 : Int32} {τ : x_T} (h : vp_in v2 8 ∧ (∀ t1, t1 = x_w1 τ (r1 + 1) v2.toNatClampNeg v4 → ((s0 = 0 → vp_in v2 8 ∧ (∀ y2, y2 = (if (t1.1 (r1 + 2) v2.toNatClampNeg) + 1 < 99 then (t1.1 (r1 + 2) v2.toNatClampNeg) + 1 else 99) → (x_WI (d + 1) mX2_fallsInDebt K 129 [(5, .int v5)] [.int y2, .int v2, .ref (r1 + 2)] t1))) ∧ (¬ s0 = 0 → x_WI (d + 1) mX2_fallsInDebt K 129 [(5, .int v5)] [.int 0, .int v2, .ref (r1 + 2)] t1)))) : x_WI (d + 1) mX2_fallsInDebt K 92 [(1, .ref r1), (2, .int v2), (4, .int v4), (5, .int v5)] [.int s0] τ := by
  refine o_istore (k := 6) (L' := [(6, .int s0), (1, .ref r1), (2, .int v2), (4, .int v4), (5, .int v5)]) (by decide +kernel) (by decide) rfl ?_
  refine o_aload_n (k := 1) 1 (by decide +kernel) rfl ?_
  refine f_getR (r := (r1 + 1)) (t := 1) (k := 7) (i := 87) (by decide +kernel) h1 rfl (by decide) lk_251 (by simp [x_ty, tyX1]) (gr_1_7 h1) ?_
  refine o_iload_n (k := 2) 2 (by decide +kernel) rfl ?_
  refine o_iload (k := 4) 3 (by decide +kernel) rfl ?_
  obtain ⟨hi, h⟩ := h
  refine f_iast (by decide +kernel) (shd_1_1 h1) hi rfl ?_
  refine f_name (fun t1 et1 => ?_)
  replace h := h t1 et1
  refine o_aload_n (k := 1) 1 (by decide +kernel) rfl ?_
  refine f_getR (r := (r1 + 2)) (t := 1) (k := 8) (i := 106) (by decide +kernel) h1 rfl (by decide) lk_253 (by simp [x_ty, tyX1]) (gr_1_8 h1) ?_
  refine o_iload_n (k := 2) 2 (by decide +kernel) rfl ?_
  refine o_iload (k := 6) 0 (by decide +kernel) rfl ?_
  refine o_if_eq (off := 7) 116 (by decide +kernel) (by decide) (fun q => ?_) (fun q => ?_)
  · replace h := h.1 q
    refine o_bipush (n := 99) (v := 99) (by decide +kernel) (by decide) ?_
    refine o_aload_n (k := 1) 1 (by decide +kernel) rfl ?_
    refine f_getR (r := (r1 + 2)) (t := 1) (k := 8) (i := 106) (by decide +kernel) h1 rfl (by decide) lk_253 (by simp [x_ty, tyX1]) (gr_1_8 h1) ?_
    refine o_iload_n (k := 2) 2 (by decide +kernel) rfl ?_
    obtain ⟨hi, h⟩ := h
    refine f_iald (by decide +kernel) (shd_1_2 h1) hi rfl ?_
    refine o_iconst (n := 1) (v := 1) (by decide +kernel) (by decide) ?_
    refine o_iadd (by decide +kernel) ?_
    refine o_mmin (i := 84) (by decide +kernel) lk_728 lm_min (Nat.le_of_ble_eq_true rfl) ?_
    refine o_name (fun y2 ey2 => ?_)
    replace h := h y2 ey2
    refine o_sub [4] rfl ?_
    exact h
  · replace h := h.2 q
    refine o_iconst (n := 0) (v := 0) (by decide +kernel) (by decide) ?_
    refine o_goto (off := 16) 129 (by decide +kernel) (by decide) ?_
    refine o_sub [4] rfl ?_
    exact h
set_option maxRecDepth 20000 in
theorem k_X2_fallsInDebt_129 {d : Nat} {K : x_T → Int32 → Prop} {r1 : Nat} (h1 : x_sh r1 = (1, 11)) {v5 : Int32} {s0 : Int32} {s1 : Int32} {τ : x_T} (h : vp_in s1 8 ∧ (∀ t1, t1 = x_w1 τ (r1 + 2) s1.toNatClampNeg s0 → ((narrow .boolean (.int v5) = .int v5 ∧ K t1 v5)))) : x_WI (d + 1) mX2_fallsInDebt K 129 [(5, .int v5)] [.int s0, .int s1, .ref (r1 + 2)] τ := by
  obtain ⟨hi, h⟩ := h
  refine f_iast (by decide +kernel) (shd_1_2 h1) hi rfl ?_
  refine f_name (fun t1 et1 => ?_)
  replace h := h t1 et1
  refine o_iload (k := 5) 0 (by decide +kernel) rfl ?_
  exact f_iret (ty := .boolean) rfl h.1 (by decide +kernel) rfl h.2
theorem d_X2_doAsDrawn_6 : decode mX2_doAsDrawn.2.1 6 = .ok (.tableswitch (62) (0) (3) #[(30), (30), (38), (53)], 30) := by decide +kernel
set_option maxRecDepth 20000 in
theorem e_X2_doAsDrawn {d : Nat} {K : x_T → Prop} {r1 : Nat} (h1 : x_sh r1 = (1, 11)) {τ : x_T} (h : x_CI d mX1_draw [.ref r1, .int 6] τ (fun t1 a2 => ((a2 = 0 → x_CV d mX2_setOffAsDrawn [.ref 332, .ref r1] t1 (fun t3 => K t3)) ∧ (¬ a2 = 0 → (a2 = 1 → x_CV d mX2_setOffAsDrawn [.ref 332, .ref r1] t1 (fun t5 => K t5)) ∧ (¬ a2 = 1 → (a2 = 2 → (t1.1 r1 2 ≤ 0 → K t1) ∧ (¬ t1.1 r1 2 ≤ 0 → x_CV d mX2_tipOver [.ref 332, .ref r1] t1 (fun t7 => K t7))) ∧ (¬ a2 = 2 → (a2 = 3 → ∀ t9, t9 = x_w1 t1 r1 4 99 → (K t9)) ∧ (¬ a2 = 3 → ((9999 ≤ t1.1 r1 5 → K t1) ∧ (¬ 9999 ≤ t1.1 r1 5 → x_CI d mX2_passMinute [.ref 332, .ref r1] t1 (fun t10 a11 => K t10)))))))))) : x_CV (d + 1) mX2_doAsDrawn [.ref 332, .ref r1] τ K := by
  refine x_CV_of (by decide) (Nat.le_of_ble_eq_true rfl) ?_
  show x_WV (d + 1) mX2_doAsDrawn K 0 [(0, .ref 332), (1, .ref r1)] [] τ
  refine o_aload_n (k := 1) 1 (by decide +kernel) rfl ?_
  refine o_bipush (n := 6) (v := 6) (by decide +kernel) (by decide) ?_
  refine f_callVI (μ' := mX1_draw) (i := 109) (vs := [.int 6]) (by decide +kernel) lk_768 (vok_mX1_draw) h1 rfl rfl rfl rfl (Nat.le_of_ble_eq_true rfl) ?_
  refine x_CI.mono h (fun t1 a2 h => ?_)
  by_cases c0 : a2 = 0
  · replace h := h.1 c0
    refine o_tableIn (off := 30) (tgt := 36) (d_X2_doAsDrawn_6) (by rw [c0]; decide) (by rw [c0]; decide) (by rw [c0]; rfl) (by decide) ?_
    refine o_aload_n (k := 0) 0 (by decide +kernel) rfl ?_
    refine o_aload_n (k := 1) 1 (by decide +kernel) rfl ?_
    refine f_callVV (μ' := mX2_setOffAsDrawn) (i := 112) (vs := [.ref r1]) (by decide +kernel) lk_772 (vok_mX2_setOffAsDrawn) sh_332 rfl rfl rfl rfl (Nat.le_of_ble_eq_true rfl) ?_
    refine x_CV.mono h (fun t3 h => ?_)
    refine o_goto (off := 43) 84 (by decide +kernel) (by decide) ?_
    exact f_vret rfl (by decide +kernel) rfl h
  replace h := h.2 c0
  by_cases c1 : a2 = 1
  · replace h := h.1 c1
    refine o_tableIn (off := 30) (tgt := 36) (d_X2_doAsDrawn_6) (by rw [c1]; decide) (by rw [c1]; decide) (by rw [c1]; rfl) (by decide) ?_
    refine o_aload_n (k := 0) 0 (by decide +kernel) rfl ?_
    refine o_aload_n (k := 1) 1 (by decide +kernel) rfl ?_
    refine f_callVV (μ' := mX2_setOffAsDrawn) (i := 112) (vs := [.ref r1]) (by decide +kernel) lk_772 (vok_mX2_setOffAsDrawn) sh_332 rfl rfl rfl rfl (Nat.le_of_ble_eq_true rfl) ?_
    refine x_CV.mono h (fun t5 h => ?_)
    refine o_goto (off := 43) 84 (by decide +kernel) (by decide) ?_
    exact f_vret rfl (by decide +kernel) rfl h
  replace h := h.2 c1
  by_cases c2 : a2 = 2
  · replace h := h.1 c2
    refine o_tableIn (off := 38) (tgt := 44) (d_X2_doAsDrawn_6) (by rw [c2]; decide) (by rw [c2]; decide) (by rw [c2]; rfl) (by decide) ?_
    refine o_aload_n (k := 1) 1 (by decide +kernel) rfl ?_
    refine f_getI (t := 1) (k := 2) (i := 19) (by decide +kernel) h1 rfl (by decide) lk_233 rfl ?_
    refine o_if_le (off := 36) 84 (by decide +kernel) (by decide) (fun q => ?_) (fun q => ?_)
    · replace h := h.1 q
      exact f_vret rfl (by decide +kernel) rfl h
    · replace h := h.2 q
      refine o_aload_n (k := 0) 0 (by decide +kernel) rfl ?_
      refine o_aload_n (k := 1) 1 (by decide +kernel) rfl ?_
      refine f_callVV (μ' := mX2_tipOver) (i := 115) (vs := [.ref r1]) (by decide +kernel) lk_778 (vok_mX2_tipOver) sh_332 rfl rfl rfl rfl (Nat.le_of_ble_eq_true rfl) ?_
      refine x_CV.mono h (fun t7 h => ?_)
      refine o_goto (off := 28) 84 (by decide +kernel) (by decide) ?_
      exact f_vret rfl (by decide +kernel) rfl h
  replace h := h.2 c2
  by_cases c3 : a2 = 3
  · replace h := h.1 c3
    refine o_tableIn (off := 53) (tgt := 59) (d_X2_doAsDrawn_6) (by rw [c3]; decide) (by rw [c3]; decide) (by rw [c3]; rfl) (by decide) ?_
    refine o_aload_n (k := 1) 1 (by decide +kernel) rfl ?_
    refine o_bipush (n := 99) (v := 99) (by decide +kernel) (by decide) ?_
    refine f_putI (t := 1) (k := 4) (i := 54) (by decide +kernel) h1 rfl (by decide) lk_241 rfl rfl ?_
    refine f_name (fun t9 et9 => ?_)
    replace h := h t9 et9
    refine o_goto (off := 19) 84 (by decide +kernel) (by decide) ?_
    exact f_vret rfl (by decide +kernel) rfl h
  replace h := h.2 c3
  refine o_tableOut (tgt := 68) (d_X2_doAsDrawn_6) (by have := x_ne (z := 0) (by decide) c0; have := x_ne (z := 1) (by decide) c1; have := x_ne (z := 2) (by decide) c2; have := x_ne (z := 3) (by decide) c3; omega) (by decide) ?_
  refine o_aload_n (k := 1) 1 (by decide +kernel) rfl ?_
  refine f_getI (t := 1) (k := 5) (i := 73) (by decide +kernel) h1 rfl (by decide) lk_246 rfl ?_
  refine o_sipush (n := 9999) (v := 9999) (by decide +kernel) (by decide) ?_
  refine o_icmp_ge (off := 9) 84 (by decide +kernel) (by decide) (fun q => ?_) (fun q => ?_)
  · replace h := h.1 q
    exact f_vret rfl (by decide +kernel) rfl h
  · replace h := h.2 q
    refine o_aload_n (k := 0) 0 (by decide +kernel) rfl ?_
    refine o_aload_n (k := 1) 1 (by decide +kernel) rfl ?_
    refine f_callVI (μ' := mX2_passMinute) (i := 118) (vs := [.ref r1]) (by decide +kernel) lk_779 (vok_mX2_passMinute) sh_332 rfl rfl rfl rfl (Nat.le_of_ble_eq_true rfl) ?_
    refine x_CI.mono h (fun t10 a11 h => ?_)
    refine o_pop (by decide +kernel) rfl ?_
    exact f_vret rfl (by decide +kernel) rfl h
set_option maxRecDepth 20000 in
theorem e_X2_setOffAsDrawn {d : Nat} {K : x_T → Prop} {r1 : Nat} (h1 : x_sh r1 = (1, 11)) {τ : x_T} (h : (¬ τ.1 1 1 = 0 → x_CI d mX1_draw [.ref r1, .int (τ.1 1 0)] τ (fun t1 a2 => x_CI d mX1_draw [.ref r1, .int (t1.1 1 1)] t1 (fun t3 a4 => x_CI d mX2_canSetOff [.ref 332, .ref r1, .int a2, .int a4] t3 (fun t5 a6 => (a6 = 0 → K t5) ∧ (¬ a6 = 0 → x_CV d mX2_setOff [.ref 332, .ref r1, .int a2, .int a4] t5 (fun t7 => K t7)))))) ∧ (τ.1 1 1 = 0 → K τ)) : x_CV (d + 1) mX2_setOffAsDrawn [.ref 332, .ref r1] τ K := by
  refine x_CV_of (by decide) (Nat.le_of_ble_eq_true rfl) ?_
  show x_WV (d + 1) mX2_setOffAsDrawn K 0 [(0, .ref 332), (1, .ref r1)] [] τ
  refine o_aload_n (k := 0) 0 (by decide +kernel) rfl ?_
  refine f_getR (r := 1) (t := 2) (k := 0) (i := 9) (by decide +kernel) sh_332 rfl (by decide) lk_429 (by simp [x_ty, tyX2]) (gr_2_0 sh_332) ?_
  refine f_getI (t := 3) (k := 1) (i := 121) (by decide +kernel) sh_1 rfl (by decide) lk_183 rfl ?_
  refine o_if_ne (off := 4) 11 (by decide +kernel) (by decide) (fun q => ?_) (fun q => ?_)
  · replace h := h.1 q
    refine o_aload_n (k := 1) 1 (by decide +kernel) rfl ?_
    refine o_aload_n (k := 0) 0 (by decide +kernel) rfl ?_
    refine f_getR (r := 1) (t := 2) (k := 0) (i := 9) (by decide +kernel) sh_332 rfl (by decide) lk_429 (by simp [x_ty, tyX2]) (gr_2_0 sh_332) ?_
    refine f_getI (t := 3) (k := 0) (i := 66) (by decide +kernel) sh_1 rfl (by decide) lk_180 rfl ?_
    refine f_callVI (μ' := mX1_draw) (i := 109) (vs := [.int (τ.1 1 0)]) (by decide +kernel) lk_768 (vok_mX1_draw) h1 rfl rfl rfl rfl (Nat.le_of_ble_eq_true rfl) ?_
    refine x_CI.mono h (fun t1 a2 h => ?_)
    refine o_istore_n (k := 2) (L' := [(2, .int a2), (0, .ref 332), (1, .ref r1)]) (by decide +kernel) (by decide) rfl ?_
    refine o_aload_n (k := 1) 2 (by decide +kernel) rfl ?_
    refine o_aload_n (k := 0) 1 (by decide +kernel) rfl ?_
    refine f_getR (r := 1) (t := 2) (k := 0) (i := 9) (by decide +kernel) sh_332 rfl (by decide) lk_429 (by simp [x_ty, tyX2]) (gr_2_0 sh_332) ?_
    refine f_getI (t := 3) (k := 1) (i := 121) (by decide +kernel) sh_1 rfl (by decide) lk_183 rfl ?_
    refine f_callVI (μ' := mX1_draw) (i := 109) (vs := [.int (t1.1 1 1)]) (by decide +kernel) lk_768 (vok_mX1_draw) h1 rfl rfl rfl rfl (Nat.le_of_ble_eq_true rfl) ?_
    refine x_CI.mono h (fun t3 a4 h => ?_)
    refine o_istore_n (k := 3) (L' := [(3, .int a4), (2, .int a2), (0, .ref 332), (1, .ref r1)]) (by decide +kernel) (by decide) rfl ?_
    refine o_aload_n (k := 0) 2 (by decide +kernel) rfl ?_
    refine o_aload_n (k := 1) 3 (by decide +kernel) rfl ?_
    refine o_iload_n (k := 2) 1 (by decide +kernel) rfl ?_
    refine o_iload_n (k := 3) 0 (by decide +kernel) rfl ?_
    refine f_callVI (μ' := mX2_canSetOff) (i := 124) (vs := [.ref r1, .int a2, .int a4]) (by decide +kernel) lk_776 (vok_mX2_canSetOff) sh_332 rfl rfl rfl rfl (Nat.le_of_ble_eq_true rfl) ?_
    refine x_CI.mono h (fun t5 a6 h => ?_)
    refine o_if_eq (off := 10) 52 (by decide +kernel) (by decide) (fun q => ?_) (fun q => ?_)
    · replace h := h.1 q
      exact f_vret rfl (by decide +kernel) rfl h
    · replace h := h.2 q
      refine o_aload_n (k := 0) 2 (by decide +kernel) rfl ?_
      refine o_aload_n (k := 1) 3 (by decide +kernel) rfl ?_
      refine o_iload_n (k := 2) 1 (by decide +kernel) rfl ?_
      refine o_iload_n (k := 3) 0 (by decide +kernel) rfl ?_
      refine f_callVV (μ' := mX2_setOff) (i := 128) (vs := [.ref r1, .int a2, .int a4]) (by decide +kernel) lk_777 (vok_mX2_setOff) sh_332 rfl rfl rfl rfl (Nat.le_of_ble_eq_true rfl) ?_
      refine x_CV.mono h (fun t7 h => ?_)
      exact f_vret rfl (by decide +kernel) rfl h
  · replace h := h.2 q
    exact f_vret rfl (by decide +kernel) rfl h
