set_option maxRecDepth 20000 in
theorem e_X4_rules {d : Nat} {K : x_T → Int32 → Prop} {v1 : Int32} {τ : x_T} (h : (τ.2.2.2 = none → K τ 0) ∧ (∀ c1, τ.2.2.2 = some c1 → (∃ c2, τ.2.2.2 = some c2 ∧ x_sh c2 = (9, 10) ∧ (x_CI d mX9_hasLaw [.ref c2, .int v1] τ (fun t3 a4 => (a4 = 0 → K t3 0) ∧ (¬ a4 = 0 → K t3 1)))))) : x_CI (d + 1) mX4_rules [.ref 329, .int v1] τ K := by
  refine x_CI_of (by decide) (Nat.le_of_ble_eq_true rfl) ?_
  show x_WI (d + 1) mX4_rules K 0 [(0, .ref 329), (1, .int v1)] [] τ
  refine o_aload_n (k := 0) 0 (by decide +kernel) rfl ?_
  refine f_getN (r := τ.2.2.2) (t := 4) (k := 4) (i := 22) (by decide +kernel) sh_329 rfl (by decide) lk_410 (by simp [x_ty, tyX4]) rfl ?_
  refine o_ifnull (r := τ.2.2.2) (off := 18) 22 (by decide +kernel) (by decide) (fun e => ?_) (fun c1 e => ?_)
  · replace h := h.1 e
    refine o_iconst (n := 0) (v := 0) (by decide +kernel) (by decide) ?_
    exact f_iret (ty := .boolean) rfl (by decide) (by decide +kernel) rfl h
  · replace h := h.2 c1 e
    refine o_aload_n (k := 0) 0 (by decide +kernel) rfl ?_
    obtain ⟨c2, ec2, hsc2, h⟩ := h
    refine f_getR (r := c2) (t := 4) (k := 4) (i := 22) (by decide +kernel) sh_329 rfl (by decide) lk_410 (by simp [x_ty, tyX4]) ec2 ?_
    refine o_iload_n (k := 1) 1 (by decide +kernel) rfl ?_
    refine f_callVI (μ' := mX9_hasLaw) (i := 26) (vs := [.int v1]) (by decide +kernel) lk_629 (vok_mX9_hasLaw) hsc2 rfl rfl rfl rfl (Nat.le_of_ble_eq_true rfl) ?_
    refine x_CI.mono h (fun t3 a4 h => ?_)
    refine o_if_eq (off := 7) 22 (by decide +kernel) (by decide) (fun q => ?_) (fun q => ?_)
    · replace h := h.1 q
      refine o_iconst (n := 0) (v := 0) (by decide +kernel) (by decide) ?_
      exact f_iret (ty := .boolean) rfl (by decide) (by decide +kernel) rfl h
    · replace h := h.2 q
      refine o_iconst (n := 1) (v := 1) (by decide +kernel) (by decide) ?_
      refine o_goto (off := 4) 23 (by decide +kernel) (by decide) ?_
      exact f_iret (ty := .boolean) rfl (by decide) (by decide +kernel) rfl h
set_option maxRecDepth 20000 in
theorem e_X4_nameHere {d : Nat} {K : x_T → Prop} {r1 : Nat} (h1 : x_sh r1 = (1, 11)) {v2 : Int32} {τ : x_T} (h : ∀ t1, t1 = x_w1 τ 330 10 (τ.1 r1 5) → (∀ t2, t2 = x_w1 t1 330 22 v2 → (x_CI d mX3_isHouse [.ref 1, .int v2] t2 (fun t3 a4 => (a4 = 0 → x_WV (d + 1) mX4_nameHere K 49 [] [.int 0, .int 23, .ref 330] t3) ∧ (¬ a4 = 0 → vp_in v2 8 ∧ (x_WV (d + 1) mX4_nameHere K 49 [] [.int (t3.1 2 v2.toNatClampNeg), .int 23, .ref 330] t3)))))) : x_CV (d + 1) mX4_nameHere [.ref 329, .ref r1, .int v2] τ K := by
  refine x_CV_of (by decide) (Nat.le_of_ble_eq_true rfl) ?_
  show x_WV (d + 1) mX4_nameHere K 0 [(0, .ref 329), (1, .ref r1), (2, .int v2)] [] τ
  refine o_aload_n (k := 0) 0 (by decide +kernel) rfl ?_
  refine f_getR (r := 330) (t := 4) (k := 1) (i := 9) (by decide +kernel) sh_329 rfl (by decide) lk_407 (by simp [x_ty, tyX4]) (gr_4_1 sh_329) ?_
  refine o_bipush (n := 10) (v := 10) (by decide +kernel) (by decide) ?_
  refine o_aload_n (k := 1) 1 (by decide +kernel) rfl ?_
  refine f_getI (t := 1) (k := 5) (i := 32) (by decide +kernel) h1 rfl (by decide) lk_245 rfl ?_
  refine f_iast (k := 10) (by decide +kernel) sh_330 (by unfold vp_in; decide) (by decide) ?_
  refine f_name (fun t1 et1 => ?_)
  replace h := h t1 et1
  refine o_aload_n (k := 0) 0 (by decide +kernel) rfl ?_
  refine f_getR (r := 330) (t := 4) (k := 1) (i := 9) (by decide +kernel) sh_329 rfl (by decide) lk_407 (by simp [x_ty, tyX4]) (gr_4_1 sh_329) ?_
  refine o_bipush (n := 22) (v := 22) (by decide +kernel) (by decide) ?_
  refine o_iload_n (k := 2) 2 (by decide +kernel) rfl ?_
  refine f_iast (k := 22) (by decide +kernel) sh_330 (by unfold vp_in; decide) (by decide) ?_
  refine f_name (fun t2 et2 => ?_)
  replace h := h t2 et2
  refine o_aload_n (k := 0) 0 (by decide +kernel) rfl ?_
  refine f_getR (r := 330) (t := 4) (k := 1) (i := 9) (by decide +kernel) sh_329 rfl (by decide) lk_407 (by simp [x_ty, tyX4]) (gr_4_1 sh_329) ?_
  refine o_bipush (n := 23) (v := 23) (by decide +kernel) (by decide) ?_
  refine o_aload_n (k := 0) 0 (by decide +kernel) rfl ?_
  refine f_getR (r := 1) (t := 4) (k := 0) (i := 18) (by decide +kernel) sh_329 rfl (by decide) lk_406 (by simp [x_ty, tyX4]) (gr_4_0 sh_329) ?_
  refine o_iload_n (k := 2) 2 (by decide +kernel) rfl ?_
  refine f_callVI (μ' := mX3_isHouse) (i := 38) (vs := [.int v2]) (by decide +kernel) lk_644 (vok_mX3_isHouse) sh_1 rfl rfl rfl rfl (Nat.le_of_ble_eq_true rfl) ?_
  refine x_CI.mono h (fun t3 a4 h => ?_)
  refine o_if_eq (off := 15) 48 (by decide +kernel) (by decide) (fun q => ?_) (fun q => ?_)
  · replace h := h.1 q
    refine o_iconst (n := 0) (v := 0) (by decide +kernel) (by decide) ?_
    refine o_sub [] rfl ?_
    exact h
  · replace h := h.2 q
    refine o_aload_n (k := 0) 0 (by decide +kernel) rfl ?_
    refine f_getR (r := 1) (t := 4) (k := 0) (i := 18) (by decide +kernel) sh_329 rfl (by decide) lk_406 (by simp [x_ty, tyX4]) (gr_4_0 sh_329) ?_
    refine f_getR (r := 2) (t := 3) (k := 2) (i := 43) (by decide +kernel) sh_1 rfl (by decide) lk_186 (by simp [x_ty, tyX3]) (gr_3_2 sh_1) ?_
    refine o_iload_n (k := 2) 2 (by decide +kernel) rfl ?_
    obtain ⟨hi, h⟩ := h
    refine f_iald (by decide +kernel) sh_2 hi rfl ?_
    refine o_goto (off := 4) 49 (by decide +kernel) (by decide) ?_
    refine o_sub [] rfl ?_
    exact h
set_option maxRecDepth 20000 in
theorem k_X4_nameHere_49 {d : Nat} {K : x_T → Prop} {s0 : Int32} {s1 : Int32} {τ : x_T} (h : vp_in s1 32 ∧ (∀ t1, t1 = x_w1 τ 330 s1.toNatClampNeg s0 → (K t1))) : x_WV (d + 1) mX4_nameHere K 49 [] [.int s0, .int s1, .ref 330] τ := by
  obtain ⟨hi, h⟩ := h
  refine f_iast (by decide +kernel) sh_330 hi rfl ?_
  refine f_name (fun t1 et1 => ?_)
  replace h := h t1 et1
  exact f_vret rfl (by decide +kernel) rfl h
set_option maxRecDepth 20000 in
theorem e_X4_hardness {d : Nat} {K : x_T → Int32 → Prop} {r1 : Nat} (h1 : x_sh r1 = (1, 11)) {v2 : Int32} {v3 : Int32} {v4 : Int32} {τ : x_T} (h : x_CI d mX3_laneBetween [.ref 1, .int v2, .int v3] τ (fun t1 a2 => x_CI d mX4_rules [.ref 329, .int 0] t1 (fun t3 a4 => (¬ a4 = 0 → x_CV d mX4_nameHere [.ref 329, .ref r1, .int v2] t3 (fun t5 => ∀ t7, t7 = x_w1 t5 330 27 v3 → (∀ t8, t8 = x_w1 t7 330 5 a2 → (x_CI d mX3_strengthOf [.ref 1, .int v4] t8 (fun t9 a10 => ∀ t11, t11 = x_w1 t9 330 28 a10 → (x_CI d mX4_said [.ref 329, .int 0] t11 (fun t12 a13 => x_CI d mX11_held [.int a13, .int 1, .int 999] t12 (fun t14 a15 => K t14 a15)))))))) ∧ (a4 = 0 → x_CI d mX3_hillOf [.ref 1, .int v3] t3 (fun t16 a17 => x_CI d mX3_hillOf [.ref 1, .int v2] t16 (fun t18 a19 => ∀ y20, y20 = (if 1 < ((a2 * 3) + a17) - a19 then ((a2 * 3) + a17) - a19 else 1) → (K t18 y20))))))) : x_CI (d + 1) mX4_hardness [.ref 329, .ref r1, .int v2, .int v3, .int v4] τ K := by
  refine x_CI_of (by decide) (Nat.le_of_ble_eq_true rfl) ?_
  show x_WI (d + 1) mX4_hardness K 0 [(0, .ref 329), (1, .ref r1), (2, .int v2), (3, .int v3), (4, .int v4)] [] τ
  refine o_aload_n (k := 0) 0 (by decide +kernel) rfl ?_
  refine f_getR (r := 1) (t := 4) (k := 0) (i := 18) (by decide +kernel) sh_329 rfl (by decide) lk_406 (by simp [x_ty, tyX4]) (gr_4_0 sh_329) ?_
  refine o_iload_n (k := 2) 2 (by decide +kernel) rfl ?_
  refine o_iload_n (k := 3) 3 (by decide +kernel) rfl ?_
  refine f_callVI (μ' := mX3_laneBetween) (i := 46) (vs := [.int v2, .int v3]) (by decide +kernel) lk_624 (vok_mX3_laneBetween) sh_1 rfl rfl rfl rfl (Nat.le_of_ble_eq_true rfl) ?_
  refine x_CI.mono h (fun t1 a2 h => ?_)
  refine o_istore (k := 5) (L' := [(5, .int a2), (0, .ref 329), (1, .ref r1), (2, .int v2), (3, .int v3), (4, .int v4)]) (by decide +kernel) (by decide) rfl ?_
  refine o_aload_n (k := 0) 1 (by decide +kernel) rfl ?_
  refine o_iconst (n := 0) (v := 0) (by decide +kernel) (by decide) ?_
  refine f_callVI (μ' := mX4_rules) (i := 50) (vs := [.int 0]) (by decide +kernel) lk_625 (vok_mX4_rules) sh_329 rfl rfl rfl rfl (Nat.le_of_ble_eq_true rfl) ?_
  refine x_CI.mono h (fun t3 a4 h => ?_)
  refine o_if_ne (off := 30) 46 (by decide +kernel) (by decide) (fun q => ?_) (fun q => ?_)
  · replace h := h.1 q
    refine o_aload_n (k := 0) 1 (by decide +kernel) rfl ?_
    refine o_aload_n (k := 1) 2 (by decide +kernel) rfl ?_
    refine o_iload_n (k := 2) 3 (by decide +kernel) rfl ?_
    refine f_callVV (μ' := mX4_nameHere) (i := 62) (vs := [.ref r1, .int v2]) (by decide +kernel) lk_640 (vok_mX4_nameHere) sh_329 rfl rfl rfl rfl (Nat.le_of_ble_eq_true rfl) ?_
    refine x_CV.mono h (fun t5 h => ?_)
    refine o_aload_n (k := 0) 1 (by decide +kernel) rfl ?_
    refine f_getR (r := 330) (t := 4) (k := 1) (i := 9) (by decide +kernel) sh_329 rfl (by decide) lk_407 (by simp [x_ty, tyX4]) (gr_4_1 sh_329) ?_
    refine o_bipush (n := 27) (v := 27) (by decide +kernel) (by decide) ?_
    refine o_iload_n (k := 3) 4 (by decide +kernel) rfl ?_
    refine f_iast (k := 27) (by decide +kernel) sh_330 (by unfold vp_in; decide) (by decide) ?_
    refine f_name (fun t7 et7 => ?_)
    replace h := h t7 et7
    refine o_aload_n (k := 0) 1 (by decide +kernel) rfl ?_
    refine f_getR (r := 330) (t := 4) (k := 1) (i := 9) (by decide +kernel) sh_329 rfl (by decide) lk_407 (by simp [x_ty, tyX4]) (gr_4_1 sh_329) ?_
    refine o_iconst (n := 5) (v := 5) (by decide +kernel) (by decide) ?_
    refine o_iload (k := 5) 0 (by decide +kernel) rfl ?_
    refine f_iast (k := 5) (by decide +kernel) sh_330 (by unfold vp_in; decide) (by decide) ?_
    refine f_name (fun t8 et8 => ?_)
    replace h := h t8 et8
    refine o_aload_n (k := 0) 1 (by decide +kernel) rfl ?_
    refine f_getR (r := 330) (t := 4) (k := 1) (i := 9) (by decide +kernel) sh_329 rfl (by decide) lk_407 (by simp [x_ty, tyX4]) (gr_4_1 sh_329) ?_
    refine o_bipush (n := 28) (v := 28) (by decide +kernel) (by decide) ?_
    refine o_aload_n (k := 0) 1 (by decide +kernel) rfl ?_
    refine f_getR (r := 1) (t := 4) (k := 0) (i := 18) (by decide +kernel) sh_329 rfl (by decide) lk_406 (by simp [x_ty, tyX4]) (gr_4_0 sh_329) ?_
    refine o_iload (k := 4) 5 (by decide +kernel) rfl ?_
    refine f_callVI (μ' := mX3_strengthOf) (i := 66) (vs := [.int v4]) (by decide +kernel) lk_645 (vok_mX3_strengthOf) sh_1 rfl rfl rfl rfl (Nat.le_of_ble_eq_true rfl) ?_
    refine x_CI.mono h (fun t9 a10 h => ?_)
    refine f_iast (k := 28) (by decide +kernel) sh_330 (by unfold vp_in; decide) (by decide) ?_
    refine f_name (fun t11 et11 => ?_)
    replace h := h t11 et11
    refine o_aload_n (k := 0) 1 (by decide +kernel) rfl ?_
    refine o_iconst (n := 0) (v := 0) (by decide +kernel) (by decide) ?_
    refine f_callVI (μ' := mX4_said) (i := 69) (vs := [.int 0]) (by decide +kernel) lk_650 (vok_mX4_said) sh_329 rfl rfl rfl rfl (Nat.le_of_ble_eq_true rfl) ?_
    refine x_CI.mono h (fun t12 a13 h => ?_)
    refine o_iconst (n := 1) (v := 1) (by decide +kernel) (by decide) ?_
    refine o_sipush (n := 999) (v := 999) (by decide +kernel) (by decide) ?_
    refine f_callSNI (μ' := mX11_held) (i := 72) (hn0 := "NoonOnABarrow") (vs := [.int a13, .int 1, .int 999]) (by decide +kernel) (by decide +kernel) (cok_mX11_held) rfl (stt_mX11_held) rfl rfl (Nat.le_of_ble_eq_true rfl) ?_
    refine x_CI.mono h (fun t14 a15 h => ?_)
    exact f_iret (ty := .int) rfl rfl (by decide +kernel) rfl h
  · replace h := h.2 q
    refine o_iconst (n := 1) (v := 1) (by decide +kernel) (by decide) ?_
    refine o_iload (k := 5) 0 (by decide +kernel) rfl ?_
    refine o_iconst (n := 3) (v := 3) (by decide +kernel) (by decide) ?_
    refine o_imul (by decide +kernel) ?_
    refine o_aload_n (k := 0) 1 (by decide +kernel) rfl ?_
    refine f_getR (r := 1) (t := 4) (k := 0) (i := 18) (by decide +kernel) sh_329 rfl (by decide) lk_406 (by simp [x_ty, tyX4]) (gr_4_0 sh_329) ?_
    refine o_iload_n (k := 3) 4 (by decide +kernel) rfl ?_
    refine f_callVI (μ' := mX3_hillOf) (i := 53) (vs := [.int v3]) (by decide +kernel) lk_633 (vok_mX3_hillOf) sh_1 rfl rfl rfl rfl (Nat.le_of_ble_eq_true rfl) ?_
    refine x_CI.mono h (fun t16 a17 h => ?_)
    refine o_iadd (by decide +kernel) ?_
    refine o_aload_n (k := 0) 1 (by decide +kernel) rfl ?_
    refine f_getR (r := 1) (t := 4) (k := 0) (i := 18) (by decide +kernel) sh_329 rfl (by decide) lk_406 (by simp [x_ty, tyX4]) (gr_4_0 sh_329) ?_
    refine o_iload_n (k := 2) 3 (by decide +kernel) rfl ?_
    refine f_callVI (μ' := mX3_hillOf) (i := 53) (vs := [.int v2]) (by decide +kernel) lk_633 (vok_mX3_hillOf) sh_1 rfl rfl rfl rfl (Nat.le_of_ble_eq_true rfl) ?_
    refine x_CI.mono h (fun t18 a19 h => ?_)
    refine o_isub (by decide +kernel) ?_
    refine o_mmax (i := 57) (by decide +kernel) lk_637 lm_max (Nat.le_of_ble_eq_true rfl) ?_
    refine o_name (fun y20 ey20 => ?_)
    replace h := h y20 ey20
    exact f_iret (ty := .int) rfl rfl (by decide +kernel) rfl h
set_option maxRecDepth 20000 in
theorem e_X4_wearing {d : Nat} {K : x_T → Int32 → Prop} {r1 : Nat} (h1 : x_sh r1 = (1, 11)) {τ : x_T} (h : x_CI d mX4_rules [.ref 329, .int 1] τ (fun t1 a2 => (¬ a2 = 0 → x_CV d mX4_nameHere [.ref 329, .ref r1, .int (t1.1 r1 0)] t1 (fun t3 => ∀ t5, t5 = x_w1 t3 330 29 (t3.1 r1 4) → (∀ t6, t6 = x_w1 t5 330 30 (t5.1 r1 2) → (x_CI d mX4_said [.ref 329, .int 1] t6 (fun t7 a8 => x_CI d mX11_held [.int a8, .int 0, .int 99] t7 (fun t9 a10 => K t9 a10)))))) ∧ (a2 = 0 → K t1 1))) : x_CI (d + 1) mX4_wearing [.ref 329, .ref r1] τ K := by
  refine x_CI_of (by decide) (Nat.le_of_ble_eq_true rfl) ?_
  show x_WI (d + 1) mX4_wearing K 0 [(0, .ref 329), (1, .ref r1)] [] τ
  refine o_aload_n (k := 0) 0 (by decide +kernel) rfl ?_
  refine o_iconst (n := 1) (v := 1) (by decide +kernel) (by decide) ?_
  refine f_callVI (μ' := mX4_rules) (i := 50) (vs := [.int 1]) (by decide +kernel) lk_625 (vok_mX4_rules) sh_329 rfl rfl rfl rfl (Nat.le_of_ble_eq_true rfl) ?_
  refine x_CI.mono h (fun t1 a2 h => ?_)
  refine o_if_ne (off := 5) 10 (by decide +kernel) (by decide) (fun q => ?_) (fun q => ?_)
  · replace h := h.1 q
    refine o_aload_n (k := 0) 0 (by decide +kernel) rfl ?_
    refine o_aload_n (k := 1) 1 (by decide +kernel) rfl ?_
    refine o_aload_n (k := 1) 1 (by decide +kernel) rfl ?_
    refine f_getI (t := 1) (k := 0) (i := 76) (by decide +kernel) h1 rfl (by decide) lk_227 rfl ?_
    refine f_callVV (μ' := mX4_nameHere) (i := 62) (vs := [.ref r1, .int (t1.1 r1 0)]) (by decide +kernel) lk_640 (vok_mX4_nameHere) sh_329 rfl rfl rfl rfl (Nat.le_of_ble_eq_true rfl) ?_
    refine x_CV.mono h (fun t3 h => ?_)
    refine o_aload_n (k := 0) 0 (by decide +kernel) rfl ?_
    refine f_getR (r := 330) (t := 4) (k := 1) (i := 9) (by decide +kernel) sh_329 rfl (by decide) lk_407 (by simp [x_ty, tyX4]) (gr_4_1 sh_329) ?_
    refine o_bipush (n := 29) (v := 29) (by decide +kernel) (by decide) ?_
    refine o_aload_n (k := 1) 1 (by decide +kernel) rfl ?_
    refine f_getI (t := 1) (k := 4) (i := 79) (by decide +kernel) h1 rfl (by decide) lk_242 rfl ?_
    refine f_iast (k := 29) (by decide +kernel) sh_330 (by unfold vp_in; decide) (by decide) ?_
    refine f_name (fun t5 et5 => ?_)
    replace h := h t5 et5
    refine o_aload_n (k := 0) 0 (by decide +kernel) rfl ?_
    refine f_getR (r := 330) (t := 4) (k := 1) (i := 9) (by decide +kernel) sh_329 rfl (by decide) lk_407 (by simp [x_ty, tyX4]) (gr_4_1 sh_329) ?_
    refine o_bipush (n := 30) (v := 30) (by decide +kernel) (by decide) ?_
    refine o_aload_n (k := 1) 1 (by decide +kernel) rfl ?_
    refine f_getI (t := 1) (k := 2) (i := 82) (by decide +kernel) h1 rfl (by decide) lk_235 rfl ?_
    refine f_iast (k := 30) (by decide +kernel) sh_330 (by unfold vp_in; decide) (by decide) ?_
    refine f_name (fun t6 et6 => ?_)
    replace h := h t6 et6
    refine o_aload_n (k := 0) 0 (by decide +kernel) rfl ?_
    refine o_iconst (n := 1) (v := 1) (by decide +kernel) (by decide) ?_
    refine f_callVI (μ' := mX4_said) (i := 69) (vs := [.int 1]) (by decide +kernel) lk_650 (vok_mX4_said) sh_329 rfl rfl rfl rfl (Nat.le_of_ble_eq_true rfl) ?_
    refine x_CI.mono h (fun t7 a8 h => ?_)
    refine o_iconst (n := 0) (v := 0) (by decide +kernel) (by decide) ?_
    refine o_bipush (n := 99) (v := 99) (by decide +kernel) (by decide) ?_
    refine f_callSNI (μ' := mX11_held) (i := 72) (hn0 := "NoonOnABarrow") (vs := [.int a8, .int 0, .int 99]) (by decide +kernel) (by decide +kernel) (cok_mX11_held) rfl (stt_mX11_held) rfl rfl (Nat.le_of_ble_eq_true rfl) ?_
    refine x_CI.mono h (fun t9 a10 h => ?_)
    exact f_iret (ty := .int) rfl rfl (by decide +kernel) rfl h
  · replace h := h.2 q
    refine o_iconst (n := 1) (v := 1) (by decide +kernel) (by decide) ?_
    exact f_iret (ty := .int) rfl rfl (by decide +kernel) rfl h
set_option maxRecDepth 20000 in
theorem e_X4_earning {d : Nat} {K : x_T → Int32 → Prop} {r1 : Nat} (h1 : x_sh r1 = (1, 11)) {v2 : Int32} {τ : x_T} (h : x_CI d mX3_hourBy [.ref 1, .int (τ.1 r1 0), .int v2] τ (fun t1 a2 => x_CI d mX4_rules [.ref 329, .int 2] t1 (fun t3 a4 => (¬ a4 = 0 → x_CV d mX4_nameHere [.ref 329, .ref r1, .int v2] t3 (fun t5 => ∀ t7, t7 = x_w1 t5 330 24 a2 → (x_CI d mX1_paleOf [.ref r1, .int v2] t7 (fun t8 a9 => ∀ t10, t10 = x_w1 t8 330 25 a9 → (x_CI d mX1_purseOf [.ref r1, .int v2] t10 (fun t11 a12 => ∀ t13, t13 = x_w1 t11 330 26 a12 → (x_CI d mX4_said [.ref 329, .int 2] t13 (fun t14 a15 => x_CI d mX11_held [.int a15, .int (-99), .int 99] t14 (fun t16 a17 => K t16 a17))))))))) ∧ (a4 = 0 → ∀ y18, y18 = (if 0 ≤ a2 - 12 then a2 - 12 else 0 - (a2 - 12)) → (K t3 (12 - y18)))))) : x_CI (d + 1) mX4_earning [.ref 329, .ref r1, .int v2] τ K := by
  refine x_CI_of (by decide) (Nat.le_of_ble_eq_true rfl) ?_
  show x_WI (d + 1) mX4_earning K 0 [(0, .ref 329), (1, .ref r1), (2, .int v2)] [] τ
  refine o_aload_n (k := 0) 0 (by decide +kernel) rfl ?_
  refine f_getR (r := 1) (t := 4) (k := 0) (i := 18) (by decide +kernel) sh_329 rfl (by decide) lk_406 (by simp [x_ty, tyX4]) (gr_4_0 sh_329) ?_
  refine o_aload_n (k := 1) 1 (by decide +kernel) rfl ?_
  refine f_getI (t := 1) (k := 0) (i := 76) (by decide +kernel) h1 rfl (by decide) lk_227 rfl ?_
  refine o_iload_n (k := 2) 2 (by decide +kernel) rfl ?_
  refine f_callVI (μ' := mX3_hourBy) (i := 85) (vs := [.int (τ.1 r1 0), .int v2]) (by decide +kernel) lk_737 (vok_mX3_hourBy) sh_1 rfl rfl rfl rfl (Nat.le_of_ble_eq_true rfl) ?_
  refine x_CI.mono h (fun t1 a2 h => ?_)
  refine o_istore_n (k := 3) (L' := [(3, .int a2), (0, .ref 329), (1, .ref r1), (2, .int v2)]) (by decide +kernel) (by decide) rfl ?_
  refine o_aload_n (k := 0) 1 (by decide +kernel) rfl ?_
  refine o_iconst (n := 2) (v := 2) (by decide +kernel) (by decide) ?_
  refine f_callVI (μ' := mX4_rules) (i := 50) (vs := [.int 2]) (by decide +kernel) lk_625 (vok_mX4_rules) sh_329 rfl rfl rfl rfl (Nat.le_of_ble_eq_true rfl) ?_
  refine x_CI.mono h (fun t3 a4 h => ?_)
  refine o_if_ne (off := 14) 32 (by decide +kernel) (by decide) (fun q => ?_) (fun q => ?_)
  · replace h := h.1 q
    refine o_aload_n (k := 0) 1 (by decide +kernel) rfl ?_
    refine o_aload_n (k := 1) 2 (by decide +kernel) rfl ?_
    refine o_iload_n (k := 2) 3 (by decide +kernel) rfl ?_
    refine f_callVV (μ' := mX4_nameHere) (i := 62) (vs := [.ref r1, .int v2]) (by decide +kernel) lk_640 (vok_mX4_nameHere) sh_329 rfl rfl rfl rfl (Nat.le_of_ble_eq_true rfl) ?_
    refine x_CV.mono h (fun t5 h => ?_)
    refine o_aload_n (k := 0) 1 (by decide +kernel) rfl ?_
    refine f_getR (r := 330) (t := 4) (k := 1) (i := 9) (by decide +kernel) sh_329 rfl (by decide) lk_407 (by simp [x_ty, tyX4]) (gr_4_1 sh_329) ?_
    refine o_bipush (n := 24) (v := 24) (by decide +kernel) (by decide) ?_
    refine o_iload_n (k := 3) 0 (by decide +kernel) rfl ?_
    refine f_iast (k := 24) (by decide +kernel) sh_330 (by unfold vp_in; decide) (by decide) ?_
    refine f_name (fun t7 et7 => ?_)
    replace h := h t7 et7
    refine o_aload_n (k := 0) 1 (by decide +kernel) rfl ?_
    refine f_getR (r := 330) (t := 4) (k := 1) (i := 9) (by decide +kernel) sh_329 rfl (by decide) lk_407 (by simp [x_ty, tyX4]) (gr_4_1 sh_329) ?_
    refine o_bipush (n := 25) (v := 25) (by decide +kernel) (by decide) ?_
    refine o_aload_n (k := 1) 2 (by decide +kernel) rfl ?_
    refine o_iload_n (k := 2) 3 (by decide +kernel) rfl ?_
    refine f_callVI (μ' := mX1_paleOf) (i := 91) (vs := [.int v2]) (by decide +kernel) lk_746 (vok_mX1_paleOf) h1 rfl rfl rfl rfl (Nat.le_of_ble_eq_true rfl) ?_
    refine x_CI.mono h (fun t8 a9 h => ?_)
    refine f_iast (k := 25) (by decide +kernel) sh_330 (by unfold vp_in; decide) (by decide) ?_
    refine f_name (fun t10 et10 => ?_)
    replace h := h t10 et10
    refine o_aload_n (k := 0) 1 (by decide +kernel) rfl ?_
    refine f_getR (r := 330) (t := 4) (k := 1) (i := 9) (by decide +kernel) sh_329 rfl (by decide) lk_407 (by simp [x_ty, tyX4]) (gr_4_1 sh_329) ?_
    refine o_bipush (n := 26) (v := 26) (by decide +kernel) (by decide) ?_
    refine o_aload_n (k := 1) 2 (by decide +kernel) rfl ?_
    refine o_iload_n (k := 2) 3 (by decide +kernel) rfl ?_
    refine f_callVI (μ' := mX1_purseOf) (i := 94) (vs := [.int v2]) (by decide +kernel) lk_750 (vok_mX1_purseOf) h1 rfl rfl rfl rfl (Nat.le_of_ble_eq_true rfl) ?_
    refine x_CI.mono h (fun t11 a12 h => ?_)
    refine f_iast (k := 26) (by decide +kernel) sh_330 (by unfold vp_in; decide) (by decide) ?_
    refine f_name (fun t13 et13 => ?_)
    replace h := h t13 et13
    refine o_aload_n (k := 0) 1 (by decide +kernel) rfl ?_
    refine o_iconst (n := 2) (v := 2) (by decide +kernel) (by decide) ?_
    refine f_callVI (μ' := mX4_said) (i := 69) (vs := [.int 2]) (by decide +kernel) lk_650 (vok_mX4_said) sh_329 rfl rfl rfl rfl (Nat.le_of_ble_eq_true rfl) ?_
    refine x_CI.mono h (fun t14 a15 h => ?_)
    refine o_bipush (n := -99) (v := (-99)) (by decide +kernel) (by decide) ?_
    refine o_bipush (n := 99) (v := 99) (by decide +kernel) (by decide) ?_
    refine f_callSNI (μ' := mX11_held) (i := 72) (hn0 := "NoonOnABarrow") (vs := [.int a15, .int (-99), .int 99]) (by decide +kernel) (by decide +kernel) (cok_mX11_held) rfl (stt_mX11_held) rfl rfl (Nat.le_of_ble_eq_true rfl) ?_
    refine x_CI.mono h (fun t16 a17 h => ?_)
    exact f_iret (ty := .int) rfl rfl (by decide +kernel) rfl h
  · replace h := h.2 q
    refine o_bipush (n := 12) (v := 12) (by decide +kernel) (by decide) ?_
    refine o_iload_n (k := 3) 0 (by decide +kernel) rfl ?_
    refine o_bipush (n := 12) (v := 12) (by decide +kernel) (by decide) ?_
    refine o_isub (by decide +kernel) ?_
    refine o_mabs (i := 88) (by decide +kernel) lk_743 lm_abs (Nat.le_of_ble_eq_true rfl) ?_
    refine o_name (fun y18 ey18 => ?_)
    replace h := h y18 ey18
    refine o_isub (by decide +kernel) ?_
    exact f_iret (ty := .int) rfl rfl (by decide +kernel) rfl h
set_option maxRecDepth 20000 in
theorem e_X4_warmth {d : Nat} {K : x_T → Int32 → Prop} {r1 : Nat} (h1 : x_sh r1 = (1, 11)) {v2 : Int32} {v3 : Int32} {τ : x_T} (h : x_CI d mX4_rules [.ref 329, .int 3] τ (fun t1 a2 => (¬ a2 = 0 → x_CV d mX4_nameHere [.ref 329, .ref r1, .int v2] t1 (fun t3 => ∀ t5, t5 = x_w1 t3 330 31 v3 → (x_CI d mX4_said [.ref 329, .int 3] t5 (fun t6 a7 => x_CI d mX11_held [.int a7, .int 0, .int 99] t6 (fun t8 a9 => K t8 a9))))) ∧ (a2 = 0 → x_CI d mX3_wayBetween [.ref 1, .int v2, .int v3] t1 (fun t10 a11 => ∀ y12, y12 = (if 0 < 30 - (5 * a11) then 30 - (5 * a11) else 0) → (K t10 y12))))) : x_CI (d + 1) mX4_warmth [.ref 329, .ref r1, .int v2, .int v3] τ K := by
  refine x_CI_of (by decide) (Nat.le_of_ble_eq_true rfl) ?_
  show x_WI (d + 1) mX4_warmth K 0 [(0, .ref 329), (1, .ref r1), (2, .int v2), (3, .int v3)] [] τ
  refine o_aload_n (k := 0) 0 (by decide +kernel) rfl ?_
  refine o_iconst (n := 3) (v := 3) (by decide +kernel) (by decide) ?_
  refine f_callVI (μ' := mX4_rules) (i := 50) (vs := [.int 3]) (by decide +kernel) lk_625 (vok_mX4_rules) sh_329 rfl rfl rfl rfl (Nat.le_of_ble_eq_true rfl) ?_
  refine x_CI.mono h (fun t1 a2 h => ?_)
  refine o_if_ne (off := 22) 27 (by decide +kernel) (by decide) (fun q => ?_) (fun q => ?_)
  · replace h := h.1 q
    refine o_aload_n (k := 0) 0 (by decide +kernel) rfl ?_
    refine o_aload_n (k := 1) 1 (by decide +kernel) rfl ?_
    refine o_iload_n (k := 2) 2 (by decide +kernel) rfl ?_
    refine f_callVV (μ' := mX4_nameHere) (i := 62) (vs := [.ref r1, .int v2]) (by decide +kernel) lk_640 (vok_mX4_nameHere) sh_329 rfl rfl rfl rfl (Nat.le_of_ble_eq_true rfl) ?_
    refine x_CV.mono h (fun t3 h => ?_)
    refine o_aload_n (k := 0) 0 (by decide +kernel) rfl ?_
    refine f_getR (r := 330) (t := 4) (k := 1) (i := 9) (by decide +kernel) sh_329 rfl (by decide) lk_407 (by simp [x_ty, tyX4]) (gr_4_1 sh_329) ?_
    refine o_bipush (n := 31) (v := 31) (by decide +kernel) (by decide) ?_
    refine o_iload_n (k := 3) 3 (by decide +kernel) rfl ?_
    refine f_iast (k := 31) (by decide +kernel) sh_330 (by unfold vp_in; decide) (by decide) ?_
    refine f_name (fun t5 et5 => ?_)
    replace h := h t5 et5
    refine o_aload_n (k := 0) 0 (by decide +kernel) rfl ?_
    refine o_iconst (n := 3) (v := 3) (by decide +kernel) (by decide) ?_
    refine f_callVI (μ' := mX4_said) (i := 69) (vs := [.int 3]) (by decide +kernel) lk_650 (vok_mX4_said) sh_329 rfl rfl rfl rfl (Nat.le_of_ble_eq_true rfl) ?_
    refine x_CI.mono h (fun t6 a7 h => ?_)
    refine o_iconst (n := 0) (v := 0) (by decide +kernel) (by decide) ?_
    refine o_bipush (n := 99) (v := 99) (by decide +kernel) (by decide) ?_
    refine f_callSNI (μ' := mX11_held) (i := 72) (hn0 := "NoonOnABarrow") (vs := [.int a7, .int 0, .int 99]) (by decide +kernel) (by decide +kernel) (cok_mX11_held) rfl (stt_mX11_held) rfl rfl (Nat.le_of_ble_eq_true rfl) ?_
    refine x_CI.mono h (fun t8 a9 h => ?_)
    exact f_iret (ty := .int) rfl rfl (by decide +kernel) rfl h
  · replace h := h.2 q
    refine o_iconst (n := 0) (v := 0) (by decide +kernel) (by decide) ?_
    refine o_bipush (n := 30) (v := 30) (by decide +kernel) (by decide) ?_
    refine o_iconst (n := 5) (v := 5) (by decide +kernel) (by decide) ?_
    refine o_aload_n (k := 0) 0 (by decide +kernel) rfl ?_
    refine f_getR (r := 1) (t := 4) (k := 0) (i := 18) (by decide +kernel) sh_329 rfl (by decide) lk_406 (by simp [x_ty, tyX4]) (gr_4_0 sh_329) ?_
    refine o_iload_n (k := 2) 2 (by decide +kernel) rfl ?_
    refine o_iload_n (k := 3) 3 (by decide +kernel) rfl ?_
    refine f_callVI (μ' := mX3_wayBetween) (i := 97) (vs := [.int v2, .int v3]) (by decide +kernel) lk_678 (vok_mX3_wayBetween) sh_1 rfl rfl rfl rfl (Nat.le_of_ble_eq_true rfl) ?_
    refine x_CI.mono h (fun t10 a11 h => ?_)
    refine o_imul (by decide +kernel) ?_
    refine o_isub (by decide +kernel) ?_
    refine o_mmax (i := 57) (by decide +kernel) lk_637 lm_max (Nat.le_of_ble_eq_true rfl) ?_
    refine o_name (fun y12 ey12 => ?_)
    replace h := h y12 ey12
    exact f_iret (ty := .int) rfl rfl (by decide +kernel) rfl h
theorem d_X4_said_76 : decode mX4_said.2.1 76 = .ok (.lookupswitch (158) #[(19, 145), (45, 71), (48, 80), (49, 133), (50, 116), (51, 110), (52, 68)], 68) := by decide +kernel
set_option maxRecDepth 20000 in
theorem e_X4_said {d : Nat} {K : x_T → Int32 → Prop} {v1 : Int32} {τ : x_T} (h : (∀ c1, τ.2.2.2 = some c1 → (∀ t2, t2 = x_w1 τ 329 3 0 → (∃ c3, t2.2.2.2 = some c3 ∧ x_sh c3 = (9, 10) ∧ (x_CI d mX9_lawEnd [.ref c3, .int v1] t2 (fun t4 a5 => ∃ c6, t4.2.2.2 = some c6 ∧ x_sh c6 = (9, 10) ∧ (x_CI d mX9_lawStart [.ref c6, .int v1] t4 (fun t7 a8 => x_WI (d + 1) mX4_said K 35 [(0, .ref 329), (2, .int a5), (3, .int 0), (4, .int a8)] [] t7))))))) ∧ (τ.2.2.2 = none → K τ 0)) : x_CI (d + 1) mX4_said [.ref 329, .int v1] τ K := by
  refine x_CI_of (by decide) (Nat.le_of_ble_eq_true rfl) ?_
  show x_WI (d + 1) mX4_said K 0 [(0, .ref 329), (1, .int v1)] [] τ
  refine o_aload_n (k := 0) 0 (by decide +kernel) rfl ?_
  refine f_getN (r := τ.2.2.2) (t := 4) (k := 4) (i := 22) (by decide +kernel) sh_329 rfl (by decide) lk_410 (by simp [x_ty, tyX4]) rfl ?_
  refine o_ifnonnull (r := τ.2.2.2) (off := 5) 9 (by decide +kernel) (by decide) (fun c1 e => ?_) (fun e => ?_)
  · replace h := h.1 c1 e
    refine o_aload_n (k := 0) 0 (by decide +kernel) rfl ?_
    refine o_iconst (n := 0) (v := 0) (by decide +kernel) (by decide) ?_
    refine f_putI (t := 4) (k := 3) (i := 100) (by decide +kernel) sh_329 rfl (by decide) lk_409 rfl rfl ?_
    refine f_name (fun t2 et2 => ?_)
    replace h := h t2 et2
    refine o_aload_n (k := 0) 0 (by decide +kernel) rfl ?_
    obtain ⟨c3, ec3, hsc3, h⟩ := h
    refine f_getR (r := c3) (t := 4) (k := 4) (i := 22) (by decide +kernel) sh_329 rfl (by decide) lk_410 (by simp [x_ty, tyX4]) ec3 ?_
    refine o_iload_n (k := 1) 1 (by decide +kernel) rfl ?_
    refine f_callVI (μ' := mX9_lawEnd) (i := 103) (vs := [.int v1]) (by decide +kernel) lk_654 (vok_mX9_lawEnd) hsc3 rfl rfl rfl rfl (Nat.le_of_ble_eq_true rfl) ?_
    refine x_CI.mono h (fun t4 a5 h => ?_)
    refine o_istore_n (k := 2) (L' := [(2, .int a5), (0, .ref 329), (1, .int v1)]) (by decide +kernel) (by decide) rfl ?_
    refine o_iconst (n := 0) (v := 0) (by decide +kernel) (by decide) ?_
    refine o_istore_n (k := 3) (L' := [(3, .int 0), (2, .int a5), (0, .ref 329), (1, .int v1)]) (by decide +kernel) (by decide) rfl ?_
    refine o_aload_n (k := 0) 2 (by decide +kernel) rfl ?_
    obtain ⟨c6, ec6, hsc6, h⟩ := h
    refine f_getR (r := c6) (t := 4) (k := 4) (i := 22) (by decide +kernel) sh_329 rfl (by decide) lk_410 (by simp [x_ty, tyX4]) ec6 ?_
    refine o_iload_n (k := 1) 3 (by decide +kernel) rfl ?_
    refine f_callVI (μ' := mX9_lawStart) (i := 106) (vs := [.int v1]) (by decide +kernel) lk_658 (vok_mX9_lawStart) hsc6 rfl rfl rfl rfl (Nat.le_of_ble_eq_true rfl) ?_
    refine x_CI.mono h (fun t7 a8 h => ?_)
    refine o_istore (k := 4) (L' := [(4, .int a8), (3, .int 0), (2, .int a5), (0, .ref 329), (1, .int v1)]) (by decide +kernel) (by decide) rfl ?_
    refine o_sub [3, 2, 1, 0] rfl ?_
    exact h
  · replace h := h.2 e
    refine o_iconst (n := 0) (v := 0) (by decide +kernel) (by decide) ?_
    exact f_iret (ty := .int) rfl rfl (by decide +kernel) rfl h
set_option maxRecDepth 20000 in
theorem k_X4_said_35 {d : Nat} {K : x_T → Int32 → Prop} {v2 : Int32} {v3 : Int32} {v4 : Int32} {τ : x_T} (h : (v2 ≤ v4 → x_CI d mX4_lift [.ref 329] τ (fun t1 a2 => K t1 a2)) ∧ (¬ v2 ≤ v4 → ∃ c3, τ.2.2.2 = some c3 ∧ x_sh c3 = (9, 10) ∧ (x_CI d mX9_givenAt [.ref c3, .int v4] τ (fun t4 a5 => (v3 ≤ v4 → ∃ c6, t4.2.2.2 = some c6 ∧ x_sh c6 = (9, 10) ∧ (x_CI d mX9_stepAt [.ref c6, .int v4] t4 (fun t7 a8 => x_WI (d + 1) mX4_said K 72 [(0, .ref 329), (2, .int v2), (3, .int v3), (4, .int v4), (5, .int a5)] [.int a8] t7))) ∧ (¬ v3 ≤ v4 → x_WI (d + 1) mX4_said K 72 [(0, .ref 329), (2, .int v2), (3, .int v3), (4, .int v4), (5, .int a5)] [.int 52] t4))))) : x_WI (d + 1) mX4_said K 35 [(0, .ref 329), (2, .int v2), (3, .int v3), (4, .int v4)] [] τ := by
  refine o_iload (k := 4) 3 (by decide +kernel) rfl ?_
  refine o_iload_n (k := 2) 1 (by decide +kernel) rfl ?_
  refine o_icmp_ge (off := 248) 286 (by decide +kernel) (by decide) (fun q => ?_) (fun q => ?_)
  · replace h := h.1 q
    refine o_aload_n (k := 0) 0 (by decide +kernel) rfl ?_
    refine f_callVI (μ' := mX4_lift) (i := 119) (vs := []) (by decide +kernel) lk_674 (vok_mX4_lift) sh_329 rfl rfl rfl rfl (Nat.le_of_ble_eq_true rfl) ?_
    refine x_CI.mono h (fun t1 a2 h => ?_)
    exact f_iret (ty := .int) rfl rfl (by decide +kernel) rfl h
  · replace h := h.2 q
    refine o_aload_n (k := 0) 0 (by decide +kernel) rfl ?_
    obtain ⟨c3, ec3, hsc3, h⟩ := h
    refine f_getR (r := c3) (t := 4) (k := 4) (i := 22) (by decide +kernel) sh_329 rfl (by decide) lk_410 (by simp [x_ty, tyX4]) ec3 ?_
    refine o_iload (k := 4) 3 (by decide +kernel) rfl ?_
    refine f_callVI (μ' := mX9_givenAt) (i := 109) (vs := [.int v4]) (by decide +kernel) lk_662 (vok_mX9_givenAt) hsc3 rfl rfl rfl rfl (Nat.le_of_ble_eq_true rfl) ?_
    refine x_CI.mono h (fun t4 a5 h => ?_)
    refine o_istore (k := 5) (L' := [(5, .int a5), (0, .ref 329), (2, .int v2), (3, .int v3), (4, .int v4)]) (by decide +kernel) (by decide) rfl ?_
    refine o_iload (k := 4) 4 (by decide +kernel) rfl ?_
    refine o_iload_n (k := 3) 3 (by decide +kernel) rfl ?_
    refine o_icmp_ge (off := 8) 63 (by decide +kernel) (by decide) (fun q => ?_) (fun q => ?_)
    · replace h := h.1 q
      refine o_aload_n (k := 0) 1 (by decide +kernel) rfl ?_
      obtain ⟨c6, ec6, hsc6, h⟩ := h
      refine f_getR (r := c6) (t := 4) (k := 4) (i := 22) (by decide +kernel) sh_329 rfl (by decide) lk_410 (by simp [x_ty, tyX4]) ec6 ?_
      refine o_iload (k := 4) 4 (by decide +kernel) rfl ?_
      refine f_callVI (μ' := mX9_stepAt) (i := 112) (vs := [.int v4]) (by decide +kernel) lk_666 (vok_mX9_stepAt) hsc6 rfl rfl rfl rfl (Nat.le_of_ble_eq_true rfl) ?_
      refine x_CI.mono h (fun t7 a8 h => ?_)
      refine o_sub [1, 2, 3, 4, 0] rfl ?_
      exact h
    · replace h := h.2 q
      refine o_bipush (n := 52) (v := 52) (by decide +kernel) (by decide) ?_
      refine o_goto (off := 12) 72 (by decide +kernel) (by decide) ?_
      refine o_sub [1, 2, 3, 4, 0] rfl ?_
      exact h
set_option maxRecDepth 20000 in
theorem k_X4_said_72 {d : Nat} {K : x_T → Int32 → Prop} {v2 : Int32} {v3 : Int32} {v4 : Int32} {v5 : Int32} {s0 : Int32} {τ : x_T} (h : ((s0 = 19 → x_CI d mX4_lift [.ref 329] τ (fun t1 a2 => x_CV d mX4_lay [.ref 329, .int (1 - a2)] t1 (fun t3 => x_WI (d + 1) mX4_said K 280 [(0, .ref 329), (2, .int v2), (3, .int v3), (4, .int v4)] [] t3))) ∧ (¬ s0 = 19 → (s0 = 45 → x_CV d mX4_lay [.ref 329, .int v5] τ (fun t5 => x_WI (d + 1) mX4_said K 280 [(0, .ref 329), (2, .int v2), (3, .int v3), (4, .int v4)] [] t5)) ∧ (¬ s0 = 45 → (s0 = 48 → (v5 < 0 → x_WI (d + 1) mX4_said K 179 [(0, .ref 329), (2, .int v2), (3, .int v3), (4, .int v4)] [.ref 329] τ) ∧ (¬ v5 < 0 → (32 ≤ v5 → x_WI (d + 1) mX4_said K 179 [(0, .ref 329), (2, .int v2), (3, .int v3), (4, .int v4)] [.ref 329] τ) ∧ (¬ 32 ≤ v5 → vp_in v5 32 ∧ (x_WI (d + 1) mX4_said K 180 [(0, .ref 329), (2, .int v2), (3, .int v3), (4, .int v4)] [.int (τ.1 330 v5.toNatClampNeg), .ref 329] τ)))) ∧ (¬ s0 = 48 → (s0 = 49 → x_CI d mX4_lift [.ref 329] τ (fun t7 a8 => x_CV d mX4_lay [.ref 329, .int (-a8)] t7 (fun t9 => x_WI (d + 1) mX4_said K 280 [(0, .ref 329), (2, .int v2), (3, .int v3), (4, .int v4)] [] t9))) ∧ (¬ s0 = 49 → (s0 = 50 → x_CI d mX4_lift [.ref 329] τ (fun t11 a12 => (¬ a12 = 0 → x_WI (d + 1) mX4_said K 205 [(0, .ref 329), (2, .int v2), (4, .int v4)] [.int v3] t11) ∧ (a12 = 0 → x_WI (d + 1) mX4_said K 205 [(0, .ref 329), (2, .int v2), (4, .int v4)] [.int v5] t11))) ∧ (¬ s0 = 50 → (s0 = 51 → x_WI (d + 1) mX4_said K 280 [(0, .ref 329), (2, .int v2), (3, .int v5), (4, .int v4)] [] τ) ∧ (¬ s0 = 51 → (s0 = 52 → x_WI (d + 1) mX4_said K 280 [(0, .ref 329), (2, .int v2), (3, .int v3), (4, .int v4)] [] τ) ∧ (¬ s0 = 52 → (x_CI d mX4_lift [.ref 329] τ (fun t13 a14 => x_CI d mX4_lift [.ref 329] t13 (fun t15 a16 => (¬ s0 = 14 → x_CI d mX4_joined [.int s0, .int a16, .int a14] t15 (fun t17 a18 => x_WI (d + 1) mX4_said K 277 [(0, .ref 329), (2, .int v2), (3, .int v3), (4, .int v4)] [.int a18, .ref 329] t17)) ∧ (s0 = 14 → x_CI d mX3_wayBetween [.ref 1, .int a16, .int a14] t15 (fun t19 a20 => x_WI (d + 1) mX4_said K 277 [(0, .ref 329), (2, .int v2), (3, .int v3), (4, .int v4)] [.int a20, .ref 329] t19)))))))))))))) : x_WI (d + 1) mX4_said K 72 [(0, .ref 329), (2, .int v2), (3, .int v3), (4, .int v4), (5, .int v5)] [.int s0] τ := by
  refine o_istore (k := 6) (L' := [(6, .int s0), (0, .ref 329), (2, .int v2), (3, .int v3), (4, .int v4), (5, .int v5)]) (by decide +kernel) (by decide) rfl ?_
  refine o_iload (k := 6) 0 (by decide +kernel) rfl ?_
  by_cases c19 : s0 = 19
  · replace h := h.1 c19
    refine o_lookup (off := 145) (tgt := 221) (d_X4_said_76) (by decide) (by rw [c19]; decide) (by decide) ?_
    refine o_aload_n (k := 0) 1 (by decide +kernel) rfl ?_
    refine o_iconst (n := 1) (v := 1) (by decide +kernel) (by decide) ?_
    refine o_aload_n (k := 0) 1 (by decide +kernel) rfl ?_
    refine f_callVI (μ' := mX4_lift) (i := 119) (vs := []) (by decide +kernel) lk_674 (vok_mX4_lift) sh_329 rfl rfl rfl rfl (Nat.le_of_ble_eq_true rfl) ?_
    refine x_CI.mono h (fun t1 a2 h => ?_)
    refine o_isub (by decide +kernel) ?_
    refine f_callVV (μ' := mX4_lay) (i := 115) (vs := [.int (1 - a2)]) (by decide +kernel) lk_670 (vok_mX4_lay) sh_329 rfl rfl rfl rfl (Nat.le_of_ble_eq_true rfl) ?_
    refine x_CV.mono h (fun t3 h => ?_)
    refine o_goto (off := 49) 280 (by decide +kernel) (by decide) ?_
    refine o_sub [1, 2, 3, 4] rfl ?_
    exact h
  replace h := h.2 c19
  by_cases c45 : s0 = 45
  · replace h := h.1 c45
    refine o_lookup (off := 71) (tgt := 147) (d_X4_said_76) (by decide) (by rw [c45]; decide) (by decide) ?_
    refine o_aload_n (k := 0) 1 (by decide +kernel) rfl ?_
    refine o_iload (k := 5) 5 (by decide +kernel) rfl ?_
    refine f_callVV (μ' := mX4_lay) (i := 115) (vs := [.int v5]) (by decide +kernel) lk_670 (vok_mX4_lay) sh_329 rfl rfl rfl rfl (Nat.le_of_ble_eq_true rfl) ?_
    refine x_CV.mono h (fun t5 h => ?_)
    refine o_goto (off := 127) 280 (by decide +kernel) (by decide) ?_
    refine o_sub [1, 2, 3, 4] rfl ?_
    exact h
  replace h := h.2 c45
  by_cases c48 : s0 = 48
  · replace h := h.1 c48
    refine o_lookup (off := 80) (tgt := 156) (d_X4_said_76) (by decide) (by rw [c48]; decide) (by decide) ?_
    refine o_aload_n (k := 0) 1 (by decide +kernel) rfl ?_
    refine o_iload (k := 5) 5 (by decide +kernel) rfl ?_
    refine o_if_lt (off := 20) 179 (by decide +kernel) (by decide) (fun q => ?_) (fun q => ?_)
    · replace h := h.1 q
      refine o_sub [1, 2, 3, 4] rfl ?_
      exact h
    · replace h := h.2 q
      refine o_iload (k := 5) 5 (by decide +kernel) rfl ?_
      refine o_bipush (n := 32) (v := 32) (by decide +kernel) (by decide) ?_
      refine o_icmp_ge (off := 13) 179 (by decide +kernel) (by decide) (fun q => ?_) (fun q => ?_)
      · replace h := h.1 q
        refine o_sub [1, 2, 3, 4] rfl ?_
        exact h
      · replace h := h.2 q
        refine o_aload_n (k := 0) 1 (by decide +kernel) rfl ?_
        refine f_getR (r := 330) (t := 4) (k := 1) (i := 9) (by decide +kernel) sh_329 rfl (by decide) lk_407 (by simp [x_ty, tyX4]) (gr_4_1 sh_329) ?_
        refine o_iload (k := 5) 5 (by decide +kernel) rfl ?_
        obtain ⟨hi, h⟩ := h
        refine f_iald (by decide +kernel) sh_330 hi rfl ?_
        refine o_goto (off := 4) 180 (by decide +kernel) (by decide) ?_
        refine o_sub [1, 2, 3, 4] rfl ?_
        exact h
  replace h := h.2 c48
  by_cases c49 : s0 = 49
  · replace h := h.1 c49
    refine o_lookup (off := 133) (tgt := 209) (d_X4_said_76) (by decide) (by rw [c49]; decide) (by decide) ?_
    refine o_aload_n (k := 0) 1 (by decide +kernel) rfl ?_
    refine o_aload_n (k := 0) 1 (by decide +kernel) rfl ?_
    refine f_callVI (μ' := mX4_lift) (i := 119) (vs := []) (by decide +kernel) lk_674 (vok_mX4_lift) sh_329 rfl rfl rfl rfl (Nat.le_of_ble_eq_true rfl) ?_
    refine x_CI.mono h (fun t7 a8 h => ?_)
    refine o_ineg (by decide +kernel) ?_
    refine f_callVV (μ' := mX4_lay) (i := 115) (vs := [.int (-a8)]) (by decide +kernel) lk_670 (vok_mX4_lay) sh_329 rfl rfl rfl rfl (Nat.le_of_ble_eq_true rfl) ?_
    refine x_CV.mono h (fun t9 h => ?_)
    refine o_goto (off := 62) 280 (by decide +kernel) (by decide) ?_
    refine o_sub [1, 2, 3, 4] rfl ?_
    exact h
  replace h := h.2 c49
  by_cases c50 : s0 = 50
  · replace h := h.1 c50
    refine o_lookup (off := 116) (tgt := 192) (d_X4_said_76) (by decide) (by rw [c50]; decide) (by decide) ?_
    refine o_aload_n (k := 0) 1 (by decide +kernel) rfl ?_
    refine f_callVI (μ' := mX4_lift) (i := 119) (vs := []) (by decide +kernel) lk_674 (vok_mX4_lift) sh_329 rfl rfl rfl rfl (Nat.le_of_ble_eq_true rfl) ?_
    refine x_CI.mono h (fun t11 a12 h => ?_)
    refine o_if_ne (off := 8) 204 (by decide +kernel) (by decide) (fun q => ?_) (fun q => ?_)
    · replace h := h.1 q
      refine o_iload_n (k := 3) 3 (by decide +kernel) rfl ?_
      refine o_sub [1, 2, 4] rfl ?_
      exact h
    · replace h := h.2 q
      refine o_iload (k := 5) 5 (by decide +kernel) rfl ?_
      refine o_goto (off := 4) 205 (by decide +kernel) (by decide) ?_
      refine o_sub [1, 2, 4] rfl ?_
      exact h
  replace h := h.2 c50
  by_cases c51 : s0 = 51
  · replace h := h.1 c51
    refine o_lookup (off := 110) (tgt := 186) (d_X4_said_76) (by decide) (by rw [c51]; decide) (by decide) ?_
    refine o_iload (k := 5) 5 (by decide +kernel) rfl ?_
    refine o_istore_n (k := 3) (L' := [(3, .int v5), (6, .int s0), (0, .ref 329), (2, .int v2), (4, .int v4), (5, .int v5)]) (by decide +kernel) (by decide) rfl ?_
    refine o_goto (off := 91) 280 (by decide +kernel) (by decide) ?_
    refine o_sub [2, 3, 0, 4] rfl ?_
    exact h
  replace h := h.2 c51
  by_cases c52 : s0 = 52
  · replace h := h.1 c52
    refine o_lookup (off := 68) (tgt := 144) (d_X4_said_76) (by decide) (by rw [c52]; decide) (by decide) ?_
    refine o_goto (off := 136) 280 (by decide +kernel) (by decide) ?_
    refine o_sub [1, 2, 3, 4] rfl ?_
    exact h
  replace h := h.2 c52
  refine o_lookup (off := 158) (tgt := 234) (d_X4_said_76) (by decide) (by have := x_neS (z := 19) (by decide) c19; have := x_neS (z := 45) (by decide) c45; have := x_neS (z := 48) (by decide) c48; have := x_neS (z := 49) (by decide) c49; have := x_neS (z := 50) (by decide) c50; have := x_neS (z := 51) (by decide) c51; have := x_neS (z := 52) (by decide) c52; simp [Op.lookupswitch.offset, *]) (by decide) ?_
  refine o_aload_n (k := 0) 1 (by decide +kernel) rfl ?_
  refine f_callVI (μ' := mX4_lift) (i := 119) (vs := []) (by decide +kernel) lk_674 (vok_mX4_lift) sh_329 rfl rfl rfl rfl (Nat.le_of_ble_eq_true rfl) ?_
  refine x_CI.mono h (fun t13 a14 h => ?_)
  refine o_istore (k := 7) (L' := [(7, .int a14), (6, .int s0), (0, .ref 329), (2, .int v2), (3, .int v3), (4, .int v4), (5, .int v5)]) (by decide +kernel) (by decide) rfl ?_
  refine o_aload_n (k := 0) 2 (by decide +kernel) rfl ?_
  refine f_callVI (μ' := mX4_lift) (i := 119) (vs := []) (by decide +kernel) lk_674 (vok_mX4_lift) sh_329 rfl rfl rfl rfl (Nat.le_of_ble_eq_true rfl) ?_
  refine x_CI.mono h (fun t15 a16 h => ?_)
  refine o_istore (k := 8) (L' := [(8, .int a16), (7, .int a14), (6, .int s0), (0, .ref 329), (2, .int v2), (3, .int v3), (4, .int v4), (5, .int v5)]) (by decide +kernel) (by decide) rfl ?_
  refine o_aload_n (k := 0) 3 (by decide +kernel) rfl ?_
  refine o_iload (k := 6) 2 (by decide +kernel) rfl ?_
  refine o_bipush (n := 14) (v := 14) (by decide +kernel) (by decide) ?_
  refine o_icmp_ne (off := 17) 268 (by decide +kernel) (by decide) (fun q => ?_) (fun q => ?_)
  · replace h := h.1 q
    refine o_iload (k := 6) 2 (by decide +kernel) rfl ?_
    refine o_iload (k := 8) 0 (by decide +kernel) rfl ?_
    refine o_iload (k := 7) 1 (by decide +kernel) rfl ?_
    refine f_callSI (μ' := mX4_joined) (i := 123) (vs := [.int s0, .int a16, .int a14]) (by decide +kernel) lk_682 (cok_mX4_joined) rfl (stt_mX4_joined) rfl rfl (Nat.le_of_ble_eq_true rfl) ?_
    refine x_CI.mono h (fun t17 a18 h => ?_)
    refine o_sub [3, 4, 5, 6] rfl ?_
    exact h
  · replace h := h.2 q
    refine o_aload_n (k := 0) 3 (by decide +kernel) rfl ?_
    refine f_getR (r := 1) (t := 4) (k := 0) (i := 18) (by decide +kernel) sh_329 rfl (by decide) lk_406 (by simp [x_ty, tyX4]) (gr_4_0 sh_329) ?_
    refine o_iload (k := 8) 0 (by decide +kernel) rfl ?_
    refine o_iload (k := 7) 1 (by decide +kernel) rfl ?_
    refine f_callVI (μ' := mX3_wayBetween) (i := 97) (vs := [.int a16, .int a14]) (by decide +kernel) lk_678 (vok_mX3_wayBetween) sh_1 rfl rfl rfl rfl (Nat.le_of_ble_eq_true rfl) ?_
    refine x_CI.mono h (fun t19 a20 h => ?_)
    refine o_goto (off := 12) 277 (by decide +kernel) (by decide) ?_
    refine o_sub [3, 4, 5, 6] rfl ?_
    exact h
set_option maxRecDepth 20000 in
theorem k_X4_said_179 {d : Nat} {K : x_T → Int32 → Prop} {v2 : Int32} {v3 : Int32} {v4 : Int32} {τ : x_T} (h : x_WI (d + 1) mX4_said K 180 [(0, .ref 329), (2, .int v2), (3, .int v3), (4, .int v4)] [.int 0, .ref 329] τ) : x_WI (d + 1) mX4_said K 179 [(0, .ref 329), (2, .int v2), (3, .int v3), (4, .int v4)] [.ref 329] τ := by
  refine o_iconst (n := 0) (v := 0) (by decide +kernel) (by decide) ?_
  exact h
set_option maxRecDepth 20000 in
theorem k_X4_said_180 {d : Nat} {K : x_T → Int32 → Prop} {v2 : Int32} {v3 : Int32} {v4 : Int32} {s0 : Int32} {τ : x_T} (h : x_CV d mX4_lay [.ref 329, .int s0] τ (fun t1 => x_WI (d + 1) mX4_said K 280 [(0, .ref 329), (2, .int v2), (3, .int v3), (4, .int v4)] [] t1)) : x_WI (d + 1) mX4_said K 180 [(0, .ref 329), (2, .int v2), (3, .int v3), (4, .int v4)] [.int s0, .ref 329] τ := by
  refine f_callVV (μ' := mX4_lay) (i := 115) (vs := [.int s0]) (by decide +kernel) lk_670 (vok_mX4_lay) sh_329 rfl rfl rfl rfl (Nat.le_of_ble_eq_true rfl) ?_
  refine x_CV.mono h (fun t1 h => ?_)
  refine o_goto (off := 97) 280 (by decide +kernel) (by decide) ?_
  exact h
set_option maxRecDepth 20000 in
theorem k_X4_said_205 {d : Nat} {K : x_T → Int32 → Prop} {v2 : Int32} {v4 : Int32} {s0 : Int32} {τ : x_T} (h : x_WI (d + 1) mX4_said K 280 [(0, .ref 329), (2, .int v2), (3, .int s0), (4, .int v4)] [] τ) : x_WI (d + 1) mX4_said K 205 [(0, .ref 329), (2, .int v2), (4, .int v4)] [.int s0] τ := by
  refine o_istore_n (k := 3) (L' := [(3, .int s0), (0, .ref 329), (2, .int v2), (4, .int v4)]) (by decide +kernel) (by decide) rfl ?_
  refine o_goto (off := 74) 280 (by decide +kernel) (by decide) ?_
  refine o_sub [1, 2, 0, 3] rfl ?_
  exact h
set_option maxRecDepth 20000 in
theorem k_X4_said_277 {d : Nat} {K : x_T → Int32 → Prop} {v2 : Int32} {v3 : Int32} {v4 : Int32} {s0 : Int32} {τ : x_T} (h : x_CV d mX4_lay [.ref 329, .int s0] τ (fun t1 => x_WI (d + 1) mX4_said K 280 [(0, .ref 329), (2, .int v2), (3, .int v3), (4, .int v4)] [] t1)) : x_WI (d + 1) mX4_said K 277 [(0, .ref 329), (2, .int v2), (3, .int v3), (4, .int v4)] [.int s0, .ref 329] τ := by
  refine f_callVV (μ' := mX4_lay) (i := 115) (vs := [.int s0]) (by decide +kernel) lk_670 (vok_mX4_lay) sh_329 rfl rfl rfl rfl (Nat.le_of_ble_eq_true rfl) ?_
  refine x_CV.mono h (fun t1 h => ?_)
  exact h
set_option maxRecDepth 20000 in
theorem k_X4_said_280 {d : Nat} {K : x_T → Int32 → Prop} {v2 : Int32} {v3 : Int32} {v4 : Int32} {τ : x_T} (h : ∀ y1, y1 = v4 + 1 → (x_WI (d + 1) mX4_said K 35 [(0, .ref 329), (2, .int v2), (3, .int v3), (4, .int y1)] [] τ)) : x_WI (d + 1) mX4_said K 280 [(0, .ref 329), (2, .int v2), (3, .int v3), (4, .int v4)] [] τ := by
  obtain ⟨y1, ey1⟩ : ∃ y : Int32, y = v4 + 1 := ⟨_, rfl⟩
  replace h := h y1 ey1
  refine o_iinc (i := 4) (n := 1) (v := y1) (L' := [(4, .int y1), (0, .ref 329), (2, .int v2), (3, .int v3)]) 3 (by decide +kernel) rfl (by rw [ey1]; rfl) (by decide) rfl ?_
  refine o_goto (off := -248) 35 (by decide +kernel) (by decide) ?_
  refine o_sub [1, 2, 3, 0] rfl ?_
  exact h
set_option maxRecDepth 20000 in
theorem e_X4_lay {d : Nat} {K : x_T → Prop} {v1 : Int32} {τ : x_T} (h : (τ.1 329 3 < 0 → K τ) ∧ (¬ τ.1 329 3 < 0 → (64 ≤ τ.1 329 3 → K τ) ∧ (¬ 64 ≤ τ.1 329 3 → vp_in (τ.1 329 3) 64 ∧ (∀ t1, t1 = x_w1 τ 331 ((τ.1 329 3).toNatClampNeg) v1 → (∀ t2, t2 = x_w1 t1 329 3 ((t1.1 329 3) + 1) → (K t2)))))) : x_CV d mX4_lay [.ref 329, .int v1] τ K := by
  refine x_CV_of (by decide) (Nat.le_of_ble_eq_true rfl) ?_
  show x_WV d mX4_lay K 0 [(0, .ref 329), (1, .int v1)] [] τ
  refine o_aload_n (k := 0) 0 (by decide +kernel) rfl ?_
  refine f_getI (t := 4) (k := 3) (i := 100) (by decide +kernel) sh_329 rfl (by decide) lk_409 rfl ?_
  refine o_if_lt (off := 35) 39 (by decide +kernel) (by decide) (fun q => ?_) (fun q => ?_)
  · replace h := h.1 q
    exact f_vret rfl (by decide +kernel) rfl h
  · replace h := h.2 q
    refine o_aload_n (k := 0) 0 (by decide +kernel) rfl ?_
    refine f_getI (t := 4) (k := 3) (i := 100) (by decide +kernel) sh_329 rfl (by decide) lk_409 rfl ?_
    refine o_aload_n (k := 0) 0 (by decide +kernel) rfl ?_
    refine f_getR (r := 331) (t := 4) (k := 2) (i := 15) (by decide +kernel) sh_329 rfl (by decide) lk_408 (by simp [x_ty, tyX4]) (gr_4_2 sh_329) ?_
    refine f_alen (v := 64) (by decide +kernel) sh_331 (by decide) (by decide) ?_
    refine o_icmp_ge (off := 23) 39 (by decide +kernel) (by decide) (fun q => ?_) (fun q => ?_)
    · replace h := h.1 q
      exact f_vret rfl (by decide +kernel) rfl h
    · replace h := h.2 q
      refine o_aload_n (k := 0) 0 (by decide +kernel) rfl ?_
      refine f_getR (r := 331) (t := 4) (k := 2) (i := 15) (by decide +kernel) sh_329 rfl (by decide) lk_408 (by simp [x_ty, tyX4]) (gr_4_2 sh_329) ?_
      refine o_aload_n (k := 0) 0 (by decide +kernel) rfl ?_
      refine f_getI (t := 4) (k := 3) (i := 100) (by decide +kernel) sh_329 rfl (by decide) lk_409 rfl ?_
      refine o_iload_n (k := 1) 1 (by decide +kernel) rfl ?_
      obtain ⟨hi, h⟩ := h
      refine f_iast (by decide +kernel) sh_331 hi rfl ?_
      refine f_name (fun t1 et1 => ?_)
      replace h := h t1 et1
      refine o_aload_n (k := 0) 0 (by decide +kernel) rfl ?_
      refine o_dup (by decide +kernel) rfl ?_
      refine f_getI (t := 4) (k := 3) (i := 100) (by decide +kernel) sh_329 rfl (by decide) lk_409 rfl ?_
      refine o_iconst (n := 1) (v := 1) (by decide +kernel) (by decide) ?_
      refine o_iadd (by decide +kernel) ?_
      refine f_putI (t := 4) (k := 3) (i := 100) (by decide +kernel) sh_329 rfl (by decide) lk_409 rfl rfl ?_
      refine f_name (fun t2 et2 => ?_)
      replace h := h t2 et2
      exact f_vret rfl (by decide +kernel) rfl h
set_option maxRecDepth 20000 in
theorem e_X4_lift {d : Nat} {K : x_T → Int32 → Prop}  {τ : x_T} (h : (τ.1 329 3 ≤ 0 → K τ 0) ∧ (¬ τ.1 329 3 ≤ 0 → (τ.1 329 3 ≤ 64 → ∀ t1, t1 = x_w1 τ 329 3 ((τ.1 329 3) - 1) → (vp_in (t1.1 329 3) 64 ∧ (K t1 (t1.1 331 (t1.1 329 3).toNatClampNeg)))) ∧ (¬ τ.1 329 3 ≤ 64 → K τ 0))) : x_CI d mX4_lift [.ref 329] τ K := by
  refine x_CI_of (by decide) (Nat.le_of_ble_eq_true rfl) ?_
  show x_WI d mX4_lift K 0 [(0, .ref 329)] [] τ
  refine o_aload_n (k := 0) 0 (by decide +kernel) rfl ?_
  refine f_getI (t := 4) (k := 3) (i := 100) (by decide +kernel) sh_329 rfl (by decide) lk_409 rfl ?_
  refine o_if_le (off := 15) 19 (by decide +kernel) (by decide) (fun q => ?_) (fun q => ?_)
  · replace h := h.1 q
    refine o_iconst (n := 0) (v := 0) (by decide +kernel) (by decide) ?_
    exact f_iret (ty := .int) rfl rfl (by decide +kernel) rfl h
  · replace h := h.2 q
    refine o_aload_n (k := 0) 0 (by decide +kernel) rfl ?_
    refine f_getI (t := 4) (k := 3) (i := 100) (by decide +kernel) sh_329 rfl (by decide) lk_409 rfl ?_
    refine o_aload_n (k := 0) 0 (by decide +kernel) rfl ?_
    refine f_getR (r := 331) (t := 4) (k := 2) (i := 15) (by decide +kernel) sh_329 rfl (by decide) lk_408 (by simp [x_ty, tyX4]) (gr_4_2 sh_329) ?_
    refine f_alen (v := 64) (by decide +kernel) sh_331 (by decide) (by decide) ?_
    refine o_icmp_le (off := 5) 21 (by decide +kernel) (by decide) (fun q => ?_) (fun q => ?_)
    · replace h := h.1 q
      refine o_aload_n (k := 0) 0 (by decide +kernel) rfl ?_
      refine o_dup (by decide +kernel) rfl ?_
      refine f_getI (t := 4) (k := 3) (i := 100) (by decide +kernel) sh_329 rfl (by decide) lk_409 rfl ?_
      refine o_iconst (n := 1) (v := 1) (by decide +kernel) (by decide) ?_
      refine o_isub (by decide +kernel) ?_
      refine f_putI (t := 4) (k := 3) (i := 100) (by decide +kernel) sh_329 rfl (by decide) lk_409 rfl rfl ?_
      refine f_name (fun t1 et1 => ?_)
      replace h := h t1 et1
      refine o_aload_n (k := 0) 0 (by decide +kernel) rfl ?_
      refine f_getR (r := 331) (t := 4) (k := 2) (i := 15) (by decide +kernel) sh_329 rfl (by decide) lk_408 (by simp [x_ty, tyX4]) (gr_4_2 sh_329) ?_
      refine o_aload_n (k := 0) 0 (by decide +kernel) rfl ?_
      refine f_getI (t := 4) (k := 3) (i := 100) (by decide +kernel) sh_329 rfl (by decide) lk_409 rfl ?_
      obtain ⟨hi, h⟩ := h
      refine f_iald (by decide +kernel) sh_331 hi rfl ?_
      exact f_iret (ty := .int) rfl rfl (by decide +kernel) rfl h
    · replace h := h.2 q
      refine o_iconst (n := 0) (v := 0) (by decide +kernel) (by decide) ?_
      exact f_iret (ty := .int) rfl rfl (by decide +kernel) rfl h
theorem d_X4_joined_1 : decode mX4_joined.2.1 1 = .ok (.tableswitch (238) (20) (43) #[(152), (160), (238), (238), (238), (238), (238), (238), (238), (238), (238), (238), (168), (182), (196), (210), (111), (119), (127), (136), (238), (238), (238), (224)], 111) := by decide +kernel
set_option maxRecDepth 20000 in
theorem e_X4_joined {d : Nat} {K : x_T → Int32 → Prop} {v0 : Int32} {v1 : Int32} {v2 : Int32} {τ : x_T} (h : ((v0 = 20 → ∀ y1, y1 = (v1 ||| v2).toInt64 → (x_WI d mX4_joined K 250 [(3, .long y1)] [] τ)) ∧ (¬ v0 = 20 → (v0 = 21 → ∀ y2, y2 = (v1 &&& v2).toInt64 → (x_WI d mX4_joined K 250 [(3, .long y2)] [] τ)) ∧ (¬ v0 = 21 → (v0 = 22 → (v1 < v2 → x_WI d mX4_joined K 249 [] [.long 0] τ) ∧ (¬ v1 < v2 → x_WI d mX4_joined K 249 [] [.long 1] τ)) ∧ (¬ v0 = 22 → (v0 = 23 → (v1 < v2 → x_WI d mX4_joined K 249 [] [.long 0] τ) ∧ (¬ v1 < v2 → x_WI d mX4_joined K 249 [] [.long 1] τ)) ∧ (¬ v0 = 23 → (v0 = 24 → (v1 < v2 → x_WI d mX4_joined K 249 [] [.long 0] τ) ∧ (¬ v1 < v2 → x_WI d mX4_joined K 249 [] [.long 1] τ)) ∧ (¬ v0 = 24 → (v0 = 25 → (v1 < v2 → x_WI d mX4_joined K 249 [] [.long 0] τ) ∧ (¬ v1 < v2 → x_WI d mX4_joined K 249 [] [.long 1] τ)) ∧ (¬ v0 = 25 → (v0 = 26 → (v1 < v2 → x_WI d mX4_joined K 249 [] [.long 0] τ) ∧ (¬ v1 < v2 → x_WI d mX4_joined K 249 [] [.long 1] τ)) ∧ (¬ v0 = 26 → (v0 = 27 → (v1 < v2 → x_WI d mX4_joined K 249 [] [.long 0] τ) ∧ (¬ v1 < v2 → x_WI d mX4_joined K 249 [] [.long 1] τ)) ∧ (¬ v0 = 27 → (v0 = 28 → (v1 < v2 → x_WI d mX4_joined K 249 [] [.long 0] τ) ∧ (¬ v1 < v2 → x_WI d mX4_joined K 249 [] [.long 1] τ)) ∧ (¬ v0 = 28 → (v0 = 29 → (v1 < v2 → x_WI d mX4_joined K 249 [] [.long 0] τ) ∧ (¬ v1 < v2 → x_WI d mX4_joined K 249 [] [.long 1] τ)) ∧ (¬ v0 = 29 → (v0 = 30 → (v1 < v2 → x_WI d mX4_joined K 249 [] [.long 0] τ) ∧ (¬ v1 < v2 → x_WI d mX4_joined K 249 [] [.long 1] τ)) ∧ (¬ v0 = 30 → (v0 = 31 → (v1 < v2 → x_WI d mX4_joined K 249 [] [.long 0] τ) ∧ (¬ v1 < v2 → x_WI d mX4_joined K 249 [] [.long 1] τ)) ∧ (¬ v0 = 31 → (v0 = 32 → (v2 ≤ v1 → x_WI d mX4_joined K 179 [] [.long 0] τ) ∧ (¬ v2 ≤ v1 → x_WI d mX4_joined K 179 [] [.long 1] τ)) ∧ (¬ v0 = 32 → (v0 = 33 → (v1 ≤ v2 → x_WI d mX4_joined K 193 [] [.long 0] τ) ∧ (¬ v1 ≤ v2 → x_WI d mX4_joined K 193 [] [.long 1] τ)) ∧ (¬ v0 = 33 → (v0 = 34 → (¬ v1 = v2 → x_WI d mX4_joined K 207 [] [.long 0] τ) ∧ (v1 = v2 → x_WI d mX4_joined K 207 [] [.long 1] τ)) ∧ (¬ v0 = 34 → (v0 = 35 → (v1 = v2 → x_WI d mX4_joined K 221 [] [.long 0] τ) ∧ (¬ v1 = v2 → x_WI d mX4_joined K 221 [] [.long 1] τ)) ∧ (¬ v0 = 35 → (v0 = 36 → ∀ y3, y3 = (v1 + v2).toInt64 → (x_WI d mX4_joined K 250 [(3, .long y3)] [] τ)) ∧ (¬ v0 = 36 → (v0 = 37 → ∀ y4, y4 = (v1 - v2).toInt64 → (x_WI d mX4_joined K 250 [(3, .long y4)] [] τ)) ∧ (¬ v0 = 37 → (v0 = 38 → ∀ y5, y5 = v1.toInt64 * v2.toInt64 → (x_WI d mX4_joined K 250 [(3, .long y5)] [] τ)) ∧ (¬ v0 = 38 → (v0 = 39 → (¬ v2 = 0 → ¬ v2 = 0 ∧ (x_WI d mX4_joined K 149 [] [.long ((v1 / v2).toInt64)] τ)) ∧ (v2 = 0 → x_WI d mX4_joined K 149 [] [.long 0] τ)) ∧ (¬ v0 = 39 → (v0 = 40 → (v1 < v2 → x_WI d mX4_joined K 249 [] [.long 0] τ) ∧ (¬ v1 < v2 → x_WI d mX4_joined K 249 [] [.long 1] τ)) ∧ (¬ v0 = 40 → (v0 = 41 → (v1 < v2 → x_WI d mX4_joined K 249 [] [.long 0] τ) ∧ (¬ v1 < v2 → x_WI d mX4_joined K 249 [] [.long 1] τ)) ∧ (¬ v0 = 41 → (v0 = 42 → (v1 < v2 → x_WI d mX4_joined K 249 [] [.long 0] τ) ∧ (¬ v1 < v2 → x_WI d mX4_joined K 249 [] [.long 1] τ)) ∧ (¬ v0 = 42 → (v0 = 43 → (v2 < v1 → x_WI d mX4_joined K 235 [] [.long 0] τ) ∧ (¬ v2 < v1 → x_WI d mX4_joined K 235 [] [.long 1] τ)) ∧ (¬ v0 = 43 → ((v1 < v2 → x_WI d mX4_joined K 249 [] [.long 0] τ) ∧ (¬ v1 < v2 → x_WI d mX4_joined K 249 [] [.long 1] τ)))))))))))))))))))))))))))) : x_CI d mX4_joined [.int v0, .int v1, .int v2] τ K := by
  refine x_CI_of (by decide) (Nat.le_of_ble_eq_true rfl) ?_
  show x_WI d mX4_joined K 0 [(0, .int v0), (1, .int v1), (2, .int v2)] [] τ
  refine o_iload_n (k := 0) 0 (by decide +kernel) rfl ?_
  by_cases c20 : v0 = 20
  · replace h := h.1 c20
    refine o_tableIn (off := 152) (tgt := 153) (d_X4_joined_1) (by rw [c20]; decide) (by rw [c20]; decide) (by rw [c20]; rfl) (by decide) ?_
    refine o_iload_n (k := 1) 1 (by decide +kernel) rfl ?_
    refine o_iload_n (k := 2) 2 (by decide +kernel) rfl ?_
    refine o_ior (by decide +kernel) ?_
    refine o_i2l (by decide +kernel) ?_
    refine o_nameL (fun y1 ey1 => ?_)
    replace h := h y1 ey1
    refine o_lstore_n (k := 3) (L' := [(3, .long y1), (0, .int v0), (1, .int v1), (2, .int v2)]) (by decide +kernel) (by decide) rfl ?_
    refine o_goto (off := 92) 250 (by decide +kernel) (by decide) ?_
    refine o_sub [0] rfl ?_
    exact h
  replace h := h.2 c20
  by_cases c21 : v0 = 21
  · replace h := h.1 c21
    refine o_tableIn (off := 160) (tgt := 161) (d_X4_joined_1) (by rw [c21]; decide) (by rw [c21]; decide) (by rw [c21]; rfl) (by decide) ?_
    refine o_iload_n (k := 1) 1 (by decide +kernel) rfl ?_
    refine o_iload_n (k := 2) 2 (by decide +kernel) rfl ?_
    refine o_iand (by decide +kernel) ?_
    refine o_i2l (by decide +kernel) ?_
    refine o_nameL (fun y2 ey2 => ?_)
    replace h := h y2 ey2
    refine o_lstore_n (k := 3) (L' := [(3, .long y2), (0, .int v0), (1, .int v1), (2, .int v2)]) (by decide +kernel) (by decide) rfl ?_
    refine o_goto (off := 84) 250 (by decide +kernel) (by decide) ?_
    refine o_sub [0] rfl ?_
    exact h
  replace h := h.2 c21
  by_cases c22 : v0 = 22
  · replace h := h.1 c22
    refine o_tableIn (off := 238) (tgt := 239) (d_X4_joined_1) (by rw [c22]; decide) (by rw [c22]; decide) (by rw [c22]; rfl) (by decide) ?_
    refine o_iload_n (k := 1) 1 (by decide +kernel) rfl ?_
    refine o_iload_n (k := 2) 2 (by decide +kernel) rfl ?_
    refine o_icmp_lt (off := 7) 248 (by decide +kernel) (by decide) (fun q => ?_) (fun q => ?_)
    · replace h := h.1 q
      refine o_lconst (n := 0) (v := 0) (by decide +kernel) (by decide) ?_
      refine o_sub [] rfl ?_
      exact h
    · replace h := h.2 q
      refine o_lconst (n := 1) (v := 1) (by decide +kernel) (by decide) ?_
      refine o_goto (off := 4) 249 (by decide +kernel) (by decide) ?_
      refine o_sub [] rfl ?_
      exact h
  replace h := h.2 c22
  by_cases c23 : v0 = 23
  · replace h := h.1 c23
    refine o_tableIn (off := 238) (tgt := 239) (d_X4_joined_1) (by rw [c23]; decide) (by rw [c23]; decide) (by rw [c23]; rfl) (by decide) ?_
    refine o_iload_n (k := 1) 1 (by decide +kernel) rfl ?_
    refine o_iload_n (k := 2) 2 (by decide +kernel) rfl ?_
    refine o_icmp_lt (off := 7) 248 (by decide +kernel) (by decide) (fun q => ?_) (fun q => ?_)
    · replace h := h.1 q
      refine o_lconst (n := 0) (v := 0) (by decide +kernel) (by decide) ?_
      refine o_sub [] rfl ?_
      exact h
    · replace h := h.2 q
      refine o_lconst (n := 1) (v := 1) (by decide +kernel) (by decide) ?_
      refine o_goto (off := 4) 249 (by decide +kernel) (by decide) ?_
      refine o_sub [] rfl ?_
      exact h
  replace h := h.2 c23
  by_cases c24 : v0 = 24
  · replace h := h.1 c24
    refine o_tableIn (off := 238) (tgt := 239) (d_X4_joined_1) (by rw [c24]; decide) (by rw [c24]; decide) (by rw [c24]; rfl) (by decide) ?_
    refine o_iload_n (k := 1) 1 (by decide +kernel) rfl ?_
    refine o_iload_n (k := 2) 2 (by decide +kernel) rfl ?_
    refine o_icmp_lt (off := 7) 248 (by decide +kernel) (by decide) (fun q => ?_) (fun q => ?_)
    · replace h := h.1 q
      refine o_lconst (n := 0) (v := 0) (by decide +kernel) (by decide) ?_
      refine o_sub [] rfl ?_
      exact h
    · replace h := h.2 q
      refine o_lconst (n := 1) (v := 1) (by decide +kernel) (by decide) ?_
      refine o_goto (off := 4) 249 (by decide +kernel) (by decide) ?_
      refine o_sub [] rfl ?_
      exact h
  replace h := h.2 c24
  by_cases c25 : v0 = 25
  · replace h := h.1 c25
    refine o_tableIn (off := 238) (tgt := 239) (d_X4_joined_1) (by rw [c25]; decide) (by rw [c25]; decide) (by rw [c25]; rfl) (by decide) ?_
    refine o_iload_n (k := 1) 1 (by decide +kernel) rfl ?_
    refine o_iload_n (k := 2) 2 (by decide +kernel) rfl ?_
    refine o_icmp_lt (off := 7) 248 (by decide +kernel) (by decide) (fun q => ?_) (fun q => ?_)
    · replace h := h.1 q
      refine o_lconst (n := 0) (v := 0) (by decide +kernel) (by decide) ?_
      refine o_sub [] rfl ?_
      exact h
    · replace h := h.2 q
      refine o_lconst (n := 1) (v := 1) (by decide +kernel) (by decide) ?_
      refine o_goto (off := 4) 249 (by decide +kernel) (by decide) ?_
      refine o_sub [] rfl ?_
      exact h
  replace h := h.2 c25
  by_cases c26 : v0 = 26
  · replace h := h.1 c26
    refine o_tableIn (off := 238) (tgt := 239) (d_X4_joined_1) (by rw [c26]; decide) (by rw [c26]; decide) (by rw [c26]; rfl) (by decide) ?_
    refine o_iload_n (k := 1) 1 (by decide +kernel) rfl ?_
    refine o_iload_n (k := 2) 2 (by decide +kernel) rfl ?_
    refine o_icmp_lt (off := 7) 248 (by decide +kernel) (by decide) (fun q => ?_) (fun q => ?_)
    · replace h := h.1 q
      refine o_lconst (n := 0) (v := 0) (by decide +kernel) (by decide) ?_
      refine o_sub [] rfl ?_
      exact h
    · replace h := h.2 q
      refine o_lconst (n := 1) (v := 1) (by decide +kernel) (by decide) ?_
      refine o_goto (off := 4) 249 (by decide +kernel) (by decide) ?_
      refine o_sub [] rfl ?_
      exact h
  replace h := h.2 c26
  by_cases c27 : v0 = 27
  · replace h := h.1 c27
    refine o_tableIn (off := 238) (tgt := 239) (d_X4_joined_1) (by rw [c27]; decide) (by rw [c27]; decide) (by rw [c27]; rfl) (by decide) ?_
    refine o_iload_n (k := 1) 1 (by decide +kernel) rfl ?_
    refine o_iload_n (k := 2) 2 (by decide +kernel) rfl ?_
    refine o_icmp_lt (off := 7) 248 (by decide +kernel) (by decide) (fun q => ?_) (fun q => ?_)
    · replace h := h.1 q
      refine o_lconst (n := 0) (v := 0) (by decide +kernel) (by decide) ?_
      refine o_sub [] rfl ?_
      exact h
    · replace h := h.2 q
      refine o_lconst (n := 1) (v := 1) (by decide +kernel) (by decide) ?_
      refine o_goto (off := 4) 249 (by decide +kernel) (by decide) ?_
      refine o_sub [] rfl ?_
      exact h
  replace h := h.2 c27
  by_cases c28 : v0 = 28
  · replace h := h.1 c28
    refine o_tableIn (off := 238) (tgt := 239) (d_X4_joined_1) (by rw [c28]; decide) (by rw [c28]; decide) (by rw [c28]; rfl) (by decide) ?_
    refine o_iload_n (k := 1) 1 (by decide +kernel) rfl ?_
    refine o_iload_n (k := 2) 2 (by decide +kernel) rfl ?_
    refine o_icmp_lt (off := 7) 248 (by decide +kernel) (by decide) (fun q => ?_) (fun q => ?_)
    · replace h := h.1 q
      refine o_lconst (n := 0) (v := 0) (by decide +kernel) (by decide) ?_
      refine o_sub [] rfl ?_
      exact h
    · replace h := h.2 q
      refine o_lconst (n := 1) (v := 1) (by decide +kernel) (by decide) ?_
      refine o_goto (off := 4) 249 (by decide +kernel) (by decide) ?_
      refine o_sub [] rfl ?_
      exact h
  replace h := h.2 c28
  by_cases c29 : v0 = 29
  · replace h := h.1 c29
    refine o_tableIn (off := 238) (tgt := 239) (d_X4_joined_1) (by rw [c29]; decide) (by rw [c29]; decide) (by rw [c29]; rfl) (by decide) ?_
    refine o_iload_n (k := 1) 1 (by decide +kernel) rfl ?_
    refine o_iload_n (k := 2) 2 (by decide +kernel) rfl ?_
    refine o_icmp_lt (off := 7) 248 (by decide +kernel) (by decide) (fun q => ?_) (fun q => ?_)
    · replace h := h.1 q
      refine o_lconst (n := 0) (v := 0) (by decide +kernel) (by decide) ?_
      refine o_sub [] rfl ?_
      exact h
    · replace h := h.2 q
      refine o_lconst (n := 1) (v := 1) (by decide +kernel) (by decide) ?_
      refine o_goto (off := 4) 249 (by decide +kernel) (by decide) ?_
      refine o_sub [] rfl ?_
      exact h
  replace h := h.2 c29
  by_cases c30 : v0 = 30
  · replace h := h.1 c30
    refine o_tableIn (off := 238) (tgt := 239) (d_X4_joined_1) (by rw [c30]; decide) (by rw [c30]; decide) (by rw [c30]; rfl) (by decide) ?_
    refine o_iload_n (k := 1) 1 (by decide +kernel) rfl ?_
    refine o_iload_n (k := 2) 2 (by decide +kernel) rfl ?_
    refine o_icmp_lt (off := 7) 248 (by decide +kernel) (by decide) (fun q => ?_) (fun q => ?_)
    · replace h := h.1 q
      refine o_lconst (n := 0) (v := 0) (by decide +kernel) (by decide) ?_
      refine o_sub [] rfl ?_
      exact h
    · replace h := h.2 q
      refine o_lconst (n := 1) (v := 1) (by decide +kernel) (by decide) ?_
      refine o_goto (off := 4) 249 (by decide +kernel) (by decide) ?_
      refine o_sub [] rfl ?_
      exact h
  replace h := h.2 c30
  by_cases c31 : v0 = 31
  · replace h := h.1 c31
    refine o_tableIn (off := 238) (tgt := 239) (d_X4_joined_1) (by rw [c31]; decide) (by rw [c31]; decide) (by rw [c31]; rfl) (by decide) ?_
    refine o_iload_n (k := 1) 1 (by decide +kernel) rfl ?_
    refine o_iload_n (k := 2) 2 (by decide +kernel) rfl ?_
    refine o_icmp_lt (off := 7) 248 (by decide +kernel) (by decide) (fun q => ?_) (fun q => ?_)
    · replace h := h.1 q
      refine o_lconst (n := 0) (v := 0) (by decide +kernel) (by decide) ?_
      refine o_sub [] rfl ?_
      exact h
    · replace h := h.2 q
      refine o_lconst (n := 1) (v := 1) (by decide +kernel) (by decide) ?_
      refine o_goto (off := 4) 249 (by decide +kernel) (by decide) ?_
      refine o_sub [] rfl ?_
      exact h
  replace h := h.2 c31
  by_cases c32 : v0 = 32
  · replace h := h.1 c32
    refine o_tableIn (off := 168) (tgt := 169) (d_X4_joined_1) (by rw [c32]; decide) (by rw [c32]; decide) (by rw [c32]; rfl) (by decide) ?_
    refine o_iload_n (k := 1) 1 (by decide +kernel) rfl ?_
    refine o_iload_n (k := 2) 2 (by decide +kernel) rfl ?_
    refine o_icmp_ge (off := 7) 178 (by decide +kernel) (by decide) (fun q => ?_) (fun q => ?_)
    · replace h := h.1 q
      refine o_lconst (n := 0) (v := 0) (by decide +kernel) (by decide) ?_
      refine o_sub [] rfl ?_
      exact h
    · replace h := h.2 q
      refine o_lconst (n := 1) (v := 1) (by decide +kernel) (by decide) ?_
      refine o_goto (off := 4) 179 (by decide +kernel) (by decide) ?_
      refine o_sub [] rfl ?_
      exact h
  replace h := h.2 c32
  by_cases c33 : v0 = 33
  · replace h := h.1 c33
    refine o_tableIn (off := 182) (tgt := 183) (d_X4_joined_1) (by rw [c33]; decide) (by rw [c33]; decide) (by rw [c33]; rfl) (by decide) ?_
    refine o_iload_n (k := 1) 1 (by decide +kernel) rfl ?_
    refine o_iload_n (k := 2) 2 (by decide +kernel) rfl ?_
    refine o_icmp_le (off := 7) 192 (by decide +kernel) (by decide) (fun q => ?_) (fun q => ?_)
    · replace h := h.1 q
      refine o_lconst (n := 0) (v := 0) (by decide +kernel) (by decide) ?_
      refine o_sub [] rfl ?_
      exact h
    · replace h := h.2 q
      refine o_lconst (n := 1) (v := 1) (by decide +kernel) (by decide) ?_
      refine o_goto (off := 4) 193 (by decide +kernel) (by decide) ?_
      refine o_sub [] rfl ?_
      exact h
  replace h := h.2 c33
  by_cases c34 : v0 = 34
  · replace h := h.1 c34
    refine o_tableIn (off := 196) (tgt := 197) (d_X4_joined_1) (by rw [c34]; decide) (by rw [c34]; decide) (by rw [c34]; rfl) (by decide) ?_
    refine o_iload_n (k := 1) 1 (by decide +kernel) rfl ?_
    refine o_iload_n (k := 2) 2 (by decide +kernel) rfl ?_
    refine o_icmp_ne (off := 7) 206 (by decide +kernel) (by decide) (fun q => ?_) (fun q => ?_)
    · replace h := h.1 q
      refine o_lconst (n := 0) (v := 0) (by decide +kernel) (by decide) ?_
      refine o_sub [] rfl ?_
      exact h
    · replace h := h.2 q
      refine o_lconst (n := 1) (v := 1) (by decide +kernel) (by decide) ?_
      refine o_goto (off := 4) 207 (by decide +kernel) (by decide) ?_
      refine o_sub [] rfl ?_
      exact h
  replace h := h.2 c34
  by_cases c35 : v0 = 35
  · replace h := h.1 c35
    refine o_tableIn (off := 210) (tgt := 211) (d_X4_joined_1) (by rw [c35]; decide) (by rw [c35]; decide) (by rw [c35]; rfl) (by decide) ?_
    refine o_iload_n (k := 1) 1 (by decide +kernel) rfl ?_
    refine o_iload_n (k := 2) 2 (by decide +kernel) rfl ?_
    refine o_icmp_eq (off := 7) 220 (by decide +kernel) (by decide) (fun q => ?_) (fun q => ?_)
    · replace h := h.1 q
      refine o_lconst (n := 0) (v := 0) (by decide +kernel) (by decide) ?_
      refine o_sub [] rfl ?_
      exact h
    · replace h := h.2 q
      refine o_lconst (n := 1) (v := 1) (by decide +kernel) (by decide) ?_
      refine o_goto (off := 4) 221 (by decide +kernel) (by decide) ?_
      refine o_sub [] rfl ?_
      exact h
  replace h := h.2 c35
  by_cases c36 : v0 = 36
  · replace h := h.1 c36
    refine o_tableIn (off := 111) (tgt := 112) (d_X4_joined_1) (by rw [c36]; decide) (by rw [c36]; decide) (by rw [c36]; rfl) (by decide) ?_
    refine o_iload_n (k := 1) 1 (by decide +kernel) rfl ?_
    refine o_iload_n (k := 2) 2 (by decide +kernel) rfl ?_
    refine o_iadd (by decide +kernel) ?_
    refine o_i2l (by decide +kernel) ?_
    refine o_nameL (fun y3 ey3 => ?_)
    replace h := h y3 ey3
    refine o_lstore_n (k := 3) (L' := [(3, .long y3), (0, .int v0), (1, .int v1), (2, .int v2)]) (by decide +kernel) (by decide) rfl ?_
    refine o_goto (off := 133) 250 (by decide +kernel) (by decide) ?_
    refine o_sub [0] rfl ?_
    exact h
  replace h := h.2 c36
  by_cases c37 : v0 = 37
  · replace h := h.1 c37
    refine o_tableIn (off := 119) (tgt := 120) (d_X4_joined_1) (by rw [c37]; decide) (by rw [c37]; decide) (by rw [c37]; rfl) (by decide) ?_
    refine o_iload_n (k := 1) 1 (by decide +kernel) rfl ?_
    refine o_iload_n (k := 2) 2 (by decide +kernel) rfl ?_
    refine o_isub (by decide +kernel) ?_
    refine o_i2l (by decide +kernel) ?_
    refine o_nameL (fun y4 ey4 => ?_)
    replace h := h y4 ey4
    refine o_lstore_n (k := 3) (L' := [(3, .long y4), (0, .int v0), (1, .int v1), (2, .int v2)]) (by decide +kernel) (by decide) rfl ?_
    refine o_goto (off := 125) 250 (by decide +kernel) (by decide) ?_
    refine o_sub [0] rfl ?_
    exact h
  replace h := h.2 c37
  by_cases c38 : v0 = 38
  · replace h := h.1 c38
    refine o_tableIn (off := 127) (tgt := 128) (d_X4_joined_1) (by rw [c38]; decide) (by rw [c38]; decide) (by rw [c38]; rfl) (by decide) ?_
    refine o_iload_n (k := 1) 1 (by decide +kernel) rfl ?_
    refine o_i2l (by decide +kernel) ?_
    refine o_iload_n (k := 2) 2 (by decide +kernel) rfl ?_
    refine o_i2l (by decide +kernel) ?_
    refine o_lmul (by decide +kernel) ?_
    refine o_nameL (fun y5 ey5 => ?_)
    replace h := h y5 ey5
    refine o_lstore_n (k := 3) (L' := [(3, .long y5), (0, .int v0), (1, .int v1), (2, .int v2)]) (by decide +kernel) (by decide) rfl ?_
    refine o_goto (off := 116) 250 (by decide +kernel) (by decide) ?_
    refine o_sub [0] rfl ?_
    exact h
  replace h := h.2 c38
  by_cases c39 : v0 = 39
  · replace h := h.1 c39
    refine o_tableIn (off := 136) (tgt := 137) (d_X4_joined_1) (by rw [c39]; decide) (by rw [c39]; decide) (by rw [c39]; rfl) (by decide) ?_
    refine o_iload_n (k := 2) 2 (by decide +kernel) rfl ?_
    refine o_if_ne (off := 7) 145 (by decide +kernel) (by decide) (fun q => ?_) (fun q => ?_)
    · replace h := h.1 q
      refine o_iload_n (k := 1) 1 (by decide +kernel) rfl ?_
      refine o_iload_n (k := 2) 2 (by decide +kernel) rfl ?_
      obtain ⟨hz, h⟩ := h
      refine o_idiv (by decide +kernel) hz ?_
      refine o_i2l (by decide +kernel) ?_
      refine o_sub [] rfl ?_
      exact h
    · replace h := h.2 q
      refine o_lconst (n := 0) (v := 0) (by decide +kernel) (by decide) ?_
      refine o_goto (off := 7) 149 (by decide +kernel) (by decide) ?_
      refine o_sub [] rfl ?_
      exact h
  replace h := h.2 c39
  by_cases c40 : v0 = 40
  · replace h := h.1 c40
    refine o_tableIn (off := 238) (tgt := 239) (d_X4_joined_1) (by rw [c40]; decide) (by rw [c40]; decide) (by rw [c40]; rfl) (by decide) ?_
    refine o_iload_n (k := 1) 1 (by decide +kernel) rfl ?_
    refine o_iload_n (k := 2) 2 (by decide +kernel) rfl ?_
    refine o_icmp_lt (off := 7) 248 (by decide +kernel) (by decide) (fun q => ?_) (fun q => ?_)
    · replace h := h.1 q
      refine o_lconst (n := 0) (v := 0) (by decide +kernel) (by decide) ?_
      refine o_sub [] rfl ?_
      exact h
    · replace h := h.2 q
      refine o_lconst (n := 1) (v := 1) (by decide +kernel) (by decide) ?_
      refine o_goto (off := 4) 249 (by decide +kernel) (by decide) ?_
      refine o_sub [] rfl ?_
      exact h
  replace h := h.2 c40
  by_cases c41 : v0 = 41
  · replace h := h.1 c41
    refine o_tableIn (off := 238) (tgt := 239) (d_X4_joined_1) (by rw [c41]; decide) (by rw [c41]; decide) (by rw [c41]; rfl) (by decide) ?_
    refine o_iload_n (k := 1) 1 (by decide +kernel) rfl ?_
    refine o_iload_n (k := 2) 2 (by decide +kernel) rfl ?_
    refine o_icmp_lt (off := 7) 248 (by decide +kernel) (by decide) (fun q => ?_) (fun q => ?_)
    · replace h := h.1 q
      refine o_lconst (n := 0) (v := 0) (by decide +kernel) (by decide) ?_
      refine o_sub [] rfl ?_
      exact h
    · replace h := h.2 q
      refine o_lconst (n := 1) (v := 1) (by decide +kernel) (by decide) ?_
      refine o_goto (off := 4) 249 (by decide +kernel) (by decide) ?_
      refine o_sub [] rfl ?_
      exact h
  replace h := h.2 c41
  by_cases c42 : v0 = 42
  · replace h := h.1 c42
    refine o_tableIn (off := 238) (tgt := 239) (d_X4_joined_1) (by rw [c42]; decide) (by rw [c42]; decide) (by rw [c42]; rfl) (by decide) ?_
    refine o_iload_n (k := 1) 1 (by decide +kernel) rfl ?_
    refine o_iload_n (k := 2) 2 (by decide +kernel) rfl ?_
    refine o_icmp_lt (off := 7) 248 (by decide +kernel) (by decide) (fun q => ?_) (fun q => ?_)
    · replace h := h.1 q
      refine o_lconst (n := 0) (v := 0) (by decide +kernel) (by decide) ?_
      refine o_sub [] rfl ?_
      exact h
    · replace h := h.2 q
      refine o_lconst (n := 1) (v := 1) (by decide +kernel) (by decide) ?_
      refine o_goto (off := 4) 249 (by decide +kernel) (by decide) ?_
      refine o_sub [] rfl ?_
      exact h
  replace h := h.2 c42
  by_cases c43 : v0 = 43
  · replace h := h.1 c43
    refine o_tableIn (off := 224) (tgt := 225) (d_X4_joined_1) (by rw [c43]; decide) (by rw [c43]; decide) (by rw [c43]; rfl) (by decide) ?_
    refine o_iload_n (k := 1) 1 (by decide +kernel) rfl ?_
    refine o_iload_n (k := 2) 2 (by decide +kernel) rfl ?_
    refine o_icmp_gt (off := 7) 234 (by decide +kernel) (by decide) (fun q => ?_) (fun q => ?_)
    · replace h := h.1 q
      refine o_lconst (n := 0) (v := 0) (by decide +kernel) (by decide) ?_
      refine o_sub [] rfl ?_
      exact h
    · replace h := h.2 q
      refine o_lconst (n := 1) (v := 1) (by decide +kernel) (by decide) ?_
      refine o_goto (off := 4) 235 (by decide +kernel) (by decide) ?_
      refine o_sub [] rfl ?_
      exact h
  replace h := h.2 c43
  refine o_tableOut (tgt := 239) (d_X4_joined_1) (by have := x_ne (z := 20) (by decide) c20; have := x_ne (z := 21) (by decide) c21; have := x_ne (z := 22) (by decide) c22; have := x_ne (z := 23) (by decide) c23; have := x_ne (z := 24) (by decide) c24; have := x_ne (z := 25) (by decide) c25; have := x_ne (z := 26) (by decide) c26; have := x_ne (z := 27) (by decide) c27; have := x_ne (z := 28) (by decide) c28; have := x_ne (z := 29) (by decide) c29; have := x_ne (z := 30) (by decide) c30; have := x_ne (z := 31) (by decide) c31; have := x_ne (z := 32) (by decide) c32; have := x_ne (z := 33) (by decide) c33; have := x_ne (z := 34) (by decide) c34; have := x_ne (z := 35) (by decide) c35; have := x_ne (z := 36) (by decide) c36; have := x_ne (z := 37) (by decide) c37; have := x_ne (z := 38) (by decide) c38; have := x_ne (z := 39) (by decide) c39; have := x_ne (z := 40) (by decide) c40; have := x_ne (z := 41) (by decide) c41; have := x_ne (z := 42) (by decide) c42; have := x_ne (z := 43) (by decide) c43; omega) (by decide) ?_
  refine o_iload_n (k := 1) 1 (by decide +kernel) rfl ?_
  refine o_iload_n (k := 2) 2 (by decide +kernel) rfl ?_
  refine o_icmp_lt (off := 7) 248 (by decide +kernel) (by decide) (fun q => ?_) (fun q => ?_)
  · replace h := h.1 q
    refine o_lconst (n := 0) (v := 0) (by decide +kernel) (by decide) ?_
    refine o_sub [] rfl ?_
    exact h
  · replace h := h.2 q
    refine o_lconst (n := 1) (v := 1) (by decide +kernel) (by decide) ?_
    refine o_goto (off := 4) 249 (by decide +kernel) (by decide) ?_
    refine o_sub [] rfl ?_
    exact h
set_option maxRecDepth 20000 in
theorem k_X4_joined_149 {d : Nat} {K : x_T → Int32 → Prop} {s0 : Int64} {τ : x_T} (h : x_WI d mX4_joined K 250 [(3, .long s0)] [] τ) : x_WI d mX4_joined K 149 [] [.long s0] τ := by
  refine o_lstore_n (k := 3) (L' := [(3, .long s0)]) (by decide +kernel) (by decide) rfl ?_
  refine o_goto (off := 100) 250 (by decide +kernel) (by decide) ?_
  exact h
set_option maxRecDepth 20000 in
theorem k_X4_joined_179 {d : Nat} {K : x_T → Int32 → Prop} {s0 : Int64} {τ : x_T} (h : x_WI d mX4_joined K 250 [(3, .long s0)] [] τ) : x_WI d mX4_joined K 179 [] [.long s0] τ := by
  refine o_lstore_n (k := 3) (L' := [(3, .long s0)]) (by decide +kernel) (by decide) rfl ?_
  refine o_goto (off := 70) 250 (by decide +kernel) (by decide) ?_
  exact h
set_option maxRecDepth 20000 in
theorem k_X4_joined_193 {d : Nat} {K : x_T → Int32 → Prop} {s0 : Int64} {τ : x_T} (h : x_WI d mX4_joined K 250 [(3, .long s0)] [] τ) : x_WI d mX4_joined K 193 [] [.long s0] τ := by
  refine o_lstore_n (k := 3) (L' := [(3, .long s0)]) (by decide +kernel) (by decide) rfl ?_
  refine o_goto (off := 56) 250 (by decide +kernel) (by decide) ?_
  exact h
set_option maxRecDepth 20000 in
theorem k_X4_joined_207 {d : Nat} {K : x_T → Int32 → Prop} {s0 : Int64} {τ : x_T} (h : x_WI d mX4_joined K 250 [(3, .long s0)] [] τ) : x_WI d mX4_joined K 207 [] [.long s0] τ := by
  refine o_lstore_n (k := 3) (L' := [(3, .long s0)]) (by decide +kernel) (by decide) rfl ?_
  refine o_goto (off := 42) 250 (by decide +kernel) (by decide) ?_
  exact h
set_option maxRecDepth 20000 in
theorem k_X4_joined_221 {d : Nat} {K : x_T → Int32 → Prop} {s0 : Int64} {τ : x_T} (h : x_WI d mX4_joined K 250 [(3, .long s0)] [] τ) : x_WI d mX4_joined K 221 [] [.long s0] τ := by
  refine o_lstore_n (k := 3) (L' := [(3, .long s0)]) (by decide +kernel) (by decide) rfl ?_
  refine o_goto (off := 28) 250 (by decide +kernel) (by decide) ?_
  exact h
set_option maxRecDepth 20000 in
theorem k_X4_joined_235 {d : Nat} {K : x_T → Int32 → Prop} {s0 : Int64} {τ : x_T} (h : x_WI d mX4_joined K 250 [(3, .long s0)] [] τ) : x_WI d mX4_joined K 235 [] [.long s0] τ := by
  refine o_lstore_n (k := 3) (L' := [(3, .long s0)]) (by decide +kernel) (by decide) rfl ?_
  refine o_goto (off := 14) 250 (by decide +kernel) (by decide) ?_
  exact h
set_option maxRecDepth 20000 in
theorem k_X4_joined_249 {d : Nat} {K : x_T → Int32 → Prop} {s0 : Int64} {τ : x_T} (h : x_WI d mX4_joined K 250 [(3, .long s0)] [] τ) : x_WI d mX4_joined K 249 [] [.long s0] τ := by
  refine o_lstore_n (k := 3) (L' := [(3, .long s0)]) (by decide +kernel) (by decide) rfl ?_
  exact h
set_option maxRecDepth 20000 in
theorem k_X4_joined_250 {d : Nat} {K : x_T → Int32 → Prop} {w3 : Int64} {τ : x_T} (h : (lg_cmp w3 1000000 ≤ 0 → (0 ≤ lg_cmp w3 (-1000000) → K τ w3.toInt32) ∧ (¬ 0 ≤ lg_cmp w3 (-1000000) → K τ (-1000000))) ∧ (¬ lg_cmp w3 1000000 ≤ 0 → K τ 1000000)) : x_WI d mX4_joined K 250 [(3, .long w3)] [] τ := by
  refine o_lload_n (k := 3) 0 (by decide +kernel) rfl ?_
  refine o_ldc2 (i := 126) (v := 1000000) (by decide +kernel) lk_685 ?_
  refine o_lcmp (by decide +kernel) ?_
  refine o_if_le (off := 8) 263 (by decide +kernel) (by decide) (fun q => ?_) (fun q => ?_)
  · replace h := h.1 q
    refine o_lload_n (k := 3) 0 (by decide +kernel) rfl ?_
    refine o_ldc2 (i := 129) (v := (-1000000)) (by decide +kernel) lk_687 ?_
    refine o_lcmp (by decide +kernel) ?_
    refine o_if_ge (off := 8) 276 (by decide +kernel) (by decide) (fun q => ?_) (fun q => ?_)
    · replace h := h.1 q
      refine o_lload_n (k := 3) 0 (by decide +kernel) rfl ?_
      refine o_l2i (by decide +kernel) ?_
      exact f_iret (ty := .int) rfl rfl (by decide +kernel) rfl h
    · replace h := h.2 q
      refine o_ldc (i := 131) (v := (-1000000)) (by decide +kernel) lk_688 ?_
      refine o_goto (off := 5) 278 (by decide +kernel) (by decide) ?_
      exact f_iret (ty := .int) rfl rfl (by decide +kernel) rfl h
  · replace h := h.2 q
    refine o_ldc (i := 128) (v := 1000000) (by decide +kernel) lk_686 ?_
    refine o_goto (off := 18) 278 (by decide +kernel) (by decide) ?_
    exact f_iret (ty := .int) rfl rfl (by decide +kernel) rfl h
