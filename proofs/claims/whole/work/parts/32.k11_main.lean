set_option maxRecDepth 20000 in
theorem e_X11_house {d : Nat} {K : x_T → Int32 → Prop} {v1 : Int32} {τ : x_T} (h : (v1 < 0 → K τ (-1)) ∧ (¬ v1 < 0 → (v1 ≤ 9 → x_CI d mX3_addHouse [.ref 1, .int v1] τ (fun t1 a2 => K t1 a2)) ∧ (¬ v1 ≤ 9 → K τ (-1)))) : x_CI (d + 1) mX11_house [.ref 0, .int v1] τ K := by
  refine x_CI_of (by decide) (Nat.le_of_ble_eq_true rfl) ?_
  show x_WI (d + 1) mX11_house K 0 [(0, .ref 0), (1, .int v1)] [] τ
  refine o_iload_n (k := 1) 1 (by decide +kernel) rfl ?_
  refine o_if_lt (off := 9) 10 (by decide +kernel) (by decide) (fun q => ?_) (fun q => ?_)
  · replace h := h.1 q
    refine o_iconst (n := -1) (v := (-1)) (by decide +kernel) (by decide) ?_
    exact f_iret (ty := .int) rfl rfl (by decide +kernel) rfl h
  · replace h := h.2 q
    refine o_iload_n (k := 1) 1 (by decide +kernel) rfl ?_
    refine o_bipush (n := 9) (v := 9) (by decide +kernel) (by decide) ?_
    refine o_icmp_le (off := 5) 12 (by decide +kernel) (by decide) (fun q => ?_) (fun q => ?_)
    · replace h := h.1 q
      refine o_aload_n (k := 0) 0 (by decide +kernel) rfl ?_
      refine f_getR (r := 1) (t := 11) (k := 0) (i := 10) (by decide +kernel) sh_0 rfl (by decide) lk_490 (by simp [x_ty, tyX11]) (gr_11_0 sh_0) ?_
      refine o_iload_n (k := 1) 1 (by decide +kernel) rfl ?_
      refine f_callVI (μ' := mX3_addHouse) (i := 110) (vs := [.int v1]) (by decide +kernel) lk_549 (vok_mX3_addHouse) sh_1 rfl rfl rfl rfl (Nat.le_of_ble_eq_true rfl) ?_
      refine x_CI.mono h (fun t1 a2 h => ?_)
      exact f_iret (ty := .int) rfl rfl (by decide +kernel) rfl h
    · replace h := h.2 q
      refine o_iconst (n := -1) (v := (-1)) (by decide +kernel) (by decide) ?_
      exact f_iret (ty := .int) rfl rfl (by decide +kernel) rfl h
set_option maxRecDepth 20000 in
theorem e_X11_lane {d : Nat} {K : x_T → Int32 → Prop} {v1 : Int32} {v2 : Int32} {v3 : Int32} {τ : x_T} (h : (v1 = v2 → K τ 0) ∧ (¬ v1 = v2 → x_CI d mX3_isHouse [.ref 1, .int v1] τ (fun t1 a2 => (a2 = 0 → K t1 0) ∧ (¬ a2 = 0 → x_CI d mX3_isHouse [.ref 1, .int v2] t1 (fun t3 a4 => (a4 = 0 → K t3 0) ∧ (¬ a4 = 0 → (v3 < 0 → K t3 0) ∧ (¬ v3 < 0 → (v3 ≤ 9 → x_CV d mX3_setLane [.ref 1, .int v1, .int v2, .int v3] t3 (fun t5 => K t5 1)) ∧ (¬ v3 ≤ 9 → K t3 0)))))))) : x_CI (d + 1) mX11_lane [.ref 0, .int v1, .int v2, .int v3] τ K := by
  refine x_CI_of (by decide) (Nat.le_of_ble_eq_true rfl) ?_
  show x_WI (d + 1) mX11_lane K 0 [(0, .ref 0), (1, .int v1), (2, .int v2), (3, .int v3)] [] τ
  refine o_iload_n (k := 1) 1 (by decide +kernel) rfl ?_
  refine o_iload_n (k := 2) 2 (by decide +kernel) rfl ?_
  refine o_icmp_eq (off := 35) 37 (by decide +kernel) (by decide) (fun q => ?_) (fun q => ?_)
  · replace h := h.1 q
    refine o_iconst (n := 0) (v := 0) (by decide +kernel) (by decide) ?_
    exact f_iret (ty := .boolean) rfl (by decide) (by decide +kernel) rfl h
  · replace h := h.2 q
    refine o_aload_n (k := 0) 0 (by decide +kernel) rfl ?_
    refine f_getR (r := 1) (t := 11) (k := 0) (i := 10) (by decide +kernel) sh_0 rfl (by decide) lk_490 (by simp [x_ty, tyX11]) (gr_11_0 sh_0) ?_
    refine o_iload_n (k := 1) 1 (by decide +kernel) rfl ?_
    refine f_callVI (μ' := mX3_isHouse) (i := 114) (vs := [.int v1]) (by decide +kernel) lk_568 (vok_mX3_isHouse) sh_1 rfl rfl rfl rfl (Nat.le_of_ble_eq_true rfl) ?_
    refine x_CI.mono h (fun t1 a2 h => ?_)
    refine o_if_eq (off := 24) 37 (by decide +kernel) (by decide) (fun q => ?_) (fun q => ?_)
    · replace h := h.1 q
      refine o_iconst (n := 0) (v := 0) (by decide +kernel) (by decide) ?_
      exact f_iret (ty := .boolean) rfl (by decide) (by decide +kernel) rfl h
    · replace h := h.2 q
      refine o_aload_n (k := 0) 0 (by decide +kernel) rfl ?_
      refine f_getR (r := 1) (t := 11) (k := 0) (i := 10) (by decide +kernel) sh_0 rfl (by decide) lk_490 (by simp [x_ty, tyX11]) (gr_11_0 sh_0) ?_
      refine o_iload_n (k := 2) 2 (by decide +kernel) rfl ?_
      refine f_callVI (μ' := mX3_isHouse) (i := 114) (vs := [.int v2]) (by decide +kernel) lk_568 (vok_mX3_isHouse) sh_1 rfl rfl rfl rfl (Nat.le_of_ble_eq_true rfl) ?_
      refine x_CI.mono h (fun t3 a4 h => ?_)
      refine o_if_eq (off := 13) 37 (by decide +kernel) (by decide) (fun q => ?_) (fun q => ?_)
      · replace h := h.1 q
        refine o_iconst (n := 0) (v := 0) (by decide +kernel) (by decide) ?_
        exact f_iret (ty := .boolean) rfl (by decide) (by decide +kernel) rfl h
      · replace h := h.2 q
        refine o_iload_n (k := 3) 3 (by decide +kernel) rfl ?_
        refine o_if_lt (off := 9) 37 (by decide +kernel) (by decide) (fun q => ?_) (fun q => ?_)
        · replace h := h.1 q
          refine o_iconst (n := 0) (v := 0) (by decide +kernel) (by decide) ?_
          exact f_iret (ty := .boolean) rfl (by decide) (by decide +kernel) rfl h
        · replace h := h.2 q
          refine o_iload_n (k := 3) 3 (by decide +kernel) rfl ?_
          refine o_bipush (n := 9) (v := 9) (by decide +kernel) (by decide) ?_
          refine o_icmp_le (off := 5) 39 (by decide +kernel) (by decide) (fun q => ?_) (fun q => ?_)
          · replace h := h.1 q
            refine o_aload_n (k := 0) 0 (by decide +kernel) rfl ?_
            refine f_getR (r := 1) (t := 11) (k := 0) (i := 10) (by decide +kernel) sh_0 rfl (by decide) lk_490 (by simp [x_ty, tyX11]) (gr_11_0 sh_0) ?_
            refine o_iload_n (k := 1) 1 (by decide +kernel) rfl ?_
            refine o_iload_n (k := 2) 2 (by decide +kernel) rfl ?_
            refine o_iload_n (k := 3) 3 (by decide +kernel) rfl ?_
            refine f_callVV (μ' := mX3_setLane) (i := 118) (vs := [.int v1, .int v2, .int v3]) (by decide +kernel) lk_572 (vok_mX3_setLane) sh_1 rfl rfl rfl rfl (Nat.le_of_ble_eq_true rfl) ?_
            refine x_CV.mono h (fun t5 h => ?_)
            refine o_iconst (n := 1) (v := 1) (by decide +kernel) (by decide) ?_
            exact f_iret (ty := .boolean) rfl (by decide) (by decide +kernel) rfl h
          · replace h := h.2 q
            refine o_iconst (n := 0) (v := 0) (by decide +kernel) (by decide) ?_
            exact f_iret (ty := .boolean) rfl (by decide) (by decide +kernel) rfl h
set_option maxRecDepth 20000 in
theorem e_X11_pusher {d : Nat} {K : x_T → Int32 → Prop} {v1 : Int32} {τ : x_T} (h : (v1 < 1 → K τ (-1)) ∧ (¬ v1 < 1 → (v1 ≤ 9 → x_CI d mX3_addPusher [.ref 1, .int v1] τ (fun t1 a2 => K t1 a2)) ∧ (¬ v1 ≤ 9 → K τ (-1)))) : x_CI (d + 1) mX11_pusher [.ref 0, .int v1] τ K := by
  refine x_CI_of (by decide) (Nat.le_of_ble_eq_true rfl) ?_
  show x_WI (d + 1) mX11_pusher K 0 [(0, .ref 0), (1, .int v1)] [] τ
  refine o_iload_n (k := 1) 1 (by decide +kernel) rfl ?_
  refine o_iconst (n := 1) (v := 1) (by decide +kernel) (by decide) ?_
  refine o_icmp_lt (off := 9) 11 (by decide +kernel) (by decide) (fun q => ?_) (fun q => ?_)
  · replace h := h.1 q
    refine o_iconst (n := -1) (v := (-1)) (by decide +kernel) (by decide) ?_
    exact f_iret (ty := .int) rfl rfl (by decide +kernel) rfl h
  · replace h := h.2 q
    refine o_iload_n (k := 1) 1 (by decide +kernel) rfl ?_
    refine o_bipush (n := 9) (v := 9) (by decide +kernel) (by decide) ?_
    refine o_icmp_le (off := 5) 13 (by decide +kernel) (by decide) (fun q => ?_) (fun q => ?_)
    · replace h := h.1 q
      refine o_aload_n (k := 0) 0 (by decide +kernel) rfl ?_
      refine f_getR (r := 1) (t := 11) (k := 0) (i := 10) (by decide +kernel) sh_0 rfl (by decide) lk_490 (by simp [x_ty, tyX11]) (gr_11_0 sh_0) ?_
      refine o_iload_n (k := 1) 1 (by decide +kernel) rfl ?_
      refine f_callVI (μ' := mX3_addPusher) (i := 122) (vs := [.int v1]) (by decide +kernel) lk_581 (vok_mX3_addPusher) sh_1 rfl rfl rfl rfl (Nat.le_of_ble_eq_true rfl) ?_
      refine x_CI.mono h (fun t1 a2 h => ?_)
      exact f_iret (ty := .int) rfl rfl (by decide +kernel) rfl h
    · replace h := h.2 q
      refine o_iconst (n := -1) (v := (-1)) (by decide +kernel) (by decide) ?_
      exact f_iret (ty := .int) rfl rfl (by decide +kernel) rfl h
set_option maxRecDepth 20000 in
theorem e_X11_push {d : Nat} {K : x_T → Int32 → Prop} {v1 : Int32} {v2 : Int32} {τ : x_T} (h : x_CI d mX2_canSetOff [.ref 332, .ref 13, .int v1, .int v2] τ (fun t1 a2 => (¬ a2 = 0 → x_CV d mX7_keep [.ref 17, .ref 13] t1 (fun t3 => x_CV d mX2_setOff [.ref 332, .ref 13, .int v1, .int v2] t3 (fun t5 => K t5 (t5.1 13 2)))) ∧ (a2 = 0 → K t1 (-1)))) : x_CI (d + 1) mX11_push [.ref 0, .int v1, .int v2] τ K := by
  refine x_CI_of (by decide) (Nat.le_of_ble_eq_true rfl) ?_
  show x_WI (d + 1) mX11_push K 0 [(0, .ref 0), (1, .int v1), (2, .int v2)] [] τ
  refine o_aload_n (k := 0) 0 (by decide +kernel) rfl ?_
  refine f_getR (r := 332) (t := 11) (k := 14) (i := 89) (by decide +kernel) sh_0 rfl (by decide) lk_504 (by simp [x_ty, tyX11]) (gr_11_14 sh_0) ?_
  refine o_aload_n (k := 0) 0 (by decide +kernel) rfl ?_
  refine f_getR (r := 13) (t := 11) (k := 1) (i := 19) (by decide +kernel) sh_0 rfl (by decide) lk_491 (by simp [x_ty, tyX11]) (gr_11_1 sh_0) ?_
  refine o_iload_n (k := 1) 1 (by decide +kernel) rfl ?_
  refine o_iload_n (k := 2) 2 (by decide +kernel) rfl ?_
  refine f_callVI (μ' := mX2_canSetOff) (i := 125) (vs := [.ref 13, .int v1, .int v2]) (by decide +kernel) lk_589 (vok_mX2_canSetOff) sh_332 rfl rfl rfl rfl (Nat.le_of_ble_eq_true rfl) ?_
  refine x_CI.mono h (fun t1 a2 h => ?_)
  refine o_if_ne (off := 5) 18 (by decide +kernel) (by decide) (fun q => ?_) (fun q => ?_)
  · replace h := h.1 q
    refine o_aload_n (k := 0) 0 (by decide +kernel) rfl ?_
    refine f_getR (r := 17) (t := 11) (k := 2) (i := 26) (by decide +kernel) sh_0 rfl (by decide) lk_492 (by simp [x_ty, tyX11]) (gr_11_2 sh_0) ?_
    refine o_aload_n (k := 0) 0 (by decide +kernel) rfl ?_
    refine f_getR (r := 13) (t := 11) (k := 1) (i := 19) (by decide +kernel) sh_0 rfl (by decide) lk_491 (by simp [x_ty, tyX11]) (gr_11_1 sh_0) ?_
    refine f_callVV (μ' := mX7_keep) (i := 129) (vs := [.ref 13]) (by decide +kernel) lk_601 (vok_mX7_keep) sh_17 rfl rfl rfl rfl (Nat.le_of_ble_eq_true rfl) ?_
    refine x_CV.mono h (fun t3 h => ?_)
    refine o_aload_n (k := 0) 0 (by decide +kernel) rfl ?_
    refine f_getR (r := 332) (t := 11) (k := 14) (i := 89) (by decide +kernel) sh_0 rfl (by decide) lk_504 (by simp [x_ty, tyX11]) (gr_11_14 sh_0) ?_
    refine o_aload_n (k := 0) 0 (by decide +kernel) rfl ?_
    refine f_getR (r := 13) (t := 11) (k := 1) (i := 19) (by decide +kernel) sh_0 rfl (by decide) lk_491 (by simp [x_ty, tyX11]) (gr_11_1 sh_0) ?_
    refine o_iload_n (k := 1) 1 (by decide +kernel) rfl ?_
    refine o_iload_n (k := 2) 2 (by decide +kernel) rfl ?_
    refine f_callVV (μ' := mX2_setOff) (i := 133) (vs := [.ref 13, .int v1, .int v2]) (by decide +kernel) lk_616 (vok_mX2_setOff) sh_332 rfl rfl rfl rfl (Nat.le_of_ble_eq_true rfl) ?_
    refine x_CV.mono h (fun t5 h => ?_)
    refine o_aload_n (k := 0) 0 (by decide +kernel) rfl ?_
    refine f_getR (r := 13) (t := 11) (k := 1) (i := 19) (by decide +kernel) sh_0 rfl (by decide) lk_491 (by simp [x_ty, tyX11]) (gr_11_1 sh_0) ?_
    refine f_getI (t := 1) (k := 2) (i := 137) (by decide +kernel) sh_13 rfl (by decide) lk_236 rfl ?_
    exact f_iret (ty := .int) rfl rfl (by decide +kernel) rfl h
  · replace h := h.2 q
    refine o_iconst (n := -1) (v := (-1)) (by decide +kernel) (by decide) ?_
    exact f_iret (ty := .int) rfl rfl (by decide +kernel) rfl h
set_option maxRecDepth 20000 in
theorem e_X11_tip {d : Nat} {K : x_T → Int32 → Prop}  {τ : x_T} (h : (0 < τ.1 13 2 → x_CV d mX7_keep [.ref 17, .ref 13] τ (fun t1 => x_CV d mX2_tipOver [.ref 332, .ref 13] t1 (fun t3 => K t3 1))) ∧ (¬ 0 < τ.1 13 2 → K τ 0)) : x_CI (d + 1) mX11_tip [.ref 0] τ K := by
  refine x_CI_of (by decide) (Nat.le_of_ble_eq_true rfl) ?_
  show x_WI (d + 1) mX11_tip K 0 [(0, .ref 0)] [] τ
  refine o_aload_n (k := 0) 0 (by decide +kernel) rfl ?_
  refine f_getR (r := 13) (t := 11) (k := 1) (i := 19) (by decide +kernel) sh_0 rfl (by decide) lk_491 (by simp [x_ty, tyX11]) (gr_11_1 sh_0) ?_
  refine f_getI (t := 1) (k := 2) (i := 137) (by decide +kernel) sh_13 rfl (by decide) lk_236 rfl ?_
  refine o_if_gt (off := 5) 12 (by decide +kernel) (by decide) (fun q => ?_) (fun q => ?_)
  · replace h := h.1 q
    refine o_aload_n (k := 0) 0 (by decide +kernel) rfl ?_
    refine f_getR (r := 17) (t := 11) (k := 2) (i := 26) (by decide +kernel) sh_0 rfl (by decide) lk_492 (by simp [x_ty, tyX11]) (gr_11_2 sh_0) ?_
    refine o_aload_n (k := 0) 0 (by decide +kernel) rfl ?_
    refine f_getR (r := 13) (t := 11) (k := 1) (i := 19) (by decide +kernel) sh_0 rfl (by decide) lk_491 (by simp [x_ty, tyX11]) (gr_11_1 sh_0) ?_
    refine f_callVV (μ' := mX7_keep) (i := 129) (vs := [.ref 13]) (by decide +kernel) lk_601 (vok_mX7_keep) sh_17 rfl rfl rfl rfl (Nat.le_of_ble_eq_true rfl) ?_
    refine x_CV.mono h (fun t1 h => ?_)
    refine o_aload_n (k := 0) 0 (by decide +kernel) rfl ?_
    refine f_getR (r := 332) (t := 11) (k := 14) (i := 89) (by decide +kernel) sh_0 rfl (by decide) lk_504 (by simp [x_ty, tyX11]) (gr_11_14 sh_0) ?_
    refine o_aload_n (k := 0) 0 (by decide +kernel) rfl ?_
    refine f_getR (r := 13) (t := 11) (k := 1) (i := 19) (by decide +kernel) sh_0 rfl (by decide) lk_491 (by simp [x_ty, tyX11]) (gr_11_1 sh_0) ?_
    refine f_callVV (μ' := mX2_tipOver) (i := 140) (vs := [.ref 13]) (by decide +kernel) lk_698 (vok_mX2_tipOver) sh_332 rfl rfl rfl rfl (Nat.le_of_ble_eq_true rfl) ?_
    refine x_CV.mono h (fun t3 h => ?_)
    refine o_iconst (n := 1) (v := 1) (by decide +kernel) (by decide) ?_
    exact f_iret (ty := .boolean) rfl (by decide) (by decide +kernel) rfl h
  · replace h := h.2 q
    refine o_iconst (n := 0) (v := 0) (by decide +kernel) (by decide) ?_
    exact f_iret (ty := .boolean) rfl (by decide) (by decide +kernel) rfl h
set_option maxRecDepth 20000 in
theorem e_X11_mend {d : Nat} {K : x_T → Int32 → Prop}  {τ : x_T} (h : (¬ τ.1 13 4 = 99 → x_CV d mX7_keep [.ref 17, .ref 13] τ (fun t1 => ∀ t3, t3 = x_w1 t1 13 4 99 → (K t3 1))) ∧ (τ.1 13 4 = 99 → K τ 0)) : x_CI (d + 1) mX11_mend [.ref 0] τ K := by
  refine x_CI_of (by decide) (Nat.le_of_ble_eq_true rfl) ?_
  show x_WI (d + 1) mX11_mend K 0 [(0, .ref 0)] [] τ
  refine o_aload_n (k := 0) 0 (by decide +kernel) rfl ?_
  refine f_getR (r := 13) (t := 11) (k := 1) (i := 19) (by decide +kernel) sh_0 rfl (by decide) lk_491 (by simp [x_ty, tyX11]) (gr_11_1 sh_0) ?_
  refine f_getI (t := 1) (k := 4) (i := 143) (by decide +kernel) sh_13 rfl (by decide) lk_243 rfl ?_
  refine o_bipush (n := 99) (v := 99) (by decide +kernel) (by decide) ?_
  refine o_icmp_ne (off := 5) 14 (by decide +kernel) (by decide) (fun q => ?_) (fun q => ?_)
  · replace h := h.1 q
    refine o_aload_n (k := 0) 0 (by decide +kernel) rfl ?_
    refine f_getR (r := 17) (t := 11) (k := 2) (i := 26) (by decide +kernel) sh_0 rfl (by decide) lk_492 (by simp [x_ty, tyX11]) (gr_11_2 sh_0) ?_
    refine o_aload_n (k := 0) 0 (by decide +kernel) rfl ?_
    refine f_getR (r := 13) (t := 11) (k := 1) (i := 19) (by decide +kernel) sh_0 rfl (by decide) lk_491 (by simp [x_ty, tyX11]) (gr_11_1 sh_0) ?_
    refine f_callVV (μ' := mX7_keep) (i := 129) (vs := [.ref 13]) (by decide +kernel) lk_601 (vok_mX7_keep) sh_17 rfl rfl rfl rfl (Nat.le_of_ble_eq_true rfl) ?_
    refine x_CV.mono h (fun t1 h => ?_)
    refine o_aload_n (k := 0) 0 (by decide +kernel) rfl ?_
    refine f_getR (r := 13) (t := 11) (k := 1) (i := 19) (by decide +kernel) sh_0 rfl (by decide) lk_491 (by simp [x_ty, tyX11]) (gr_11_1 sh_0) ?_
    refine o_bipush (n := 99) (v := 99) (by decide +kernel) (by decide) ?_
    refine f_putI (t := 1) (k := 4) (i := 143) (by decide +kernel) sh_13 rfl (by decide) lk_243 rfl rfl ?_
    refine f_name (fun t3 et3 => ?_)
    replace h := h t3 et3
    refine o_iconst (n := 1) (v := 1) (by decide +kernel) (by decide) ?_
    exact f_iret (ty := .boolean) rfl (by decide) (by decide +kernel) rfl h
  · replace h := h.2 q
    refine o_iconst (n := 0) (v := 0) (by decide +kernel) (by decide) ?_
    exact f_iret (ty := .boolean) rfl (by decide) (by decide +kernel) rfl h
set_option maxRecDepth 20000 in
theorem e_X11_minute {d : Nat} {K : x_T → Int32 → Prop} {v1 : Int32} {τ : x_T} (h : (v1 < 1 → K τ (-1)) ∧ (¬ v1 < 1 → (60 < v1 → K τ (-1)) ∧ (¬ 60 < v1 → (v1 ≤ 9999 - (τ.1 13 5) → x_WI (d + 1) mX11_minute K 32 [(0, .ref 0), (1, .int v1), (2, .int 0), (3, .int 0)] [] τ) ∧ (¬ v1 ≤ 9999 - (τ.1 13 5) → K τ (-1))))) : x_CI (d + 1) mX11_minute [.ref 0, .int v1] τ K := by
  refine x_CI_of (by decide) (Nat.le_of_ble_eq_true rfl) ?_
  show x_WI (d + 1) mX11_minute K 0 [(0, .ref 0), (1, .int v1)] [] τ
  refine o_iload_n (k := 1) 1 (by decide +kernel) rfl ?_
  refine o_iconst (n := 1) (v := 1) (by decide +kernel) (by decide) ?_
  refine o_icmp_lt (off := 24) 26 (by decide +kernel) (by decide) (fun q => ?_) (fun q => ?_)
  · replace h := h.1 q
    refine o_iconst (n := -1) (v := (-1)) (by decide +kernel) (by decide) ?_
    exact f_iret (ty := .int) rfl rfl (by decide +kernel) rfl h
  · replace h := h.2 q
    refine o_iload_n (k := 1) 1 (by decide +kernel) rfl ?_
    refine o_bipush (n := 60) (v := 60) (by decide +kernel) (by decide) ?_
    refine o_icmp_gt (off := 18) 26 (by decide +kernel) (by decide) (fun q => ?_) (fun q => ?_)
    · replace h := h.1 q
      refine o_iconst (n := -1) (v := (-1)) (by decide +kernel) (by decide) ?_
      exact f_iret (ty := .int) rfl rfl (by decide +kernel) rfl h
    · replace h := h.2 q
      refine o_iload_n (k := 1) 1 (by decide +kernel) rfl ?_
      refine o_sipush (n := 9999) (v := 9999) (by decide +kernel) (by decide) ?_
      refine o_aload_n (k := 0) 0 (by decide +kernel) rfl ?_
      refine f_getR (r := 13) (t := 11) (k := 1) (i := 19) (by decide +kernel) sh_0 rfl (by decide) lk_491 (by simp [x_ty, tyX11]) (gr_11_1 sh_0) ?_
      refine f_getI (t := 1) (k := 5) (i := 146) (by decide +kernel) sh_13 rfl (by decide) lk_247 rfl ?_
      refine o_isub (by decide +kernel) ?_
      refine o_icmp_le (off := 5) 28 (by decide +kernel) (by decide) (fun q => ?_) (fun q => ?_)
      · replace h := h.1 q
        refine o_iconst (n := 0) (v := 0) (by decide +kernel) (by decide) ?_
        refine o_istore_n (k := 2) (L' := [(2, .int 0), (0, .ref 0), (1, .int v1)]) (by decide +kernel) (by decide) rfl ?_
        refine o_iconst (n := 0) (v := 0) (by decide +kernel) (by decide) ?_
        refine o_istore_n (k := 3) (L' := [(3, .int 0), (2, .int 0), (0, .ref 0), (1, .int v1)]) (by decide +kernel) (by decide) rfl ?_
        refine o_sub [2, 3, 1, 0] rfl ?_
        exact h
      · replace h := h.2 q
        refine o_iconst (n := -1) (v := (-1)) (by decide +kernel) (by decide) ?_
        exact f_iret (ty := .int) rfl rfl (by decide +kernel) rfl h
set_option maxRecDepth 20000 in
theorem k_X11_minute_32 {d : Nat} {K : x_T → Int32 → Prop} {v1 : Int32} {v2 : Int32} {v3 : Int32} {τ : x_T} (h : (v1 ≤ v3 → K τ v2) ∧ (¬ v1 ≤ v3 → x_CV d mX7_keep [.ref 17, .ref 13] τ (fun t1 => x_CI d mX2_passMinute [.ref 332, .ref 13] t1 (fun t3 a4 => ∀ y5, y5 = v2 + a4 → (∀ y6, y6 = v3 + 1 → (x_WI (d + 1) mX11_minute K 32 [(0, .ref 0), (1, .int v1), (2, .int y5), (3, .int y6)] [] t3)))))) : x_WI (d + 1) mX11_minute K 32 [(0, .ref 0), (1, .int v1), (2, .int v2), (3, .int v3)] [] τ := by
  refine o_iload_n (k := 3) 3 (by decide +kernel) rfl ?_
  refine o_iload_n (k := 1) 1 (by decide +kernel) rfl ?_
  refine o_icmp_ge (off := 34) 68 (by decide +kernel) (by decide) (fun q => ?_) (fun q => ?_)
  · replace h := h.1 q
    refine o_iload_n (k := 2) 2 (by decide +kernel) rfl ?_
    exact f_iret (ty := .int) rfl rfl (by decide +kernel) rfl h
  · replace h := h.2 q
    refine o_aload_n (k := 0) 0 (by decide +kernel) rfl ?_
    refine f_getR (r := 17) (t := 11) (k := 2) (i := 26) (by decide +kernel) sh_0 rfl (by decide) lk_492 (by simp [x_ty, tyX11]) (gr_11_2 sh_0) ?_
    refine o_aload_n (k := 0) 0 (by decide +kernel) rfl ?_
    refine f_getR (r := 13) (t := 11) (k := 1) (i := 19) (by decide +kernel) sh_0 rfl (by decide) lk_491 (by simp [x_ty, tyX11]) (gr_11_1 sh_0) ?_
    refine f_callVV (μ' := mX7_keep) (i := 129) (vs := [.ref 13]) (by decide +kernel) lk_601 (vok_mX7_keep) sh_17 rfl rfl rfl rfl (Nat.le_of_ble_eq_true rfl) ?_
    refine x_CV.mono h (fun t1 h => ?_)
    refine o_iload_n (k := 2) 2 (by decide +kernel) rfl ?_
    refine o_aload_n (k := 0) 0 (by decide +kernel) rfl ?_
    refine f_getR (r := 332) (t := 11) (k := 14) (i := 89) (by decide +kernel) sh_0 rfl (by decide) lk_504 (by simp [x_ty, tyX11]) (gr_11_14 sh_0) ?_
    refine o_aload_n (k := 0) 0 (by decide +kernel) rfl ?_
    refine f_getR (r := 13) (t := 11) (k := 1) (i := 19) (by decide +kernel) sh_0 rfl (by decide) lk_491 (by simp [x_ty, tyX11]) (gr_11_1 sh_0) ?_
    refine f_callVI (μ' := mX2_passMinute) (i := 149) (vs := [.ref 13]) (by decide +kernel) lk_715 (vok_mX2_passMinute) sh_332 rfl rfl rfl rfl (Nat.le_of_ble_eq_true rfl) ?_
    refine x_CI.mono h (fun t3 a4 h => ?_)
    refine o_iadd (by decide +kernel) ?_
    refine o_name (fun y5 ey5 => ?_)
    replace h := h y5 ey5
    refine o_istore_n (k := 2) (L' := [(2, .int y5), (0, .ref 0), (1, .int v1), (3, .int v3)]) (by decide +kernel) (by decide) rfl ?_
    obtain ⟨y6, ey6⟩ : ∃ y : Int32, y = v3 + 1 := ⟨_, rfl⟩
    replace h := h y6 ey6
    refine o_iinc (i := 3) (n := 1) (v := y6) (L' := [(3, .int y6), (2, .int y5), (0, .ref 0), (1, .int v1)]) 3 (by decide +kernel) rfl (by rw [ey6]; rfl) (by decide) rfl ?_
    refine o_goto (off := -33) 32 (by decide +kernel) (by decide) ?_
    refine o_sub [2, 3, 1, 0] rfl ?_
    exact h
set_option maxRecDepth 20000 in
theorem e_X11_years {d : Nat} {K : x_T → Int32 → Prop} {v1 : Int32} {v2 : Int32} {τ : x_T} (h : (v1 < 0 → K τ (-1)) ∧ (¬ v1 < 0 → (9999 < v1 → K τ (-1)) ∧ (¬ 9999 < v1 → (v2 < 1 → K τ (-1)) ∧ (¬ v2 < 1 → (30 < v2 → K τ (-1)) ∧ (¬ 30 < v2 → (¬ τ.1 1 0 = 0 → x_CV d mX7_keep [.ref 17, .ref 13] τ (fun t1 => ∀ t3, t3 = x_w1 t1 13 6 ((v1 * 2) + 89) → (x_WI (d + 1) mX11_years K 60 [(0, .ref 0), (2, .int v2), (3, .int 0)] [] t3))) ∧ (τ.1 1 0 = 0 → K τ (-1))))))) : x_CI (d + 1) mX11_years [.ref 0, .int v1, .int v2] τ K := by
  refine x_CI_of (by decide) (Nat.le_of_ble_eq_true rfl) ?_
  show x_WI (d + 1) mX11_years K 0 [(0, .ref 0), (1, .int v1), (2, .int v2)] [] τ
  refine o_iload_n (k := 1) 1 (by decide +kernel) rfl ?_
  refine o_if_lt (off := 31) 32 (by decide +kernel) (by decide) (fun q => ?_) (fun q => ?_)
  · replace h := h.1 q
    refine o_iconst (n := -1) (v := (-1)) (by decide +kernel) (by decide) ?_
    exact f_iret (ty := .int) rfl rfl (by decide +kernel) rfl h
  · replace h := h.2 q
    refine o_iload_n (k := 1) 1 (by decide +kernel) rfl ?_
    refine o_sipush (n := 9999) (v := 9999) (by decide +kernel) (by decide) ?_
    refine o_icmp_gt (off := 24) 32 (by decide +kernel) (by decide) (fun q => ?_) (fun q => ?_)
    · replace h := h.1 q
      refine o_iconst (n := -1) (v := (-1)) (by decide +kernel) (by decide) ?_
      exact f_iret (ty := .int) rfl rfl (by decide +kernel) rfl h
    · replace h := h.2 q
      refine o_iload_n (k := 2) 2 (by decide +kernel) rfl ?_
      refine o_iconst (n := 1) (v := 1) (by decide +kernel) (by decide) ?_
      refine o_icmp_lt (off := 19) 32 (by decide +kernel) (by decide) (fun q => ?_) (fun q => ?_)
      · replace h := h.1 q
        refine o_iconst (n := -1) (v := (-1)) (by decide +kernel) (by decide) ?_
        exact f_iret (ty := .int) rfl rfl (by decide +kernel) rfl h
      · replace h := h.2 q
        refine o_iload_n (k := 2) 2 (by decide +kernel) rfl ?_
        refine o_bipush (n := 30) (v := 30) (by decide +kernel) (by decide) ?_
        refine o_icmp_gt (off := 13) 32 (by decide +kernel) (by decide) (fun q => ?_) (fun q => ?_)
        · replace h := h.1 q
          refine o_iconst (n := -1) (v := (-1)) (by decide +kernel) (by decide) ?_
          exact f_iret (ty := .int) rfl rfl (by decide +kernel) rfl h
        · replace h := h.2 q
          refine o_aload_n (k := 0) 0 (by decide +kernel) rfl ?_
          refine f_getR (r := 1) (t := 11) (k := 0) (i := 10) (by decide +kernel) sh_0 rfl (by decide) lk_490 (by simp [x_ty, tyX11]) (gr_11_0 sh_0) ?_
          refine f_getI (t := 3) (k := 0) (i := 153) (by decide +kernel) sh_1 rfl (by decide) lk_181 rfl ?_
          refine o_if_ne (off := 5) 34 (by decide +kernel) (by decide) (fun q => ?_) (fun q => ?_)
          · replace h := h.1 q
            refine o_aload_n (k := 0) 0 (by decide +kernel) rfl ?_
            refine f_getR (r := 17) (t := 11) (k := 2) (i := 26) (by decide +kernel) sh_0 rfl (by decide) lk_492 (by simp [x_ty, tyX11]) (gr_11_2 sh_0) ?_
            refine o_aload_n (k := 0) 0 (by decide +kernel) rfl ?_
            refine f_getR (r := 13) (t := 11) (k := 1) (i := 19) (by decide +kernel) sh_0 rfl (by decide) lk_491 (by simp [x_ty, tyX11]) (gr_11_1 sh_0) ?_
            refine f_callVV (μ' := mX7_keep) (i := 129) (vs := [.ref 13]) (by decide +kernel) lk_601 (vok_mX7_keep) sh_17 rfl rfl rfl rfl (Nat.le_of_ble_eq_true rfl) ?_
            refine x_CV.mono h (fun t1 h => ?_)
            refine o_aload_n (k := 0) 0 (by decide +kernel) rfl ?_
            refine f_getR (r := 13) (t := 11) (k := 1) (i := 19) (by decide +kernel) sh_0 rfl (by decide) lk_491 (by simp [x_ty, tyX11]) (gr_11_1 sh_0) ?_
            refine o_iload_n (k := 1) 1 (by decide +kernel) rfl ?_
            refine o_iconst (n := 2) (v := 2) (by decide +kernel) (by decide) ?_
            refine o_imul (by decide +kernel) ?_
            refine o_bipush (n := 89) (v := 89) (by decide +kernel) (by decide) ?_
            refine o_iadd (by decide +kernel) ?_
            refine f_putI (t := 1) (k := 6) (i := 156) (by decide +kernel) sh_13 rfl (by decide) lk_249 rfl rfl ?_
            refine f_name (fun t3 et3 => ?_)
            replace h := h t3 et3
            refine o_iconst (n := 0) (v := 0) (by decide +kernel) (by decide) ?_
            refine o_istore_n (k := 3) (L' := [(3, .int 0), (0, .ref 0), (1, .int v1), (2, .int v2)]) (by decide +kernel) (by decide) rfl ?_
            refine o_sub [1, 3, 0] rfl ?_
            exact h
          · replace h := h.2 q
            refine o_iconst (n := -1) (v := (-1)) (by decide +kernel) (by decide) ?_
            exact f_iret (ty := .int) rfl rfl (by decide +kernel) rfl h
set_option maxRecDepth 20000 in
theorem k_X11_years_60 {d : Nat} {K : x_T → Int32 → Prop} {v2 : Int32} {v3 : Int32} {τ : x_T} (h : (v2 ≤ v3 → K τ (τ.1 13 5)) ∧ (¬ v2 ≤ v3 → x_CV d mX2_doAsDrawn [.ref 332, .ref 13] τ (fun t1 => ∀ y3, y3 = v3 + 1 → (x_WI (d + 1) mX11_years K 60 [(0, .ref 0), (2, .int v2), (3, .int y3)] [] t1)))) : x_WI (d + 1) mX11_years K 60 [(0, .ref 0), (2, .int v2), (3, .int v3)] [] τ := by
  refine o_iload_n (k := 3) 2 (by decide +kernel) rfl ?_
  refine o_iload_n (k := 2) 1 (by decide +kernel) rfl ?_
  refine o_icmp_ge (off := 20) 82 (by decide +kernel) (by decide) (fun q => ?_) (fun q => ?_)
  · replace h := h.1 q
    refine o_aload_n (k := 0) 0 (by decide +kernel) rfl ?_
    refine f_getR (r := 13) (t := 11) (k := 1) (i := 19) (by decide +kernel) sh_0 rfl (by decide) lk_491 (by simp [x_ty, tyX11]) (gr_11_1 sh_0) ?_
    refine f_getI (t := 1) (k := 5) (i := 146) (by decide +kernel) sh_13 rfl (by decide) lk_247 rfl ?_
    exact f_iret (ty := .int) rfl rfl (by decide +kernel) rfl h
  · replace h := h.2 q
    refine o_aload_n (k := 0) 0 (by decide +kernel) rfl ?_
    refine f_getR (r := 332) (t := 11) (k := 14) (i := 89) (by decide +kernel) sh_0 rfl (by decide) lk_504 (by simp [x_ty, tyX11]) (gr_11_14 sh_0) ?_
    refine o_aload_n (k := 0) 0 (by decide +kernel) rfl ?_
    refine f_getR (r := 13) (t := 11) (k := 1) (i := 19) (by decide +kernel) sh_0 rfl (by decide) lk_491 (by simp [x_ty, tyX11]) (gr_11_1 sh_0) ?_
    refine f_callVV (μ' := mX2_doAsDrawn) (i := 159) (vs := [.ref 13]) (by decide +kernel) lk_764 (vok_mX2_doAsDrawn) sh_332 rfl rfl rfl rfl (Nat.le_of_ble_eq_true rfl) ?_
    refine x_CV.mono h (fun t1 h => ?_)
    obtain ⟨y3, ey3⟩ : ∃ y : Int32, y = v3 + 1 := ⟨_, rfl⟩
    replace h := h y3 ey3
    refine o_iinc (i := 3) (n := 1) (v := y3) (L' := [(3, .int y3), (0, .ref 0), (2, .int v2)]) 2 (by decide +kernel) rfl (by rw [ey3]; rfl) (by decide) rfl ?_
    refine o_goto (off := -19) 60 (by decide +kernel) (by decide) ?_
    refine o_sub [1, 2, 0] rfl ?_
    exact h
set_option maxRecDepth 20000 in
theorem e_X11_feed {d : Nat} {K : x_T → Int32 → Prop} {v1 : Int32} {v2 : Int32} {v3 : Int32} {v4 : Int32} {v5 : Int32} {τ : x_T} (h : (τ.1 314 1 ≤ 280 → x_CV d mX8_addFour [.ref 314, .int v1] τ (fun t1 => x_CV d mX8_addFour [.ref 314, .int v2] t1 (fun t3 => x_CV d mX8_addFour [.ref 314, .int v3] t3 (fun t5 => x_CV d mX8_addFour [.ref 314, .int v4] t5 (fun t7 => x_CV d mX8_addFour [.ref 314, .int v5] t7 (fun t9 => K t9 (t9.1 314 1))))))) ∧ (¬ τ.1 314 1 ≤ 280 → K τ (-1))) : x_CI (d + 1) mX11_feed [.ref 0, .int v1, .int v2, .int v3, .int v4, .int v5] τ K := by
  refine x_CI_of (by decide) (Nat.le_of_ble_eq_true rfl) ?_
  show x_WI (d + 1) mX11_feed K 0 [(0, .ref 0), (1, .int v1), (2, .int v2), (3, .int v3), (4, .int v4), (5, .int v5)] [] τ
  refine o_aload_n (k := 0) 0 (by decide +kernel) rfl ?_
  refine f_getR (r := 314) (t := 11) (k := 11) (i := 62) (by decide +kernel) sh_0 rfl (by decide) lk_501 (by simp [x_ty, tyX11]) (gr_11_11 sh_0) ?_
  refine f_getI (t := 8) (k := 1) (i := 162) (by decide +kernel) sh_314 rfl (by decide) lk_353 rfl ?_
  refine o_sipush (n := 280) (v := 280) (by decide +kernel) (by decide) ?_
  refine o_icmp_le (off := 5) 15 (by decide +kernel) (by decide) (fun q => ?_) (fun q => ?_)
  · replace h := h.1 q
    refine o_aload_n (k := 0) 0 (by decide +kernel) rfl ?_
    refine f_getR (r := 314) (t := 11) (k := 11) (i := 62) (by decide +kernel) sh_0 rfl (by decide) lk_501 (by simp [x_ty, tyX11]) (gr_11_11 sh_0) ?_
    refine o_iload_n (k := 1) 1 (by decide +kernel) rfl ?_
    refine f_callVV (μ' := mX8_addFour) (i := 165) (vs := [.int v1]) (by decide +kernel) lk_784 (vok_mX8_addFour) sh_314 rfl rfl rfl rfl (Nat.le_of_ble_eq_true rfl) ?_
    refine x_CV.mono h (fun t1 h => ?_)
    refine o_aload_n (k := 0) 0 (by decide +kernel) rfl ?_
    refine f_getR (r := 314) (t := 11) (k := 11) (i := 62) (by decide +kernel) sh_0 rfl (by decide) lk_501 (by simp [x_ty, tyX11]) (gr_11_11 sh_0) ?_
    refine o_iload_n (k := 2) 2 (by decide +kernel) rfl ?_
    refine f_callVV (μ' := mX8_addFour) (i := 165) (vs := [.int v2]) (by decide +kernel) lk_784 (vok_mX8_addFour) sh_314 rfl rfl rfl rfl (Nat.le_of_ble_eq_true rfl) ?_
    refine x_CV.mono h (fun t3 h => ?_)
    refine o_aload_n (k := 0) 0 (by decide +kernel) rfl ?_
    refine f_getR (r := 314) (t := 11) (k := 11) (i := 62) (by decide +kernel) sh_0 rfl (by decide) lk_501 (by simp [x_ty, tyX11]) (gr_11_11 sh_0) ?_
    refine o_iload_n (k := 3) 3 (by decide +kernel) rfl ?_
    refine f_callVV (μ' := mX8_addFour) (i := 165) (vs := [.int v3]) (by decide +kernel) lk_784 (vok_mX8_addFour) sh_314 rfl rfl rfl rfl (Nat.le_of_ble_eq_true rfl) ?_
    refine x_CV.mono h (fun t5 h => ?_)
    refine o_aload_n (k := 0) 0 (by decide +kernel) rfl ?_
    refine f_getR (r := 314) (t := 11) (k := 11) (i := 62) (by decide +kernel) sh_0 rfl (by decide) lk_501 (by simp [x_ty, tyX11]) (gr_11_11 sh_0) ?_
    refine o_iload (k := 4) 4 (by decide +kernel) rfl ?_
    refine f_callVV (μ' := mX8_addFour) (i := 165) (vs := [.int v4]) (by decide +kernel) lk_784 (vok_mX8_addFour) sh_314 rfl rfl rfl rfl (Nat.le_of_ble_eq_true rfl) ?_
    refine x_CV.mono h (fun t7 h => ?_)
    refine o_aload_n (k := 0) 0 (by decide +kernel) rfl ?_
    refine f_getR (r := 314) (t := 11) (k := 11) (i := 62) (by decide +kernel) sh_0 rfl (by decide) lk_501 (by simp [x_ty, tyX11]) (gr_11_11 sh_0) ?_
    refine o_iload (k := 5) 5 (by decide +kernel) rfl ?_
    refine f_callVV (μ' := mX8_addFour) (i := 165) (vs := [.int v5]) (by decide +kernel) lk_784 (vok_mX8_addFour) sh_314 rfl rfl rfl rfl (Nat.le_of_ble_eq_true rfl) ?_
    refine x_CV.mono h (fun t9 h => ?_)
    refine o_aload_n (k := 0) 0 (by decide +kernel) rfl ?_
    refine f_getR (r := 314) (t := 11) (k := 11) (i := 62) (by decide +kernel) sh_0 rfl (by decide) lk_501 (by simp [x_ty, tyX11]) (gr_11_11 sh_0) ?_
    refine f_getI (t := 8) (k := 1) (i := 162) (by decide +kernel) sh_314 rfl (by decide) lk_353 rfl ?_
    exact f_iret (ty := .int) rfl rfl (by decide +kernel) rfl h
  · replace h := h.2 q
    refine o_iconst (n := -1) (v := (-1)) (by decide +kernel) (by decide) ?_
    exact f_iret (ty := .int) rfl rfl (by decide +kernel) rfl h
set_option maxRecDepth 20000 in
theorem e_X11_end {d : Nat} {K : x_T → Int32 → Prop} {v1 : Int32} {τ : x_T} (h : (v1 < 0 → K τ (-1)) ∧ (¬ v1 < 0 → (v1 ≤ τ.1 314 1 → ∀ t1, t1 = x_w1 τ 314 1 v1 → (K t1 v1)) ∧ (¬ v1 ≤ τ.1 314 1 → K τ (-1)))) : x_CI d mX11_end [.ref 0, .int v1] τ K := by
  refine x_CI_of (by decide) (Nat.le_of_ble_eq_true rfl) ?_
  show x_WI d mX11_end K 0 [(0, .ref 0), (1, .int v1)] [] τ
  refine o_iload_n (k := 1) 1 (by decide +kernel) rfl ?_
  refine o_if_lt (off := 14) 15 (by decide +kernel) (by decide) (fun q => ?_) (fun q => ?_)
  · replace h := h.1 q
    refine o_iconst (n := -1) (v := (-1)) (by decide +kernel) (by decide) ?_
    exact f_iret (ty := .int) rfl rfl (by decide +kernel) rfl h
  · replace h := h.2 q
    refine o_iload_n (k := 1) 1 (by decide +kernel) rfl ?_
    refine o_aload_n (k := 0) 0 (by decide +kernel) rfl ?_
    refine f_getR (r := 314) (t := 11) (k := 11) (i := 62) (by decide +kernel) sh_0 rfl (by decide) lk_501 (by simp [x_ty, tyX11]) (gr_11_11 sh_0) ?_
    refine f_getI (t := 8) (k := 1) (i := 162) (by decide +kernel) sh_314 rfl (by decide) lk_353 rfl ?_
    refine o_icmp_le (off := 5) 17 (by decide +kernel) (by decide) (fun q => ?_) (fun q => ?_)
    · replace h := h.1 q
      refine o_aload_n (k := 0) 0 (by decide +kernel) rfl ?_
      refine f_getR (r := 314) (t := 11) (k := 11) (i := 62) (by decide +kernel) sh_0 rfl (by decide) lk_501 (by simp [x_ty, tyX11]) (gr_11_11 sh_0) ?_
      refine o_iload_n (k := 1) 1 (by decide +kernel) rfl ?_
      refine f_putI (t := 8) (k := 1) (i := 162) (by decide +kernel) sh_314 rfl (by decide) lk_353 rfl rfl ?_
      refine f_name (fun t1 et1 => ?_)
      replace h := h t1 et1
      refine o_iload_n (k := 1) 1 (by decide +kernel) rfl ?_
      exact f_iret (ty := .int) rfl rfl (by decide +kernel) rfl h
    · replace h := h.2 q
      refine o_iconst (n := -1) (v := (-1)) (by decide +kernel) (by decide) ?_
      exact f_iret (ty := .int) rfl rfl (by decide +kernel) rfl h
set_option maxRecDepth 20000 in
theorem e_X11_text {d : Nat} {K : x_T → Int32 → Prop}  {τ : x_T} (h : (τ.1 0 4 < 0 → K τ (-1)) ∧ (¬ τ.1 0 4 < 0 → (τ.1 0 4 < 4 → vp_in (τ.1 0 4) 4 ∧ (∀ c1, c1 = 139 + 1 + 9 * (τ.1 0 4).toNatClampNeg → x_sh c1 = (9, 10) ∧ (x_CV d mX6_read [.ref 319, .ref c1] τ (fun t2 => ∀ t4, t4 = x_w1 t2 314 1 0 → ((t4.1 319 4 = 0 → ∀ t5, t5 = x_w1 t4 0 4 ((t4.1 0 4) + 1) → (K t5 ((t5.1 0 4) - 1))) ∧ (¬ t4.1 319 4 = 0 → K t4 (-1))))))) ∧ (¬ τ.1 0 4 < 4 → K τ (-1)))) : x_CI (d + 1) mX11_text [.ref 0] τ K := by
  refine x_CI_of (by decide) (Nat.le_of_ble_eq_true rfl) ?_
  show x_WI (d + 1) mX11_text K 0 [(0, .ref 0)] [] τ
  refine o_aload_n (k := 0) 0 (by decide +kernel) rfl ?_
  refine f_getI (t := 11) (k := 4) (i := 37) (by decide +kernel) sh_0 rfl (by decide) lk_494 rfl ?_
  refine o_if_lt (off := 15) 19 (by decide +kernel) (by decide) (fun q => ?_) (fun q => ?_)
  · replace h := h.1 q
    refine o_iconst (n := -1) (v := (-1)) (by decide +kernel) (by decide) ?_
    exact f_iret (ty := .int) rfl rfl (by decide +kernel) rfl h
  · replace h := h.2 q
    refine o_aload_n (k := 0) 0 (by decide +kernel) rfl ?_
    refine f_getI (t := 11) (k := 4) (i := 37) (by decide +kernel) sh_0 rfl (by decide) lk_494 rfl ?_
    refine o_aload_n (k := 0) 0 (by decide +kernel) rfl ?_
    refine f_getR (r := 139) (t := 11) (k := 3) (i := 32) (by decide +kernel) sh_0 rfl (by decide) lk_493 (by simp [x_ty, tyX11]) (gr_11_3 sh_0) ?_
    refine f_alen (v := 4) (by decide +kernel) sh_139 (by decide) (by decide) ?_
    refine o_icmp_lt (off := 5) 21 (by decide +kernel) (by decide) (fun q => ?_) (fun q => ?_)
    · replace h := h.1 q
      refine o_aload_n (k := 0) 0 (by decide +kernel) rfl ?_
      refine f_getR (r := 139) (t := 11) (k := 3) (i := 32) (by decide +kernel) sh_0 rfl (by decide) lk_493 (by simp [x_ty, tyX11]) (gr_11_3 sh_0) ?_
      refine o_aload_n (k := 0) 0 (by decide +kernel) rfl ?_
      refine f_getI (t := 11) (k := 4) (i := 37) (by decide +kernel) sh_0 rfl (by decide) lk_494 rfl ?_
      obtain ⟨hi, h⟩ := h
      obtain ⟨c1, ec1⟩ : ∃ y : Nat, y = 139 + 1 + 9 * (τ.1 0 4).toNatClampNeg := ⟨_, rfl⟩
      replace h := h c1 ec1
      obtain ⟨hsc1, h⟩ := h
      refine f_aaldT (r := c1) (by decide +kernel) sh_139 hi (by rw [ec1]; exact gr_23 sh_139) ?_
      refine o_astore_n (k := 1) (L' := [(1, .ref c1), (0, .ref 0)]) (by decide +kernel) (by decide) rfl ?_
      refine o_aload_n (k := 1) 0 (by decide +kernel) rfl ?_
      refine o_ifnonnull (r := some c1) (off := 5) 37 (by decide +kernel) (by decide) (fun q e => ?_) (fun e => nomatch e)
      refine o_aload_n (k := 0) 1 (by decide +kernel) rfl ?_
      refine f_getR (r := 319) (t := 11) (k := 12) (i := 71) (by decide +kernel) sh_0 rfl (by decide) lk_502 (by simp [x_ty, tyX11]) (gr_11_12 sh_0) ?_
      refine o_aload_n (k := 1) 0 (by decide +kernel) rfl ?_
      refine f_callVV (μ' := mX6_read) (i := 169) (vs := [.ref c1]) (by decide +kernel) lk_796 (vok_mX6_read) sh_319 rfl rfl rfl rfl (Nat.le_of_ble_eq_true rfl) ?_
      refine x_CV.mono h (fun t2 h => ?_)
      refine o_aload_n (k := 0) 1 (by decide +kernel) rfl ?_
      refine f_getR (r := 314) (t := 11) (k := 11) (i := 62) (by decide +kernel) sh_0 rfl (by decide) lk_501 (by simp [x_ty, tyX11]) (gr_11_11 sh_0) ?_
      refine o_iconst (n := 0) (v := 0) (by decide +kernel) (by decide) ?_
      refine f_putI (t := 8) (k := 1) (i := 162) (by decide +kernel) sh_314 rfl (by decide) lk_353 rfl rfl ?_
      refine f_name (fun t4 et4 => ?_)
      replace h := h t4 et4
      refine o_aload_n (k := 0) 1 (by decide +kernel) rfl ?_
      refine f_getR (r := 319) (t := 11) (k := 12) (i := 71) (by decide +kernel) sh_0 rfl (by decide) lk_502 (by simp [x_ty, tyX11]) (gr_11_12 sh_0) ?_
      refine f_getI (t := 6) (k := 4) (i := 173) (by decide +kernel) sh_319 rfl (by decide) lk_384 rfl ?_
      refine o_if_eq (off := 5) 65 (by decide +kernel) (by decide) (fun q => ?_) (fun q => ?_)
      · replace h := h.1 q
        refine o_aload_n (k := 0) 1 (by decide +kernel) rfl ?_
        refine o_dup (by decide +kernel) rfl ?_
        refine f_getI (t := 11) (k := 4) (i := 37) (by decide +kernel) sh_0 rfl (by decide) lk_494 rfl ?_
        refine o_iconst (n := 1) (v := 1) (by decide +kernel) (by decide) ?_
        refine o_iadd (by decide +kernel) ?_
        refine f_putI (t := 11) (k := 4) (i := 37) (by decide +kernel) sh_0 rfl (by decide) lk_494 rfl rfl ?_
        refine f_name (fun t5 et5 => ?_)
        replace h := h t5 et5
        refine o_aload_n (k := 0) 1 (by decide +kernel) rfl ?_
        refine f_getI (t := 11) (k := 4) (i := 37) (by decide +kernel) sh_0 rfl (by decide) lk_494 rfl ?_
        refine o_iconst (n := 1) (v := 1) (by decide +kernel) (by decide) ?_
        refine o_isub (by decide +kernel) ?_
        exact f_iret (ty := .int) rfl rfl (by decide +kernel) rfl h
      · replace h := h.2 q
        refine o_iconst (n := -1) (v := (-1)) (by decide +kernel) (by decide) ?_
        exact f_iret (ty := .int) rfl rfl (by decide +kernel) rfl h
    · replace h := h.2 q
      refine o_iconst (n := -1) (v := (-1)) (by decide +kernel) (by decide) ?_
      exact f_iret (ty := .int) rfl rfl (by decide +kernel) rfl h
theorem d_X11_fault_1 : decode mX11_fault.2.1 1 = .ok (.lookupswitch (43) #[(0, 27), (1, 35)], 27) := by decide +kernel
set_option maxRecDepth 20000 in
theorem e_X11_fault {d : Nat} {K : x_T → Int32 → Prop} {v1 : Int32} {τ : x_T} (h : ((v1 = 0 → K τ (τ.1 319 4)) ∧ (¬ v1 = 0 → (v1 = 1 → K τ (τ.1 319 5)) ∧ (¬ v1 = 1 → (K τ (-1)))))) : x_CI d mX11_fault [.ref 0, .int v1] τ K := by
  refine x_CI_of (by decide) (Nat.le_of_ble_eq_true rfl) ?_
  show x_WI d mX11_fault K 0 [(0, .ref 0), (1, .int v1)] [] τ
  refine o_iload_n (k := 1) 1 (by decide +kernel) rfl ?_
  by_cases c0 : v1 = 0
  · replace h := h.1 c0
    refine o_lookup (off := 27) (tgt := 28) (d_X11_fault_1) (by decide) (by rw [c0]; decide) (by decide) ?_
    refine o_aload_n (k := 0) 0 (by decide +kernel) rfl ?_
    refine f_getR (r := 319) (t := 11) (k := 12) (i := 71) (by decide +kernel) sh_0 rfl (by decide) lk_502 (by simp [x_ty, tyX11]) (gr_11_12 sh_0) ?_
    refine f_getI (t := 6) (k := 4) (i := 173) (by decide +kernel) sh_319 rfl (by decide) lk_384 rfl ?_
    exact f_iret (ty := .int) rfl rfl (by decide +kernel) rfl h
  replace h := h.2 c0
  by_cases c1 : v1 = 1
  · replace h := h.1 c1
    refine o_lookup (off := 35) (tgt := 36) (d_X11_fault_1) (by decide) (by rw [c1]; decide) (by decide) ?_
    refine o_aload_n (k := 0) 0 (by decide +kernel) rfl ?_
    refine f_getR (r := 319) (t := 11) (k := 12) (i := 71) (by decide +kernel) sh_0 rfl (by decide) lk_502 (by simp [x_ty, tyX11]) (gr_11_12 sh_0) ?_
    refine f_getI (t := 6) (k := 5) (i := 176) (by decide +kernel) sh_319 rfl (by decide) lk_386 rfl ?_
    exact f_iret (ty := .int) rfl rfl (by decide +kernel) rfl h
  replace h := h.2 c1
  refine o_lookup (off := 43) (tgt := 44) (d_X11_fault_1) (by decide) (by have := x_neS (z := 0) (by decide) c0; have := x_neS (z := 1) (by decide) c1; simp [Op.lookupswitch.offset, *]) (by decide) ?_
  refine o_iconst (n := -1) (v := (-1)) (by decide +kernel) (by decide) ?_
  exact f_iret (ty := .int) rfl rfl (by decide +kernel) rfl h
set_option maxRecDepth 20000 in
theorem e_X11_by {d : Nat} {K : x_T → Int32 → Prop} {v1 : Int32} {τ : x_T} (h : (v1 = (-1) → x_WI (d + 1) mX11_by K 15 [(0, .ref 0), (1, .int v1)] [] τ) ∧ (¬ v1 = (-1) → x_CR d mX11_textTold [.ref 0, .int v1] τ (fun t1 a2 => (∀ c3, a2 = some c3 → x_sh c3 = (9, 10) ∧ (x_WI (d + 1) mX11_by K 15 [(0, .ref 0), (1, .int v1)] [] t1)) ∧ (a2 = none → K t1 0)))) : x_CI (d + 1) mX11_by [.ref 0, .int v1] τ K := by
  refine x_CI_of (by decide) (Nat.le_of_ble_eq_true rfl) ?_
  show x_WI (d + 1) mX11_by K 0 [(0, .ref 0), (1, .int v1)] [] τ
  refine o_iload_n (k := 1) 1 (by decide +kernel) rfl ?_
  refine o_iconst (n := -1) (v := (-1)) (by decide +kernel) (by decide) ?_
  refine o_icmp_eq (off := 13) 15 (by decide +kernel) (by decide) (fun q => ?_) (fun q => ?_)
  · replace h := h.1 q
    exact h
  · replace h := h.2 q
    refine o_aload_n (k := 0) 0 (by decide +kernel) rfl ?_
    refine o_iload_n (k := 1) 1 (by decide +kernel) rfl ?_
    refine f_callVR (μ' := mX11_textTold) (i := 179) (vs := [.int v1]) (by decide +kernel) lk_1051 (vok_mX11_textTold) sh_0 rfl rfl rfl rfl (Nat.le_of_ble_eq_true rfl) ?_
    refine x_CR.mono h (fun t1 a2 h => ?_)
    refine o_ifnonnull (r := a2) (off := 5) 15 (by decide +kernel) (by decide) (fun c3 e => ?_) (fun e => ?_)
    · replace h := h.1 c3 e
      obtain ⟨hsc3, h⟩ := h
      subst e
      exact h
    · replace h := h.2 e
      subst e
      refine o_iconst (n := 0) (v := 0) (by decide +kernel) (by decide) ?_
      exact f_iret (ty := .boolean) rfl (by decide) (by decide +kernel) rfl h
set_option maxRecDepth 20000 in
theorem k_X11_by_15 {d : Nat} {K : x_T → Int32 → Prop} {v1 : Int32} {τ : x_T} (h : x_CV d mX11_letRule [.ref 0, .int v1] τ (fun t1 => K t1 1)) : x_WI (d + 1) mX11_by K 15 [(0, .ref 0), (1, .int v1)] [] τ := by
  refine o_aload_n (k := 0) 0 (by decide +kernel) rfl ?_
  refine o_iload_n (k := 1) 1 (by decide +kernel) rfl ?_
  refine f_callVV (μ' := mX11_letRule) (i := 183) (vs := [.int v1]) (by decide +kernel) lk_1055 (vok_mX11_letRule) sh_0 rfl rfl rfl rfl (Nat.le_of_ble_eq_true rfl) ?_
  refine x_CV.mono h (fun t1 h => ?_)
  refine o_iconst (n := 1) (v := 1) (by decide +kernel) (by decide) ?_
  exact f_iret (ty := .boolean) rfl (by decide) (by decide +kernel) rfl h
set_option maxRecDepth 20000 in
theorem e_X11_played {d : Nat} {K : x_T → Int32 → Prop} {v1 : Int32} {τ : x_T} (h : x_CR d mX11_textTold [.ref 0, .int v1] τ (fun t1 a2 => (∀ c3, a2 = some c3 → x_sh c3 = (9, 10) ∧ (x_WI (d + 1) mX11_played K 15 [(0, .ref 0), (2, .ref c3), (3, .int 0)] [] t1)) ∧ (a2 = none → K t1 (-2)))) : x_CI (d + 1) mX11_played [.ref 0, .int v1] τ K := by
  refine x_CI_of (by decide) (Nat.le_of_ble_eq_true rfl) ?_
  show x_WI (d + 1) mX11_played K 0 [(0, .ref 0), (1, .int v1)] [] τ
  refine o_aload_n (k := 0) 0 (by decide +kernel) rfl ?_
  refine o_iload_n (k := 1) 1 (by decide +kernel) rfl ?_
  refine f_callVR (μ' := mX11_textTold) (i := 179) (vs := [.int v1]) (by decide +kernel) lk_1051 (vok_mX11_textTold) sh_0 rfl rfl rfl rfl (Nat.le_of_ble_eq_true rfl) ?_
  refine x_CR.mono h (fun t1 a2 h => ?_)
  refine o_astore_nR (k := 2) (L' := [(2, x_rf a2), (0, .ref 0), (1, .int v1)]) (by decide +kernel) (by decide) rfl ?_
  refine o_aload_nR (k := 2) 0 (by decide +kernel) rfl ?_
  refine o_ifnonnull (r := a2) (off := 6) 13 (by decide +kernel) (by decide) (fun c3 e => ?_) (fun e => ?_)
  · replace h := h.1 c3 e
    obtain ⟨hsc3, h⟩ := h
    subst e
    refine o_iconst (n := 0) (v := 0) (by decide +kernel) (by decide) ?_
    refine o_istore_n (k := 3) (L' := [(3, .int 0), (2, .ref c3), (0, .ref 0), (1, .int v1)]) (by decide +kernel) (by decide) rfl ?_
    refine o_sub [2, 1, 0] rfl ?_
    exact h
  · replace h := h.2 e
    subst e
    refine o_bipush (n := -2) (v := (-2)) (by decide +kernel) (by decide) ?_
    exact f_iret (ty := .int) rfl rfl (by decide +kernel) rfl h
set_option maxRecDepth 20000 in
theorem k_X11_played_15 {d : Nat} {K : x_T → Int32 → Prop} {r2 : Nat} (h2 : x_sh r2 = (9, 10)) {v3 : Int32} {τ : x_T} (h : (τ.1 r2 4 ≤ v3 → K τ (-1)) ∧ (¬ τ.1 r2 4 ≤ v3 → x_CI d mX11_isDone [.ref 0, .ref r2, .int v3] τ (fun t1 a2 => (¬ a2 = 0 → ∀ y3, y3 = v3 + 1 → (x_WI (d + 1) mX11_played K 15 [(0, .ref 0), (2, .ref r2), (3, .int y3)] [] t1)) ∧ (a2 = 0 → K t1 v3)))) : x_WI (d + 1) mX11_played K 15 [(0, .ref 0), (2, .ref r2), (3, .int v3)] [] τ := by
  refine o_iload_n (k := 3) 2 (by decide +kernel) rfl ?_
  refine o_aload_n (k := 2) 1 (by decide +kernel) rfl ?_
  refine f_getI (t := 9) (k := 4) (i := 186) (by decide +kernel) h2 rfl (by decide) lk_317 rfl ?_
  refine o_icmp_ge (off := 20) 40 (by decide +kernel) (by decide) (fun q => ?_) (fun q => ?_)
  · replace h := h.1 q
    refine o_iconst (n := -1) (v := (-1)) (by decide +kernel) (by decide) ?_
    exact f_iret (ty := .int) rfl rfl (by decide +kernel) rfl h
  · replace h := h.2 q
    refine o_aload_n (k := 0) 0 (by decide +kernel) rfl ?_
    refine o_aload_n (k := 2) 1 (by decide +kernel) rfl ?_
    refine o_iload_n (k := 3) 2 (by decide +kernel) rfl ?_
    refine f_callVI (μ' := mX11_isDone) (i := 189) (vs := [.ref r2, .int v3]) (by decide +kernel) lk_1063 (vok_mX11_isDone) sh_0 rfl rfl rfl rfl (Nat.le_of_ble_eq_true rfl) ?_
    refine x_CI.mono h (fun t1 a2 h => ?_)
    refine o_if_ne (off := 5) 34 (by decide +kernel) (by decide) (fun q => ?_) (fun q => ?_)
    · replace h := h.1 q
      obtain ⟨y3, ey3⟩ : ∃ y : Int32, y = v3 + 1 := ⟨_, rfl⟩
      replace h := h y3 ey3
      refine o_iinc (i := 3) (n := 1) (v := y3) (L' := [(3, .int y3), (0, .ref 0), (2, .ref r2)]) 2 (by decide +kernel) rfl (by rw [ey3]; rfl) (by decide) rfl ?_
      refine o_goto (off := -22) 15 (by decide +kernel) (by decide) ?_
      refine o_sub [1, 2, 0] rfl ?_
      exact h
    · replace h := h.2 q
      refine o_iload_n (k := 3) 2 (by decide +kernel) rfl ?_
      exact f_iret (ty := .int) rfl rfl (by decide +kernel) rfl h
set_option maxRecDepth 20000 in
theorem e_X11_undo {d : Nat} {K : x_T → Int32 → Prop}  {τ : x_T} (h : x_CI d mX7_takeBack [.ref 17, .ref 13] τ (fun t1 a2 => K t1 a2)) : x_CI (d + 1) mX11_undo [.ref 0] τ K := by
  refine x_CI_of (by decide) (Nat.le_of_ble_eq_true rfl) ?_
  show x_WI (d + 1) mX11_undo K 0 [(0, .ref 0)] [] τ
  refine o_aload_n (k := 0) 0 (by decide +kernel) rfl ?_
  refine f_getR (r := 17) (t := 11) (k := 2) (i := 26) (by decide +kernel) sh_0 rfl (by decide) lk_492 (by simp [x_ty, tyX11]) (gr_11_2 sh_0) ?_
  refine o_aload_n (k := 0) 0 (by decide +kernel) rfl ?_
  refine f_getR (r := 13) (t := 11) (k := 1) (i := 19) (by decide +kernel) sh_0 rfl (by decide) lk_491 (by simp [x_ty, tyX11]) (gr_11_1 sh_0) ?_
  refine f_callVI (μ' := mX7_takeBack) (i := 193) (vs := [.ref 13]) (by decide +kernel) lk_1078 (vok_mX7_takeBack) sh_17 rfl rfl rfl rfl (Nat.le_of_ble_eq_true rfl) ?_
  refine x_CI.mono h (fun t1 a2 h => ?_)
  exact f_iret (ty := .int) rfl rfl (by decide +kernel) rfl h
theorem d_X11_of_16 : decode mX11_of.2.1 16 = .ok (.tableswitch (92) (0) (4) #[(36), (45), (54), (63), (79)], 36) := by decide +kernel
set_option maxRecDepth 20000 in
theorem e_X11_of {d : Nat} {K : x_T → Int32 → Prop} {v1 : Int32} {v2 : Int32} {τ : x_T} (h : x_CI d mX3_isHouse [.ref 1, .int v1] τ (fun t1 a2 => (¬ a2 = 0 → ((v2 = 0 → x_CI d mX3_hillOf [.ref 1, .int v1] t1 (fun t3 a4 => K t3 a4)) ∧ (¬ v2 = 0 → (v2 = 1 → x_CI d mX1_purseOf [.ref 13, .int v1] t1 (fun t5 a6 => K t5 a6)) ∧ (¬ v2 = 1 → (v2 = 2 → x_CI d mX1_paleOf [.ref 13, .int v1] t1 (fun t7 a8 => K t7 a8)) ∧ (¬ v2 = 2 → (v2 = 3 → x_CI d mX3_hourBy [.ref 1, .int (t1.1 13 0), .int v1] t1 (fun t9 a10 => K t9 a10)) ∧ (¬ v2 = 3 → (v2 = 4 → x_CI d mX4_earning [.ref 329, .ref 13, .int v1] t1 (fun t11 a12 => K t11 a12)) ∧ (¬ v2 = 4 → (K t1 (-1000))))))))) ∧ (a2 = 0 → K t1 (-1000)))) : x_CI (d + 1) mX11_of [.ref 0, .int v1, .int v2] τ K := by
  refine x_CI_of (by decide) (Nat.le_of_ble_eq_true rfl) ?_
  show x_WI (d + 1) mX11_of K 0 [(0, .ref 0), (1, .int v1), (2, .int v2)] [] τ
  refine o_aload_n (k := 0) 0 (by decide +kernel) rfl ?_
  refine f_getR (r := 1) (t := 11) (k := 0) (i := 10) (by decide +kernel) sh_0 rfl (by decide) lk_490 (by simp [x_ty, tyX11]) (gr_11_0 sh_0) ?_
  refine o_iload_n (k := 1) 1 (by decide +kernel) rfl ?_
  refine f_callVI (μ' := mX3_isHouse) (i := 114) (vs := [.int v1]) (by decide +kernel) lk_568 (vok_mX3_isHouse) sh_1 rfl rfl rfl rfl (Nat.le_of_ble_eq_true rfl) ?_
  refine x_CI.mono h (fun t1 a2 h => ?_)
  refine o_if_ne (off := 7) 15 (by decide +kernel) (by decide) (fun q => ?_) (fun q => ?_)
  · replace h := h.1 q
    refine o_iload_n (k := 2) 2 (by decide +kernel) rfl ?_
    by_cases c0 : v2 = 0
    · replace h := h.1 c0
      refine o_tableIn (off := 36) (tgt := 52) (d_X11_of_16) (by rw [c0]; decide) (by rw [c0]; decide) (by rw [c0]; rfl) (by decide) ?_
      refine o_aload_n (k := 0) 0 (by decide +kernel) rfl ?_
      refine f_getR (r := 1) (t := 11) (k := 0) (i := 10) (by decide +kernel) sh_0 rfl (by decide) lk_490 (by simp [x_ty, tyX11]) (gr_11_0 sh_0) ?_
      refine o_iload_n (k := 1) 1 (by decide +kernel) rfl ?_
      refine f_callVI (μ' := mX3_hillOf) (i := 196) (vs := [.int v1]) (by decide +kernel) lk_1086 (vok_mX3_hillOf) sh_1 rfl rfl rfl rfl (Nat.le_of_ble_eq_true rfl) ?_
      refine x_CI.mono h (fun t3 a4 h => ?_)
      exact f_iret (ty := .int) rfl rfl (by decide +kernel) rfl h
    replace h := h.2 c0
    by_cases c1 : v2 = 1
    · replace h := h.1 c1
      refine o_tableIn (off := 45) (tgt := 61) (d_X11_of_16) (by rw [c1]; decide) (by rw [c1]; decide) (by rw [c1]; rfl) (by decide) ?_
      refine o_aload_n (k := 0) 0 (by decide +kernel) rfl ?_
      refine f_getR (r := 13) (t := 11) (k := 1) (i := 19) (by decide +kernel) sh_0 rfl (by decide) lk_491 (by simp [x_ty, tyX11]) (gr_11_1 sh_0) ?_
      refine o_iload_n (k := 1) 1 (by decide +kernel) rfl ?_
      refine f_callVI (μ' := mX1_purseOf) (i := 199) (vs := [.int v1]) (by decide +kernel) lk_1087 (vok_mX1_purseOf) sh_13 rfl rfl rfl rfl (Nat.le_of_ble_eq_true rfl) ?_
      refine x_CI.mono h (fun t5 a6 h => ?_)
      exact f_iret (ty := .int) rfl rfl (by decide +kernel) rfl h
    replace h := h.2 c1
    by_cases c2 : v2 = 2
    · replace h := h.1 c2
      refine o_tableIn (off := 54) (tgt := 70) (d_X11_of_16) (by rw [c2]; decide) (by rw [c2]; decide) (by rw [c2]; rfl) (by decide) ?_
      refine o_aload_n (k := 0) 0 (by decide +kernel) rfl ?_
      refine f_getR (r := 13) (t := 11) (k := 1) (i := 19) (by decide +kernel) sh_0 rfl (by decide) lk_491 (by simp [x_ty, tyX11]) (gr_11_1 sh_0) ?_
      refine o_iload_n (k := 1) 1 (by decide +kernel) rfl ?_
      refine f_callVI (μ' := mX1_paleOf) (i := 202) (vs := [.int v1]) (by decide +kernel) lk_1088 (vok_mX1_paleOf) sh_13 rfl rfl rfl rfl (Nat.le_of_ble_eq_true rfl) ?_
      refine x_CI.mono h (fun t7 a8 h => ?_)
      exact f_iret (ty := .int) rfl rfl (by decide +kernel) rfl h
    replace h := h.2 c2
    by_cases c3 : v2 = 3
    · replace h := h.1 c3
      refine o_tableIn (off := 63) (tgt := 79) (d_X11_of_16) (by rw [c3]; decide) (by rw [c3]; decide) (by rw [c3]; rfl) (by decide) ?_
      refine o_aload_n (k := 0) 0 (by decide +kernel) rfl ?_
      refine f_getR (r := 1) (t := 11) (k := 0) (i := 10) (by decide +kernel) sh_0 rfl (by decide) lk_490 (by simp [x_ty, tyX11]) (gr_11_0 sh_0) ?_
      refine o_aload_n (k := 0) 0 (by decide +kernel) rfl ?_
      refine f_getR (r := 13) (t := 11) (k := 1) (i := 19) (by decide +kernel) sh_0 rfl (by decide) lk_491 (by simp [x_ty, tyX11]) (gr_11_1 sh_0) ?_
      refine f_getI (t := 1) (k := 0) (i := 205) (by decide +kernel) sh_13 rfl (by decide) lk_229 rfl ?_
      refine o_iload_n (k := 1) 1 (by decide +kernel) rfl ?_
      refine f_callVI (μ' := mX3_hourBy) (i := 208) (vs := [.int (t1.1 13 0), .int v1]) (by decide +kernel) lk_1089 (vok_mX3_hourBy) sh_1 rfl rfl rfl rfl (Nat.le_of_ble_eq_true rfl) ?_
      refine x_CI.mono h (fun t9 a10 h => ?_)
      exact f_iret (ty := .int) rfl rfl (by decide +kernel) rfl h
    replace h := h.2 c3
    by_cases c4 : v2 = 4
    · replace h := h.1 c4
      refine o_tableIn (off := 79) (tgt := 95) (d_X11_of_16) (by rw [c4]; decide) (by rw [c4]; decide) (by rw [c4]; rfl) (by decide) ?_
      refine o_aload_n (k := 0) 0 (by decide +kernel) rfl ?_
      refine f_getR (r := 329) (t := 11) (k := 13) (i := 80) (by decide +kernel) sh_0 rfl (by decide) lk_503 (by simp [x_ty, tyX11]) (gr_11_13 sh_0) ?_
      refine o_aload_n (k := 0) 0 (by decide +kernel) rfl ?_
      refine f_getR (r := 13) (t := 11) (k := 1) (i := 19) (by decide +kernel) sh_0 rfl (by decide) lk_491 (by simp [x_ty, tyX11]) (gr_11_1 sh_0) ?_
      refine o_iload_n (k := 1) 1 (by decide +kernel) rfl ?_
      refine f_callVI (μ' := mX4_earning) (i := 212) (vs := [.ref 13, .int v1]) (by decide +kernel) lk_1090 (vok_mX4_earning) sh_329 rfl rfl rfl rfl (Nat.le_of_ble_eq_true rfl) ?_
      refine x_CI.mono h (fun t11 a12 h => ?_)
      exact f_iret (ty := .int) rfl rfl (by decide +kernel) rfl h
    replace h := h.2 c4
    refine o_tableOut (tgt := 108) (d_X11_of_16) (by have := x_ne (z := 0) (by decide) c0; have := x_ne (z := 1) (by decide) c1; have := x_ne (z := 2) (by decide) c2; have := x_ne (z := 3) (by decide) c3; have := x_ne (z := 4) (by decide) c4; omega) (by decide) ?_
    refine o_sipush (n := -1000) (v := (-1000)) (by decide +kernel) (by decide) ?_
    exact f_iret (ty := .int) rfl rfl (by decide +kernel) rfl h
  · replace h := h.2 q
    refine o_sipush (n := -1000) (v := (-1000)) (by decide +kernel) (by decide) ?_
    exact f_iret (ty := .int) rfl rfl (by decide +kernel) rfl h
theorem d_X11_two_25 : decode mX11_two.2.1 25 = .ok (.tableswitch (61) (0) (2) #[(27), (37), (47)], 27) := by decide +kernel
set_option maxRecDepth 20000 in
theorem e_X11_two {d : Nat} {K : x_T → Int32 → Prop} {v1 : Int32} {v2 : Int32} {v3 : Int32} {τ : x_T} (h : x_CI d mX3_isHouse [.ref 1, .int v1] τ (fun t1 a2 => (a2 = 0 → K t1 (-1)) ∧ (¬ a2 = 0 → x_CI d mX3_isHouse [.ref 1, .int v2] t1 (fun t3 a4 => (¬ a4 = 0 → ((v3 = 0 → x_CI d mX3_wayBetween [.ref 1, .int v1, .int v2] t3 (fun t5 a6 => K t5 a6)) ∧ (¬ v3 = 0 → (v3 = 1 → x_CI d mX3_laneBetween [.ref 1, .int v1, .int v2] t3 (fun t7 a8 => K t7 a8)) ∧ (¬ v3 = 1 → (v3 = 2 → x_CI d mX4_warmth [.ref 329, .ref 13, .int v1, .int v2] t3 (fun t9 a10 => K t9 a10)) ∧ (¬ v3 = 2 → (K t3 (-1))))))) ∧ (a4 = 0 → K t3 (-1)))))) : x_CI (d + 1) mX11_two [.ref 0, .int v1, .int v2, .int v3] τ K := by
  refine x_CI_of (by decide) (Nat.le_of_ble_eq_true rfl) ?_
  show x_WI (d + 1) mX11_two K 0 [(0, .ref 0), (1, .int v1), (2, .int v2), (3, .int v3)] [] τ
  refine o_aload_n (k := 0) 0 (by decide +kernel) rfl ?_
  refine f_getR (r := 1) (t := 11) (k := 0) (i := 10) (by decide +kernel) sh_0 rfl (by decide) lk_490 (by simp [x_ty, tyX11]) (gr_11_0 sh_0) ?_
  refine o_iload_n (k := 1) 1 (by decide +kernel) rfl ?_
  refine f_callVI (μ' := mX3_isHouse) (i := 114) (vs := [.int v1]) (by decide +kernel) lk_568 (vok_mX3_isHouse) sh_1 rfl rfl rfl rfl (Nat.le_of_ble_eq_true rfl) ?_
  refine x_CI.mono h (fun t1 a2 h => ?_)
  refine o_if_eq (off := 14) 22 (by decide +kernel) (by decide) (fun q => ?_) (fun q => ?_)
  · replace h := h.1 q
    refine o_iconst (n := -1) (v := (-1)) (by decide +kernel) (by decide) ?_
    exact f_iret (ty := .int) rfl rfl (by decide +kernel) rfl h
  · replace h := h.2 q
    refine o_aload_n (k := 0) 0 (by decide +kernel) rfl ?_
    refine f_getR (r := 1) (t := 11) (k := 0) (i := 10) (by decide +kernel) sh_0 rfl (by decide) lk_490 (by simp [x_ty, tyX11]) (gr_11_0 sh_0) ?_
    refine o_iload_n (k := 2) 2 (by decide +kernel) rfl ?_
    refine f_callVI (μ' := mX3_isHouse) (i := 114) (vs := [.int v2]) (by decide +kernel) lk_568 (vok_mX3_isHouse) sh_1 rfl rfl rfl rfl (Nat.le_of_ble_eq_true rfl) ?_
    refine x_CI.mono h (fun t3 a4 h => ?_)
    refine o_if_ne (off := 5) 24 (by decide +kernel) (by decide) (fun q => ?_) (fun q => ?_)
    · replace h := h.1 q
      refine o_iload_n (k := 3) 3 (by decide +kernel) rfl ?_
      by_cases c0 : v3 = 0
      · replace h := h.1 c0
        refine o_tableIn (off := 27) (tgt := 52) (d_X11_two_25) (by rw [c0]; decide) (by rw [c0]; decide) (by rw [c0]; rfl) (by decide) ?_
        refine o_aload_n (k := 0) 0 (by decide +kernel) rfl ?_
        refine f_getR (r := 1) (t := 11) (k := 0) (i := 10) (by decide +kernel) sh_0 rfl (by decide) lk_490 (by simp [x_ty, tyX11]) (gr_11_0 sh_0) ?_
        refine o_iload_n (k := 1) 1 (by decide +kernel) rfl ?_
        refine o_iload_n (k := 2) 2 (by decide +kernel) rfl ?_
        refine f_callVI (μ' := mX3_wayBetween) (i := 216) (vs := [.int v1, .int v2]) (by decide +kernel) lk_1095 (vok_mX3_wayBetween) sh_1 rfl rfl rfl rfl (Nat.le_of_ble_eq_true rfl) ?_
        refine x_CI.mono h (fun t5 a6 h => ?_)
        exact f_iret (ty := .int) rfl rfl (by decide +kernel) rfl h
      replace h := h.2 c0
      by_cases c1 : v3 = 1
      · replace h := h.1 c1
        refine o_tableIn (off := 37) (tgt := 62) (d_X11_two_25) (by rw [c1]; decide) (by rw [c1]; decide) (by rw [c1]; rfl) (by decide) ?_
        refine o_aload_n (k := 0) 0 (by decide +kernel) rfl ?_
        refine f_getR (r := 1) (t := 11) (k := 0) (i := 10) (by decide +kernel) sh_0 rfl (by decide) lk_490 (by simp [x_ty, tyX11]) (gr_11_0 sh_0) ?_
        refine o_iload_n (k := 1) 1 (by decide +kernel) rfl ?_
        refine o_iload_n (k := 2) 2 (by decide +kernel) rfl ?_
        refine f_callVI (μ' := mX3_laneBetween) (i := 219) (vs := [.int v1, .int v2]) (by decide +kernel) lk_1096 (vok_mX3_laneBetween) sh_1 rfl rfl rfl rfl (Nat.le_of_ble_eq_true rfl) ?_
        refine x_CI.mono h (fun t7 a8 h => ?_)
        exact f_iret (ty := .int) rfl rfl (by decide +kernel) rfl h
      replace h := h.2 c1
      by_cases c2 : v3 = 2
      · replace h := h.1 c2
        refine o_tableIn (off := 47) (tgt := 72) (d_X11_two_25) (by rw [c2]; decide) (by rw [c2]; decide) (by rw [c2]; rfl) (by decide) ?_
        refine o_aload_n (k := 0) 0 (by decide +kernel) rfl ?_
        refine f_getR (r := 329) (t := 11) (k := 13) (i := 80) (by decide +kernel) sh_0 rfl (by decide) lk_503 (by simp [x_ty, tyX11]) (gr_11_13 sh_0) ?_
        refine o_aload_n (k := 0) 0 (by decide +kernel) rfl ?_
        refine f_getR (r := 13) (t := 11) (k := 1) (i := 19) (by decide +kernel) sh_0 rfl (by decide) lk_491 (by simp [x_ty, tyX11]) (gr_11_1 sh_0) ?_
        refine o_iload_n (k := 1) 1 (by decide +kernel) rfl ?_
        refine o_iload_n (k := 2) 2 (by decide +kernel) rfl ?_
        refine f_callVI (μ' := mX4_warmth) (i := 222) (vs := [.ref 13, .int v1, .int v2]) (by decide +kernel) lk_1097 (vok_mX4_warmth) sh_329 rfl rfl rfl rfl (Nat.le_of_ble_eq_true rfl) ?_
        refine x_CI.mono h (fun t9 a10 h => ?_)
        exact f_iret (ty := .int) rfl rfl (by decide +kernel) rfl h
      replace h := h.2 c2
      refine o_tableOut (tgt := 86) (d_X11_two_25) (by have := x_ne (z := 0) (by decide) c0; have := x_ne (z := 1) (by decide) c1; have := x_ne (z := 2) (by decide) c2; omega) (by decide) ?_
      refine o_iconst (n := -1) (v := (-1)) (by decide +kernel) (by decide) ?_
      exact f_iret (ty := .int) rfl rfl (by decide +kernel) rfl h
    · replace h := h.2 q
      refine o_iconst (n := -1) (v := (-1)) (by decide +kernel) (by decide) ?_
      exact f_iret (ty := .int) rfl rfl (by decide +kernel) rfl h
theorem d_X11_barrow_1 : decode mX11_barrow.2.1 1 = .ok (.tableswitch (105) (0) (5) #[(39), (47), (55), (63), (71), (79)], 39) := by decide +kernel
set_option maxRecDepth 20000 in
theorem e_X11_barrow {d : Nat} {K : x_T → Int32 → Prop} {v1 : Int32} {τ : x_T} (h : ((v1 = 0 → K τ (τ.1 13 0)) ∧ (¬ v1 = 0 → (v1 = 1 → K τ (τ.1 13 1)) ∧ (¬ v1 = 1 → (v1 = 2 → K τ (τ.1 13 2)) ∧ (¬ v1 = 2 → (v1 = 3 → K τ (τ.1 13 3)) ∧ (¬ v1 = 3 → (v1 = 4 → K τ (τ.1 13 4)) ∧ (¬ v1 = 4 → (v1 = 5 → (τ.1 13 2 ≤ 0 → K τ 0) ∧ (¬ τ.1 13 2 ≤ 0 → x_CI d mX4_wearing [.ref 329, .ref 13] τ (fun t1 a2 => K t1 a2))) ∧ (¬ v1 = 5 → (K τ (-2)))))))))) : x_CI (d + 1) mX11_barrow [.ref 0, .int v1] τ K := by
  refine x_CI_of (by decide) (Nat.le_of_ble_eq_true rfl) ?_
  show x_WI (d + 1) mX11_barrow K 0 [(0, .ref 0), (1, .int v1)] [] τ
  refine o_iload_n (k := 1) 1 (by decide +kernel) rfl ?_
  by_cases c0 : v1 = 0
  · replace h := h.1 c0
    refine o_tableIn (off := 39) (tgt := 40) (d_X11_barrow_1) (by rw [c0]; decide) (by rw [c0]; decide) (by rw [c0]; rfl) (by decide) ?_
    refine o_aload_n (k := 0) 0 (by decide +kernel) rfl ?_
    refine f_getR (r := 13) (t := 11) (k := 1) (i := 19) (by decide +kernel) sh_0 rfl (by decide) lk_491 (by simp [x_ty, tyX11]) (gr_11_1 sh_0) ?_
    refine f_getI (t := 1) (k := 0) (i := 205) (by decide +kernel) sh_13 rfl (by decide) lk_229 rfl ?_
    exact f_iret (ty := .int) rfl rfl (by decide +kernel) rfl h
  replace h := h.2 c0
  by_cases c1 : v1 = 1
  · replace h := h.1 c1
    refine o_tableIn (off := 47) (tgt := 48) (d_X11_barrow_1) (by rw [c1]; decide) (by rw [c1]; decide) (by rw [c1]; rfl) (by decide) ?_
    refine o_aload_n (k := 0) 0 (by decide +kernel) rfl ?_
    refine f_getR (r := 13) (t := 11) (k := 1) (i := 19) (by decide +kernel) sh_0 rfl (by decide) lk_491 (by simp [x_ty, tyX11]) (gr_11_1 sh_0) ?_
    refine f_getI (t := 1) (k := 1) (i := 226) (by decide +kernel) sh_13 rfl (by decide) lk_232 rfl ?_
    exact f_iret (ty := .int) rfl rfl (by decide +kernel) rfl h
  replace h := h.2 c1
  by_cases c2 : v1 = 2
  · replace h := h.1 c2
    refine o_tableIn (off := 55) (tgt := 56) (d_X11_barrow_1) (by rw [c2]; decide) (by rw [c2]; decide) (by rw [c2]; rfl) (by decide) ?_
    refine o_aload_n (k := 0) 0 (by decide +kernel) rfl ?_
    refine f_getR (r := 13) (t := 11) (k := 1) (i := 19) (by decide +kernel) sh_0 rfl (by decide) lk_491 (by simp [x_ty, tyX11]) (gr_11_1 sh_0) ?_
    refine f_getI (t := 1) (k := 2) (i := 137) (by decide +kernel) sh_13 rfl (by decide) lk_236 rfl ?_
    exact f_iret (ty := .int) rfl rfl (by decide +kernel) rfl h
  replace h := h.2 c2
  by_cases c3 : v1 = 3
  · replace h := h.1 c3
    refine o_tableIn (off := 63) (tgt := 64) (d_X11_barrow_1) (by rw [c3]; decide) (by rw [c3]; decide) (by rw [c3]; rfl) (by decide) ?_
    refine o_aload_n (k := 0) 0 (by decide +kernel) rfl ?_
    refine f_getR (r := 13) (t := 11) (k := 1) (i := 19) (by decide +kernel) sh_0 rfl (by decide) lk_491 (by simp [x_ty, tyX11]) (gr_11_1 sh_0) ?_
    refine f_getI (t := 1) (k := 3) (i := 229) (by decide +kernel) sh_13 rfl (by decide) lk_239 rfl ?_
    exact f_iret (ty := .int) rfl rfl (by decide +kernel) rfl h
  replace h := h.2 c3
  by_cases c4 : v1 = 4
  · replace h := h.1 c4
    refine o_tableIn (off := 71) (tgt := 72) (d_X11_barrow_1) (by rw [c4]; decide) (by rw [c4]; decide) (by rw [c4]; rfl) (by decide) ?_
    refine o_aload_n (k := 0) 0 (by decide +kernel) rfl ?_
    refine f_getR (r := 13) (t := 11) (k := 1) (i := 19) (by decide +kernel) sh_0 rfl (by decide) lk_491 (by simp [x_ty, tyX11]) (gr_11_1 sh_0) ?_
    refine f_getI (t := 1) (k := 4) (i := 143) (by decide +kernel) sh_13 rfl (by decide) lk_243 rfl ?_
    exact f_iret (ty := .int) rfl rfl (by decide +kernel) rfl h
  replace h := h.2 c4
  by_cases c5 : v1 = 5
  · replace h := h.1 c5
    refine o_tableIn (off := 79) (tgt := 80) (d_X11_barrow_1) (by rw [c5]; decide) (by rw [c5]; decide) (by rw [c5]; rfl) (by decide) ?_
    refine o_aload_n (k := 0) 0 (by decide +kernel) rfl ?_
    refine f_getR (r := 13) (t := 11) (k := 1) (i := 19) (by decide +kernel) sh_0 rfl (by decide) lk_491 (by simp [x_ty, tyX11]) (gr_11_1 sh_0) ?_
    refine f_getI (t := 1) (k := 2) (i := 137) (by decide +kernel) sh_13 rfl (by decide) lk_236 rfl ?_
    refine o_if_le (off := 17) 104 (by decide +kernel) (by decide) (fun q => ?_) (fun q => ?_)
    · replace h := h.1 q
      refine o_iconst (n := 0) (v := 0) (by decide +kernel) (by decide) ?_
      exact f_iret (ty := .int) rfl rfl (by decide +kernel) rfl h
    · replace h := h.2 q
      refine o_aload_n (k := 0) 0 (by decide +kernel) rfl ?_
      refine f_getR (r := 329) (t := 11) (k := 13) (i := 80) (by decide +kernel) sh_0 rfl (by decide) lk_503 (by simp [x_ty, tyX11]) (gr_11_13 sh_0) ?_
      refine o_aload_n (k := 0) 0 (by decide +kernel) rfl ?_
      refine f_getR (r := 13) (t := 11) (k := 1) (i := 19) (by decide +kernel) sh_0 rfl (by decide) lk_491 (by simp [x_ty, tyX11]) (gr_11_1 sh_0) ?_
      refine f_callVI (μ' := mX4_wearing) (i := 232) (vs := [.ref 13]) (by decide +kernel) lk_1105 (vok_mX4_wearing) sh_329 rfl rfl rfl rfl (Nat.le_of_ble_eq_true rfl) ?_
      refine x_CI.mono h (fun t1 a2 h => ?_)
      refine o_goto (off := 4) 105 (by decide +kernel) (by decide) ?_
      exact f_iret (ty := .int) rfl rfl (by decide +kernel) rfl h
  replace h := h.2 c5
  refine o_tableOut (tgt := 106) (d_X11_barrow_1) (by have := x_ne (z := 0) (by decide) c0; have := x_ne (z := 1) (by decide) c1; have := x_ne (z := 2) (by decide) c2; have := x_ne (z := 3) (by decide) c3; have := x_ne (z := 4) (by decide) c4; have := x_ne (z := 5) (by decide) c5; omega) (by decide) ?_
  refine o_bipush (n := -2) (v := (-2)) (by decide +kernel) (by decide) ?_
  exact f_iret (ty := .int) rfl rfl (by decide +kernel) rfl h
set_option maxRecDepth 20000 in
theorem e_X11_hard {d : Nat} {K : x_T → Int32 → Prop} {v1 : Int32} {v2 : Int32} {v3 : Int32} {τ : x_T} (h : x_CI d mX3_isPusher [.ref 1, .int v3] τ (fun t1 a2 => (a2 = 0 → K t1 (-1)) ∧ (¬ a2 = 0 → x_CI d mX3_laneBetween [.ref 1, .int v1, .int v2] t1 (fun t3 a4 => (¬ a4 = 0 → x_CI d mX4_hardness [.ref 329, .ref 13, .int v1, .int v2, .int v3] t3 (fun t5 a6 => K t5 a6)) ∧ (a4 = 0 → K t3 (-1)))))) : x_CI (d + 1) mX11_hard [.ref 0, .int v1, .int v2, .int v3] τ K := by
  refine x_CI_of (by decide) (Nat.le_of_ble_eq_true rfl) ?_
  show x_WI (d + 1) mX11_hard K 0 [(0, .ref 0), (1, .int v1), (2, .int v2), (3, .int v3)] [] τ
  refine o_aload_n (k := 0) 0 (by decide +kernel) rfl ?_
  refine f_getR (r := 1) (t := 11) (k := 0) (i := 10) (by decide +kernel) sh_0 rfl (by decide) lk_490 (by simp [x_ty, tyX11]) (gr_11_0 sh_0) ?_
  refine o_iload_n (k := 3) 3 (by decide +kernel) rfl ?_
  refine f_callVI (μ' := mX3_isPusher) (i := 235) (vs := [.int v3]) (by decide +kernel) lk_1110 (vok_mX3_isPusher) sh_1 rfl rfl rfl rfl (Nat.le_of_ble_eq_true rfl) ?_
  refine x_CI.mono h (fun t1 a2 h => ?_)
  refine o_if_eq (off := 15) 23 (by decide +kernel) (by decide) (fun q => ?_) (fun q => ?_)
  · replace h := h.1 q
    refine o_iconst (n := -1) (v := (-1)) (by decide +kernel) (by decide) ?_
    exact f_iret (ty := .int) rfl rfl (by decide +kernel) rfl h
  · replace h := h.2 q
    refine o_aload_n (k := 0) 0 (by decide +kernel) rfl ?_
    refine f_getR (r := 1) (t := 11) (k := 0) (i := 10) (by decide +kernel) sh_0 rfl (by decide) lk_490 (by simp [x_ty, tyX11]) (gr_11_0 sh_0) ?_
    refine o_iload_n (k := 1) 1 (by decide +kernel) rfl ?_
    refine o_iload_n (k := 2) 2 (by decide +kernel) rfl ?_
    refine f_callVI (μ' := mX3_laneBetween) (i := 219) (vs := [.int v1, .int v2]) (by decide +kernel) lk_1096 (vok_mX3_laneBetween) sh_1 rfl rfl rfl rfl (Nat.le_of_ble_eq_true rfl) ?_
    refine x_CI.mono h (fun t3 a4 h => ?_)
    refine o_if_ne (off := 5) 25 (by decide +kernel) (by decide) (fun q => ?_) (fun q => ?_)
    · replace h := h.1 q
      refine o_aload_n (k := 0) 0 (by decide +kernel) rfl ?_
      refine f_getR (r := 329) (t := 11) (k := 13) (i := 80) (by decide +kernel) sh_0 rfl (by decide) lk_503 (by simp [x_ty, tyX11]) (gr_11_13 sh_0) ?_
      refine o_aload_n (k := 0) 0 (by decide +kernel) rfl ?_
      refine f_getR (r := 13) (t := 11) (k := 1) (i := 19) (by decide +kernel) sh_0 rfl (by decide) lk_491 (by simp [x_ty, tyX11]) (gr_11_1 sh_0) ?_
      refine o_iload_n (k := 1) 1 (by decide +kernel) rfl ?_
      refine o_iload_n (k := 2) 2 (by decide +kernel) rfl ?_
      refine o_iload_n (k := 3) 3 (by decide +kernel) rfl ?_
      refine f_callVI (μ' := mX4_hardness) (i := 238) (vs := [.ref 13, .int v1, .int v2, .int v3]) (by decide +kernel) lk_1111 (vok_mX4_hardness) sh_329 rfl rfl rfl rfl (Nat.le_of_ble_eq_true rfl) ?_
      refine x_CI.mono h (fun t5 a6 h => ?_)
      exact f_iret (ty := .int) rfl rfl (by decide +kernel) rfl h
    · replace h := h.2 q
      refine o_iconst (n := -1) (v := (-1)) (by decide +kernel) (by decide) ?_
      exact f_iret (ty := .int) rfl rfl (by decide +kernel) rfl h
set_option maxRecDepth 20000 in
theorem e_X11_book {d : Nat} {K : x_T → Int32 → Prop} {v1 : Int32} {v2 : Int32} {τ : x_T} (h : (¬ v1 = (-1) → x_CI d mX1_debtWritten [.ref 13, .int v1, .int v2] τ (fun t1 a2 => K t1 a2)) ∧ (v1 = (-1) → K τ (τ.1 13 9))) : x_CI (d + 1) mX11_book [.ref 0, .int v1, .int v2] τ K := by
  refine x_CI_of (by decide) (Nat.le_of_ble_eq_true rfl) ?_
  show x_WI (d + 1) mX11_book K 0 [(0, .ref 0), (1, .int v1), (2, .int v2)] [] τ
  refine o_iload_n (k := 1) 1 (by decide +kernel) rfl ?_
  refine o_iconst (n := -1) (v := (-1)) (by decide +kernel) (by decide) ?_
  refine o_icmp_ne (off := 13) 15 (by decide +kernel) (by decide) (fun q => ?_) (fun q => ?_)
  · replace h := h.1 q
    refine o_aload_n (k := 0) 0 (by decide +kernel) rfl ?_
    refine f_getR (r := 13) (t := 11) (k := 1) (i := 19) (by decide +kernel) sh_0 rfl (by decide) lk_491 (by simp [x_ty, tyX11]) (gr_11_1 sh_0) ?_
    refine o_iload_n (k := 1) 1 (by decide +kernel) rfl ?_
    refine o_iload_n (k := 2) 2 (by decide +kernel) rfl ?_
    refine f_callVI (μ' := mX1_debtWritten) (i := 245) (vs := [.int v1, .int v2]) (by decide +kernel) lk_1116 (vok_mX1_debtWritten) sh_13 rfl rfl rfl rfl (Nat.le_of_ble_eq_true rfl) ?_
    refine x_CI.mono h (fun t1 a2 h => ?_)
    exact f_iret (ty := .int) rfl rfl (by decide +kernel) rfl h
  · replace h := h.2 q
    refine o_aload_n (k := 0) 0 (by decide +kernel) rfl ?_
    refine f_getR (r := 13) (t := 11) (k := 1) (i := 19) (by decide +kernel) sh_0 rfl (by decide) lk_491 (by simp [x_ty, tyX11]) (gr_11_1 sh_0) ?_
    refine f_getI (t := 1) (k := 9) (i := 242) (by decide +kernel) sh_13 rfl (by decide) lk_255 rfl ?_
    refine o_goto (off := 12) 24 (by decide +kernel) (by decide) ?_
    exact f_iret (ty := .int) rfl rfl (by decide +kernel) rfl h
theorem d_X11_foretold_87 : decode mX11_foretold.2.1 87 = .ok (.lookupswitch (43) #[(0, 25), (1, 34)], 25) := by decide +kernel
set_option maxRecDepth 20000 in
theorem e_X11_foretold {d : Nat} {K : x_T → Int32 → Prop} {v1 : Int32} {v2 : Int32} {v3 : Int32} {τ : x_T} (h : (v1 < 1 → K τ (-1000)) ∧ (¬ v1 < 1 → (60 < v1 → K τ (-1000)) ∧ (¬ 60 < v1 → x_CI d mX3_isHouse [.ref 1, .int v2] τ (fun t1 a2 => (a2 = 0 → K t1 (-1000)) ∧ (¬ a2 = 0 → (v3 < 0 → K t1 (-1000)) ∧ (¬ v3 < 0 → (v3 ≤ 2 → x_CV d mX1_copyFrom [.ref 341, .ref 13] t1 (fun t3 => x_WI (d + 1) mX11_foretold K 49 [(0, .ref 0), (1, .int v1), (2, .int v2), (3, .int v3), (4, .int 0)] [] t3)) ∧ (¬ v3 ≤ 2 → K t1 (-1000)))))))) : x_CI (d + 1) mX11_foretold [.ref 0, .int v1, .int v2, .int v3] τ K := by
  refine x_CI_of (by decide) (Nat.le_of_ble_eq_true rfl) ?_
  show x_WI (d + 1) mX11_foretold K 0 [(0, .ref 0), (1, .int v1), (2, .int v2), (3, .int v3)] [] τ
  refine o_iload_n (k := 1) 1 (by decide +kernel) rfl ?_
  refine o_iconst (n := 1) (v := 1) (by decide +kernel) (by decide) ?_
  refine o_icmp_lt (off := 29) 31 (by decide +kernel) (by decide) (fun q => ?_) (fun q => ?_)
  · replace h := h.1 q
    refine o_sipush (n := -1000) (v := (-1000)) (by decide +kernel) (by decide) ?_
    exact f_iret (ty := .int) rfl rfl (by decide +kernel) rfl h
  · replace h := h.2 q
    refine o_iload_n (k := 1) 1 (by decide +kernel) rfl ?_
    refine o_bipush (n := 60) (v := 60) (by decide +kernel) (by decide) ?_
    refine o_icmp_gt (off := 23) 31 (by decide +kernel) (by decide) (fun q => ?_) (fun q => ?_)
    · replace h := h.1 q
      refine o_sipush (n := -1000) (v := (-1000)) (by decide +kernel) (by decide) ?_
      exact f_iret (ty := .int) rfl rfl (by decide +kernel) rfl h
    · replace h := h.2 q
      refine o_aload_n (k := 0) 0 (by decide +kernel) rfl ?_
      refine f_getR (r := 1) (t := 11) (k := 0) (i := 10) (by decide +kernel) sh_0 rfl (by decide) lk_490 (by simp [x_ty, tyX11]) (gr_11_0 sh_0) ?_
      refine o_iload_n (k := 2) 2 (by decide +kernel) rfl ?_
      refine f_callVI (μ' := mX3_isHouse) (i := 114) (vs := [.int v2]) (by decide +kernel) lk_568 (vok_mX3_isHouse) sh_1 rfl rfl rfl rfl (Nat.le_of_ble_eq_true rfl) ?_
      refine x_CI.mono h (fun t1 a2 h => ?_)
      refine o_if_eq (off := 12) 31 (by decide +kernel) (by decide) (fun q => ?_) (fun q => ?_)
      · replace h := h.1 q
        refine o_sipush (n := -1000) (v := (-1000)) (by decide +kernel) (by decide) ?_
        exact f_iret (ty := .int) rfl rfl (by decide +kernel) rfl h
      · replace h := h.2 q
        refine o_iload_n (k := 3) 3 (by decide +kernel) rfl ?_
        refine o_if_lt (off := 8) 31 (by decide +kernel) (by decide) (fun q => ?_) (fun q => ?_)
        · replace h := h.1 q
          refine o_sipush (n := -1000) (v := (-1000)) (by decide +kernel) (by decide) ?_
          exact f_iret (ty := .int) rfl rfl (by decide +kernel) rfl h
        · replace h := h.2 q
          refine o_iload_n (k := 3) 3 (by decide +kernel) rfl ?_
          refine o_iconst (n := 2) (v := 2) (by decide +kernel) (by decide) ?_
          refine o_icmp_le (off := 7) 35 (by decide +kernel) (by decide) (fun q => ?_) (fun q => ?_)
          · replace h := h.1 q
            refine o_aload_n (k := 0) 0 (by decide +kernel) rfl ?_
            refine f_getR (r := 341) (t := 11) (k := 17) (i := 107) (by decide +kernel) sh_0 rfl (by decide) lk_507 (by simp [x_ty, tyX11]) (gr_11_17 sh_0) ?_
            refine o_aload_n (k := 0) 0 (by decide +kernel) rfl ?_
            refine f_getR (r := 13) (t := 11) (k := 1) (i := 19) (by decide +kernel) sh_0 rfl (by decide) lk_491 (by simp [x_ty, tyX11]) (gr_11_1 sh_0) ?_
            refine f_callVV (μ' := mX1_copyFrom) (i := 248) (vs := [.ref 13]) (by decide +kernel) lk_1124 (vok_mX1_copyFrom) sh_341 rfl rfl rfl rfl (Nat.le_of_ble_eq_true rfl) ?_
            refine x_CV.mono h (fun t3 h => ?_)
            refine o_iconst (n := 0) (v := 0) (by decide +kernel) (by decide) ?_
            refine o_istore (k := 4) (L' := [(4, .int 0), (0, .ref 0), (1, .int v1), (2, .int v2), (3, .int v3)]) (by decide +kernel) (by decide) rfl ?_
            refine o_sub [1, 2, 3, 4, 0] rfl ?_
            exact h
          · replace h := h.2 q
            refine o_sipush (n := -1000) (v := (-1000)) (by decide +kernel) (by decide) ?_
            exact f_iret (ty := .int) rfl rfl (by decide +kernel) rfl h
set_option maxRecDepth 20000 in
theorem k_X11_foretold_49 {d : Nat} {K : x_T → Int32 → Prop} {v1 : Int32} {v2 : Int32} {v3 : Int32} {v4 : Int32} {τ : x_T} (h : (v1 ≤ v4 → x_WI (d + 1) mX11_foretold K 86 [(0, .ref 0), (2, .int v2), (3, .int v3)] [] τ) ∧ (¬ v1 ≤ v4 → (9999 ≤ τ.1 341 5 → x_WI (d + 1) mX11_foretold K 86 [(0, .ref 0), (2, .int v2), (3, .int v3)] [] τ) ∧ (¬ 9999 ≤ τ.1 341 5 → x_CI d mX2_passMinute [.ref 332, .ref 341] τ (fun t1 a2 => ∀ y3, y3 = v4 + 1 → (x_WI (d + 1) mX11_foretold K 49 [(0, .ref 0), (1, .int v1), (2, .int v2), (3, .int v3), (4, .int y3)] [] t1))))) : x_WI (d + 1) mX11_foretold K 49 [(0, .ref 0), (1, .int v1), (2, .int v2), (3, .int v3), (4, .int v4)] [] τ := by
  refine o_iload (k := 4) 4 (by decide +kernel) rfl ?_
  refine o_iload_n (k := 1) 1 (by decide +kernel) rfl ?_
  refine o_icmp_ge (off := 34) 86 (by decide +kernel) (by decide) (fun q => ?_) (fun q => ?_)
  · replace h := h.1 q
    refine o_sub [0, 2, 3] rfl ?_
    exact h
  · replace h := h.2 q
    refine o_aload_n (k := 0) 0 (by decide +kernel) rfl ?_
    refine f_getR (r := 341) (t := 11) (k := 17) (i := 107) (by decide +kernel) sh_0 rfl (by decide) lk_507 (by simp [x_ty, tyX11]) (gr_11_17 sh_0) ?_
    refine f_getI (t := 1) (k := 5) (i := 146) (by decide +kernel) sh_341 rfl (by decide) lk_247 rfl ?_
    refine o_sipush (n := 9999) (v := 9999) (by decide +kernel) (by decide) ?_
    refine o_icmp_ge (off := 21) 86 (by decide +kernel) (by decide) (fun q => ?_) (fun q => ?_)
    · replace h := h.1 q
      refine o_sub [0, 2, 3] rfl ?_
      exact h
    · replace h := h.2 q
      refine o_aload_n (k := 0) 0 (by decide +kernel) rfl ?_
      refine f_getR (r := 332) (t := 11) (k := 14) (i := 89) (by decide +kernel) sh_0 rfl (by decide) lk_504 (by simp [x_ty, tyX11]) (gr_11_14 sh_0) ?_
      refine o_aload_n (k := 0) 0 (by decide +kernel) rfl ?_
      refine f_getR (r := 341) (t := 11) (k := 17) (i := 107) (by decide +kernel) sh_0 rfl (by decide) lk_507 (by simp [x_ty, tyX11]) (gr_11_17 sh_0) ?_
      refine f_callVI (μ' := mX2_passMinute) (i := 149) (vs := [.ref 341]) (by decide +kernel) lk_715 (vok_mX2_passMinute) sh_332 rfl rfl rfl rfl (Nat.le_of_ble_eq_true rfl) ?_
      refine x_CI.mono h (fun t1 a2 h => ?_)
      refine o_pop (by decide +kernel) rfl ?_
      obtain ⟨y3, ey3⟩ : ∃ y : Int32, y = v4 + 1 := ⟨_, rfl⟩
      replace h := h y3 ey3
      refine o_iinc (i := 4) (n := 1) (v := y3) (L' := [(4, .int y3), (0, .ref 0), (1, .int v1), (2, .int v2), (3, .int v3)]) 4 (by decide +kernel) rfl (by rw [ey3]; rfl) (by decide) rfl ?_
      refine o_goto (off := -34) 49 (by decide +kernel) (by decide) ?_
      refine o_sub [1, 2, 3, 4, 0] rfl ?_
      exact h
set_option maxRecDepth 20000 in
theorem k_X11_foretold_86 {d : Nat} {K : x_T → Int32 → Prop} {v2 : Int32} {v3 : Int32} {τ : x_T} (h : ((v3 = 0 → x_CI d mX1_purseOf [.ref 341, .int v2] τ (fun t1 a2 => K t1 a2)) ∧ (¬ v3 = 0 → (v3 = 1 → x_CI d mX1_paleOf [.ref 341, .int v2] τ (fun t3 a4 => K t3 a4)) ∧ (¬ v3 = 1 → (x_CI d mX3_hourBy [.ref 1, .int (τ.1 341 0), .int v2] τ (fun t5 a6 => K t5 a6)))))) : x_WI (d + 1) mX11_foretold K 86 [(0, .ref 0), (2, .int v2), (3, .int v3)] [] τ := by
  refine o_iload_n (k := 3) 2 (by decide +kernel) rfl ?_
  by_cases c0 : v3 = 0
  · replace h := h.1 c0
    refine o_lookup (off := 25) (tgt := 112) (d_X11_foretold_87) (by decide) (by rw [c0]; decide) (by decide) ?_
    refine o_aload_n (k := 0) 0 (by decide +kernel) rfl ?_
    refine f_getR (r := 341) (t := 11) (k := 17) (i := 107) (by decide +kernel) sh_0 rfl (by decide) lk_507 (by simp [x_ty, tyX11]) (gr_11_17 sh_0) ?_
    refine o_iload_n (k := 2) 1 (by decide +kernel) rfl ?_
    refine f_callVI (μ' := mX1_purseOf) (i := 199) (vs := [.int v2]) (by decide +kernel) lk_1087 (vok_mX1_purseOf) sh_341 rfl rfl rfl rfl (Nat.le_of_ble_eq_true rfl) ?_
    refine x_CI.mono h (fun t1 a2 h => ?_)
    exact f_iret (ty := .int) rfl rfl (by decide +kernel) rfl h
  replace h := h.2 c0
  by_cases c1 : v3 = 1
  · replace h := h.1 c1
    refine o_lookup (off := 34) (tgt := 121) (d_X11_foretold_87) (by decide) (by rw [c1]; decide) (by decide) ?_
    refine o_aload_n (k := 0) 0 (by decide +kernel) rfl ?_
    refine f_getR (r := 341) (t := 11) (k := 17) (i := 107) (by decide +kernel) sh_0 rfl (by decide) lk_507 (by simp [x_ty, tyX11]) (gr_11_17 sh_0) ?_
    refine o_iload_n (k := 2) 1 (by decide +kernel) rfl ?_
    refine f_callVI (μ' := mX1_paleOf) (i := 202) (vs := [.int v2]) (by decide +kernel) lk_1088 (vok_mX1_paleOf) sh_341 rfl rfl rfl rfl (Nat.le_of_ble_eq_true rfl) ?_
    refine x_CI.mono h (fun t3 a4 h => ?_)
    exact f_iret (ty := .int) rfl rfl (by decide +kernel) rfl h
  replace h := h.2 c1
  refine o_lookup (off := 43) (tgt := 130) (d_X11_foretold_87) (by decide) (by have := x_neS (z := 0) (by decide) c0; have := x_neS (z := 1) (by decide) c1; simp [Op.lookupswitch.offset, *]) (by decide) ?_
  refine o_aload_n (k := 0) 0 (by decide +kernel) rfl ?_
  refine f_getR (r := 1) (t := 11) (k := 0) (i := 10) (by decide +kernel) sh_0 rfl (by decide) lk_490 (by simp [x_ty, tyX11]) (gr_11_0 sh_0) ?_
  refine o_aload_n (k := 0) 0 (by decide +kernel) rfl ?_
  refine f_getR (r := 341) (t := 11) (k := 17) (i := 107) (by decide +kernel) sh_0 rfl (by decide) lk_507 (by simp [x_ty, tyX11]) (gr_11_17 sh_0) ?_
  refine f_getI (t := 1) (k := 0) (i := 205) (by decide +kernel) sh_341 rfl (by decide) lk_229 rfl ?_
  refine o_iload_n (k := 2) 1 (by decide +kernel) rfl ?_
  refine f_callVI (μ' := mX3_hourBy) (i := 208) (vs := [.int (τ.1 341 0), .int v2]) (by decide +kernel) lk_1089 (vok_mX3_hourBy) sh_1 rfl rfl rfl rfl (Nat.le_of_ble_eq_true rfl) ?_
  refine x_CI.mono h (fun t5 a6 h => ?_)
  exact f_iret (ty := .int) rfl rfl (by decide +kernel) rfl h
set_option maxRecDepth 20000 in
theorem e_X11_arrives {d : Nat} {K : x_T → Int32 → Prop}  {τ : x_T} (h : (0 < τ.1 13 2 → x_CV d mX1_copyFrom [.ref 341, .ref 13] τ (fun t1 => x_WI (d + 1) mX11_arrives K 25 [(0, .ref 0), (1, .int 1)] [] t1)) ∧ (¬ 0 < τ.1 13 2 → K τ (-1))) : x_CI (d + 1) mX11_arrives [.ref 0] τ K := by
  refine x_CI_of (by decide) (Nat.le_of_ble_eq_true rfl) ?_
  show x_WI (d + 1) mX11_arrives K 0 [(0, .ref 0)] [] τ
  refine o_aload_n (k := 0) 0 (by decide +kernel) rfl ?_
  refine f_getR (r := 13) (t := 11) (k := 1) (i := 19) (by decide +kernel) sh_0 rfl (by decide) lk_491 (by simp [x_ty, tyX11]) (gr_11_1 sh_0) ?_
  refine f_getI (t := 1) (k := 2) (i := 137) (by decide +kernel) sh_13 rfl (by decide) lk_236 rfl ?_
  refine o_if_gt (off := 5) 12 (by decide +kernel) (by decide) (fun q => ?_) (fun q => ?_)
  · replace h := h.1 q
    refine o_aload_n (k := 0) 0 (by decide +kernel) rfl ?_
    refine f_getR (r := 341) (t := 11) (k := 17) (i := 107) (by decide +kernel) sh_0 rfl (by decide) lk_507 (by simp [x_ty, tyX11]) (gr_11_17 sh_0) ?_
    refine o_aload_n (k := 0) 0 (by decide +kernel) rfl ?_
    refine f_getR (r := 13) (t := 11) (k := 1) (i := 19) (by decide +kernel) sh_0 rfl (by decide) lk_491 (by simp [x_ty, tyX11]) (gr_11_1 sh_0) ?_
    refine f_callVV (μ' := mX1_copyFrom) (i := 248) (vs := [.ref 13]) (by decide +kernel) lk_1124 (vok_mX1_copyFrom) sh_341 rfl rfl rfl rfl (Nat.le_of_ble_eq_true rfl) ?_
    refine x_CV.mono h (fun t1 h => ?_)
    refine o_iconst (n := 1) (v := 1) (by decide +kernel) (by decide) ?_
    refine o_istore_n (k := 1) (L' := [(1, .int 1), (0, .ref 0)]) (by decide +kernel) (by decide) rfl ?_
    refine o_sub [1, 0] rfl ?_
    exact h
  · replace h := h.2 q
    refine o_iconst (n := -1) (v := (-1)) (by decide +kernel) (by decide) ?_
    exact f_iret (ty := .int) rfl rfl (by decide +kernel) rfl h
set_option maxRecDepth 20000 in
theorem k_X11_arrives_25 {d : Nat} {K : x_T → Int32 → Prop} {v1 : Int32} {τ : x_T} (h : (60 < v1 → K τ (-1)) ∧ (¬ 60 < v1 → (9999 ≤ τ.1 341 5 → K τ (-1)) ∧ (¬ 9999 ≤ τ.1 341 5 → x_CV d mX2_roll [.ref 332, .ref 341] τ (fun t1 => ∀ t3, t3 = x_w1 t1 341 5 ((t1.1 341 5) + 1) → ((¬ t3.1 341 2 = 0 → ∀ y4, y4 = v1 + 1 → (x_WI (d + 1) mX11_arrives K 25 [(0, .ref 0), (1, .int y4)] [] t3)) ∧ (t3.1 341 2 = 0 → K t3 v1)))))) : x_WI (d + 1) mX11_arrives K 25 [(0, .ref 0), (1, .int v1)] [] τ := by
  refine o_iload_n (k := 1) 1 (by decide +kernel) rfl ?_
  refine o_bipush (n := 60) (v := 60) (by decide +kernel) (by decide) ?_
  refine o_icmp_gt (off := 58) 86 (by decide +kernel) (by decide) (fun q => ?_) (fun q => ?_)
  · replace h := h.1 q
    refine o_iconst (n := -1) (v := (-1)) (by decide +kernel) (by decide) ?_
    exact f_iret (ty := .int) rfl rfl (by decide +kernel) rfl h
  · replace h := h.2 q
    refine o_aload_n (k := 0) 0 (by decide +kernel) rfl ?_
    refine f_getR (r := 341) (t := 11) (k := 17) (i := 107) (by decide +kernel) sh_0 rfl (by decide) lk_507 (by simp [x_ty, tyX11]) (gr_11_17 sh_0) ?_
    refine f_getI (t := 1) (k := 5) (i := 146) (by decide +kernel) sh_341 rfl (by decide) lk_247 rfl ?_
    refine o_sipush (n := 9999) (v := 9999) (by decide +kernel) (by decide) ?_
    refine o_icmp_ge (off := 45) 86 (by decide +kernel) (by decide) (fun q => ?_) (fun q => ?_)
    · replace h := h.1 q
      refine o_iconst (n := -1) (v := (-1)) (by decide +kernel) (by decide) ?_
      exact f_iret (ty := .int) rfl rfl (by decide +kernel) rfl h
    · replace h := h.2 q
      refine o_aload_n (k := 0) 0 (by decide +kernel) rfl ?_
      refine f_getR (r := 332) (t := 11) (k := 14) (i := 89) (by decide +kernel) sh_0 rfl (by decide) lk_504 (by simp [x_ty, tyX11]) (gr_11_14 sh_0) ?_
      refine o_aload_n (k := 0) 0 (by decide +kernel) rfl ?_
      refine f_getR (r := 341) (t := 11) (k := 17) (i := 107) (by decide +kernel) sh_0 rfl (by decide) lk_507 (by simp [x_ty, tyX11]) (gr_11_17 sh_0) ?_
      refine f_callVV (μ' := mX2_roll) (i := 251) (vs := [.ref 341]) (by decide +kernel) lk_1129 (vok_mX2_roll) sh_332 rfl rfl rfl rfl (Nat.le_of_ble_eq_true rfl) ?_
      refine x_CV.mono h (fun t1 h => ?_)
      refine o_aload_n (k := 0) 0 (by decide +kernel) rfl ?_
      refine f_getR (r := 341) (t := 11) (k := 17) (i := 107) (by decide +kernel) sh_0 rfl (by decide) lk_507 (by simp [x_ty, tyX11]) (gr_11_17 sh_0) ?_
      refine o_dup (by decide +kernel) rfl ?_
      refine f_getI (t := 1) (k := 5) (i := 146) (by decide +kernel) sh_341 rfl (by decide) lk_247 rfl ?_
      refine o_iconst (n := 1) (v := 1) (by decide +kernel) (by decide) ?_
      refine o_iadd (by decide +kernel) ?_
      refine f_putI (t := 1) (k := 5) (i := 146) (by decide +kernel) sh_341 rfl (by decide) lk_247 rfl rfl ?_
      refine f_name (fun t3 et3 => ?_)
      replace h := h t3 et3
      refine o_aload_n (k := 0) 0 (by decide +kernel) rfl ?_
      refine f_getR (r := 341) (t := 11) (k := 17) (i := 107) (by decide +kernel) sh_0 rfl (by decide) lk_507 (by simp [x_ty, tyX11]) (gr_11_17 sh_0) ?_
      refine f_getI (t := 1) (k := 2) (i := 137) (by decide +kernel) sh_341 rfl (by decide) lk_236 rfl ?_
      refine o_if_ne (off := 5) 80 (by decide +kernel) (by decide) (fun q => ?_) (fun q => ?_)
      · replace h := h.1 q
        obtain ⟨y4, ey4⟩ : ∃ y : Int32, y = v1 + 1 := ⟨_, rfl⟩
        replace h := h y4 ey4
        refine o_iinc (i := 1) (n := 1) (v := y4) (L' := [(1, .int y4), (0, .ref 0)]) 1 (by decide +kernel) rfl (by rw [ey4]; rfl) (by decide) rfl ?_
        refine o_goto (off := -58) 25 (by decide +kernel) (by decide) ?_
        refine o_sub [1, 0] rfl ?_
        exact h
      · replace h := h.2 q
        refine o_iload_n (k := 1) 1 (by decide +kernel) rfl ?_
        exact f_iret (ty := .int) rfl rfl (by decide +kernel) rfl h
set_option maxRecDepth 20000 in
theorem e_X11_want {d : Nat} {K : x_T → Int32 → Prop} {v1 : Int32} {v2 : Int32} {τ : x_T} (h : x_CI d mX3_noteDown [.ref 1, .ref 7, .int v1, .int v2, .int 23] τ (fun t1 a2 => K t1 a2)) : x_CI (d + 1) mX11_want [.ref 0, .int v1, .int v2] τ K := by
  refine x_CI_of (by decide) (Nat.le_of_ble_eq_true rfl) ?_
  show x_WI (d + 1) mX11_want K 0 [(0, .ref 0), (1, .int v1), (2, .int v2)] [] τ
  refine o_aload_n (k := 0) 0 (by decide +kernel) rfl ?_
  refine f_getR (r := 1) (t := 11) (k := 0) (i := 10) (by decide +kernel) sh_0 rfl (by decide) lk_490 (by simp [x_ty, tyX11]) (gr_11_0 sh_0) ?_
  refine o_aload_n (k := 0) 0 (by decide +kernel) rfl ?_
  refine f_getR (r := 1) (t := 11) (k := 0) (i := 10) (by decide +kernel) sh_0 rfl (by decide) lk_490 (by simp [x_ty, tyX11]) (gr_11_0 sh_0) ?_
  refine f_getR (r := 7) (t := 3) (k := 7) (i := 254) (by decide +kernel) sh_1 rfl (by decide) lk_196 (by simp [x_ty, tyX3]) (gr_3_7 sh_1) ?_
  refine o_iload_n (k := 1) 1 (by decide +kernel) rfl ?_
  refine o_iload_n (k := 2) 2 (by decide +kernel) rfl ?_
  refine o_bipush (n := 23) (v := 23) (by decide +kernel) (by decide) ?_
  refine f_callVI (μ' := mX3_noteDown) (i := 258) (vs := [.ref 7, .int v1, .int v2, .int 23]) (by decide +kernel) lk_1134 (vok_mX3_noteDown) sh_1 rfl rfl rfl rfl (Nat.le_of_ble_eq_true rfl) ?_
  refine x_CI.mono h (fun t1 a2 h => ?_)
  exact f_iret (ty := .int) rfl rfl (by decide +kernel) rfl h
set_option maxRecDepth 20000 in
theorem e_X11_fitting {d : Nat} {K : x_T → Int32 → Prop}  {τ : x_T} (h : x_CI d mX0_placesFitting [.ref 339] τ (fun t1 a2 => K t1 a2)) : x_CI (d + 1) mX11_fitting [.ref 0] τ K := by
  refine x_CI_of (by decide) (Nat.le_of_ble_eq_true rfl) ?_
  show x_WI (d + 1) mX11_fitting K 0 [(0, .ref 0)] [] τ
  refine o_aload_n (k := 0) 0 (by decide +kernel) rfl ?_
  refine f_getR (r := 339) (t := 11) (k := 16) (i := 103) (by decide +kernel) sh_0 rfl (by decide) lk_506 (by simp [x_ty, tyX11]) (gr_11_16 sh_0) ?_
  refine f_callVI (μ' := mX0_placesFitting) (i := 262) (vs := []) (by decide +kernel) lk_1142 (vok_mX0_placesFitting) sh_339 rfl rfl rfl rfl (Nat.le_of_ble_eq_true rfl) ?_
  refine x_CI.mono h (fun t1 a2 h => ?_)
  exact f_iret (ty := .int) rfl rfl (by decide +kernel) rfl h
set_option maxRecDepth 20000 in
theorem e_X11_route {d : Nat} {K : x_T → Int32 → Prop} {v1 : Int32} {τ : x_T} (h : x_CI d mX10_seekRoute [.ref 333, .int (τ.1 13 0)] τ (fun t1 a2 => (a2 = (-1) → K t1 (-2)) ∧ (¬ a2 = (-1) → (v1 < (-1) → K t1 (-2)) ∧ (¬ v1 < (-1) → (v1 < a2 → (¬ v1 = (-1) → x_CI d mX10_routeHouse [.ref 333, .int v1] t1 (fun t3 a4 => K t3 a4)) ∧ (v1 = (-1) → K t1 a2)) ∧ (¬ v1 < a2 → K t1 (-2)))))) : x_CI (d + 1) mX11_route [.ref 0, .int v1] τ K := by
  refine x_CI_of (by decide) (Nat.le_of_ble_eq_true rfl) ?_
  show x_WI (d + 1) mX11_route K 0 [(0, .ref 0), (1, .int v1)] [] τ
  refine o_aload_n (k := 0) 0 (by decide +kernel) rfl ?_
  refine f_getR (r := 333) (t := 11) (k := 15) (i := 96) (by decide +kernel) sh_0 rfl (by decide) lk_505 (by simp [x_ty, tyX11]) (gr_11_15 sh_0) ?_
  refine o_aload_n (k := 0) 0 (by decide +kernel) rfl ?_
  refine f_getR (r := 13) (t := 11) (k := 1) (i := 19) (by decide +kernel) sh_0 rfl (by decide) lk_491 (by simp [x_ty, tyX11]) (gr_11_1 sh_0) ?_
  refine f_getI (t := 1) (k := 0) (i := 205) (by decide +kernel) sh_13 rfl (by decide) lk_229 rfl ?_
  refine f_callVI (μ' := mX10_seekRoute) (i := 266) (vs := [.int (τ.1 13 0)]) (by decide +kernel) lk_1155 (vok_mX10_seekRoute) sh_333 rfl rfl rfl rfl (Nat.le_of_ble_eq_true rfl) ?_
  refine x_CI.mono h (fun t1 a2 h => ?_)
  refine o_istore_n (k := 2) (L' := [(2, .int a2), (0, .ref 0), (1, .int v1)]) (by decide +kernel) (by decide) rfl ?_
  refine o_iload_n (k := 2) 0 (by decide +kernel) rfl ?_
  refine o_iconst (n := -1) (v := (-1)) (by decide +kernel) (by decide) ?_
  refine o_icmp_eq (off := 13) 30 (by decide +kernel) (by decide) (fun q => ?_) (fun q => ?_)
  · replace h := h.1 q
    refine o_bipush (n := -2) (v := (-2)) (by decide +kernel) (by decide) ?_
    exact f_iret (ty := .int) rfl rfl (by decide +kernel) rfl h
  · replace h := h.2 q
    refine o_iload_n (k := 1) 2 (by decide +kernel) rfl ?_
    refine o_iconst (n := -1) (v := (-1)) (by decide +kernel) (by decide) ?_
    refine o_icmp_lt (off := 8) 30 (by decide +kernel) (by decide) (fun q => ?_) (fun q => ?_)
    · replace h := h.1 q
      refine o_bipush (n := -2) (v := (-2)) (by decide +kernel) (by decide) ?_
      exact f_iret (ty := .int) rfl rfl (by decide +kernel) rfl h
    · replace h := h.2 q
      refine o_iload_n (k := 1) 2 (by decide +kernel) rfl ?_
      refine o_iload_n (k := 2) 0 (by decide +kernel) rfl ?_
      refine o_icmp_lt (off := 6) 33 (by decide +kernel) (by decide) (fun q => ?_) (fun q => ?_)
      · replace h := h.1 q
        refine o_iload_n (k := 1) 2 (by decide +kernel) rfl ?_
        refine o_iconst (n := -1) (v := (-1)) (by decide +kernel) (by decide) ?_
        refine o_icmp_ne (off := 7) 42 (by decide +kernel) (by decide) (fun q => ?_) (fun q => ?_)
        · replace h := h.1 q
          refine o_aload_n (k := 0) 1 (by decide +kernel) rfl ?_
          refine f_getR (r := 333) (t := 11) (k := 15) (i := 96) (by decide +kernel) sh_0 rfl (by decide) lk_505 (by simp [x_ty, tyX11]) (gr_11_15 sh_0) ?_
          refine o_iload_n (k := 1) 2 (by decide +kernel) rfl ?_
          refine f_callVI (μ' := mX10_routeHouse) (i := 269) (vs := [.int v1]) (by decide +kernel) lk_1178 (vok_mX10_routeHouse) sh_333 rfl rfl rfl rfl (Nat.le_of_ble_eq_true rfl) ?_
          refine x_CI.mono h (fun t3 a4 h => ?_)
          exact f_iret (ty := .int) rfl rfl (by decide +kernel) rfl h
        · replace h := h.2 q
          refine o_iload_n (k := 2) 0 (by decide +kernel) rfl ?_
          refine o_goto (off := 11) 50 (by decide +kernel) (by decide) ?_
          exact f_iret (ty := .int) rfl rfl (by decide +kernel) rfl h
      · replace h := h.2 q
        refine o_bipush (n := -2) (v := (-2)) (by decide +kernel) (by decide) ?_
        exact f_iret (ty := .int) rfl rfl (by decide +kernel) rfl h
theorem d_X11_least_77 : decode mX11_least.2.1 77 = .ok (.lookupswitch (38) #[(-2, 27), (-1, 30)], 27) := by decide +kernel
set_option maxRecDepth 20000 in
theorem e_X11_least {d : Nat} {K : x_T → Int32 → Prop} {v1 : Int32} {v2 : Int32} {v3 : Int32} {τ : x_T} (h : (0 < τ.1 13 2 → K τ (-3)) ∧ (¬ 0 < τ.1 13 2 → x_CI d mX3_isHouse [.ref 1, .int v1] τ (fun t1 a2 => (a2 = 0 → K t1 (-3)) ∧ (¬ a2 = 0 → x_CI d mX3_isPusher [.ref 1, .int v2] t1 (fun t3 a4 => (¬ a4 = 0 → x_CI d mX10_seekLeast [.ref 333, .ref 13, .int v1, .int v2] t3 (fun t5 a6 => (a6 = (-1) → K t5 (-3)) ∧ (¬ a6 = (-1) → (v3 < (-2) → K t5 (-3)) ∧ (¬ v3 < (-2) → (v3 < t5.1 333 9 → ((v3 = (-2) → K t5 a6) ∧ (¬ v3 = (-2) → (v3 = (-1) → K t5 (t5.1 333 9)) ∧ (¬ v3 = (-1) → (x_CI d mX10_leastHouse [.ref 333, .int v3] t5 (fun t7 a8 => K t7 a8)))))) ∧ (¬ v3 < t5.1 333 9 → K t5 (-3)))))) ∧ (a4 = 0 → K t3 (-3))))))) : x_CI (d + 1) mX11_least [.ref 0, .int v1, .int v2, .int v3] τ K := by
  refine x_CI_of (by decide) (Nat.le_of_ble_eq_true rfl) ?_
  show x_WI (d + 1) mX11_least K 0 [(0, .ref 0), (1, .int v1), (2, .int v2), (3, .int v3)] [] τ
  refine o_aload_n (k := 0) 0 (by decide +kernel) rfl ?_
  refine f_getR (r := 13) (t := 11) (k := 1) (i := 19) (by decide +kernel) sh_0 rfl (by decide) lk_491 (by simp [x_ty, tyX11]) (gr_11_1 sh_0) ?_
  refine f_getI (t := 1) (k := 2) (i := 137) (by decide +kernel) sh_13 rfl (by decide) lk_236 rfl ?_
  refine o_if_gt (off := 25) 32 (by decide +kernel) (by decide) (fun q => ?_) (fun q => ?_)
  · replace h := h.1 q
    refine o_bipush (n := -3) (v := (-3)) (by decide +kernel) (by decide) ?_
    exact f_iret (ty := .int) rfl rfl (by decide +kernel) rfl h
  · replace h := h.2 q
    refine o_aload_n (k := 0) 0 (by decide +kernel) rfl ?_
    refine f_getR (r := 1) (t := 11) (k := 0) (i := 10) (by decide +kernel) sh_0 rfl (by decide) lk_490 (by simp [x_ty, tyX11]) (gr_11_0 sh_0) ?_
    refine o_iload_n (k := 1) 1 (by decide +kernel) rfl ?_
    refine f_callVI (μ' := mX3_isHouse) (i := 114) (vs := [.int v1]) (by decide +kernel) lk_568 (vok_mX3_isHouse) sh_1 rfl rfl rfl rfl (Nat.le_of_ble_eq_true rfl) ?_
    refine x_CI.mono h (fun t1 a2 h => ?_)
    refine o_if_eq (off := 14) 32 (by decide +kernel) (by decide) (fun q => ?_) (fun q => ?_)
    · replace h := h.1 q
      refine o_bipush (n := -3) (v := (-3)) (by decide +kernel) (by decide) ?_
      exact f_iret (ty := .int) rfl rfl (by decide +kernel) rfl h
    · replace h := h.2 q
      refine o_aload_n (k := 0) 0 (by decide +kernel) rfl ?_
      refine f_getR (r := 1) (t := 11) (k := 0) (i := 10) (by decide +kernel) sh_0 rfl (by decide) lk_490 (by simp [x_ty, tyX11]) (gr_11_0 sh_0) ?_
      refine o_iload_n (k := 2) 2 (by decide +kernel) rfl ?_
      refine f_callVI (μ' := mX3_isPusher) (i := 235) (vs := [.int v2]) (by decide +kernel) lk_1110 (vok_mX3_isPusher) sh_1 rfl rfl rfl rfl (Nat.le_of_ble_eq_true rfl) ?_
      refine x_CI.mono h (fun t3 a4 h => ?_)
      refine o_if_ne (off := 6) 35 (by decide +kernel) (by decide) (fun q => ?_) (fun q => ?_)
      · replace h := h.1 q
        refine o_aload_n (k := 0) 0 (by decide +kernel) rfl ?_
        refine f_getR (r := 333) (t := 11) (k := 15) (i := 96) (by decide +kernel) sh_0 rfl (by decide) lk_505 (by simp [x_ty, tyX11]) (gr_11_15 sh_0) ?_
        refine o_aload_n (k := 0) 0 (by decide +kernel) rfl ?_
        refine f_getR (r := 13) (t := 11) (k := 1) (i := 19) (by decide +kernel) sh_0 rfl (by decide) lk_491 (by simp [x_ty, tyX11]) (gr_11_1 sh_0) ?_
        refine o_iload_n (k := 1) 1 (by decide +kernel) rfl ?_
        refine o_iload_n (k := 2) 2 (by decide +kernel) rfl ?_
        refine f_callVI (μ' := mX10_seekLeast) (i := 272) (vs := [.ref 13, .int v1, .int v2]) (by decide +kernel) lk_1186 (vok_mX10_seekLeast) sh_333 rfl rfl rfl rfl (Nat.le_of_ble_eq_true rfl) ?_
        refine x_CI.mono h (fun t5 a6 h => ?_)
        refine o_istore (k := 4) (L' := [(4, .int a6), (0, .ref 0), (1, .int v1), (2, .int v2), (3, .int v3)]) (by decide +kernel) (by decide) rfl ?_
        refine o_iload (k := 4) 0 (by decide +kernel) rfl ?_
        refine o_iconst (n := -1) (v := (-1)) (by decide +kernel) (by decide) ?_
        refine o_icmp_eq (off := 20) 73 (by decide +kernel) (by decide) (fun q => ?_) (fun q => ?_)
        · replace h := h.1 q
          refine o_bipush (n := -3) (v := (-3)) (by decide +kernel) (by decide) ?_
          exact f_iret (ty := .int) rfl rfl (by decide +kernel) rfl h
        · replace h := h.2 q
          refine o_iload_n (k := 3) 4 (by decide +kernel) rfl ?_
          refine o_bipush (n := -2) (v := (-2)) (by decide +kernel) (by decide) ?_
          refine o_icmp_lt (off := 14) 73 (by decide +kernel) (by decide) (fun q => ?_) (fun q => ?_)
          · replace h := h.1 q
            refine o_bipush (n := -3) (v := (-3)) (by decide +kernel) (by decide) ?_
            exact f_iret (ty := .int) rfl rfl (by decide +kernel) rfl h
          · replace h := h.2 q
            refine o_iload_n (k := 3) 4 (by decide +kernel) rfl ?_
            refine o_aload_n (k := 0) 1 (by decide +kernel) rfl ?_
            refine f_getR (r := 333) (t := 11) (k := 15) (i := 96) (by decide +kernel) sh_0 rfl (by decide) lk_505 (by simp [x_ty, tyX11]) (gr_11_15 sh_0) ?_
            refine f_getI (t := 10) (k := 9) (i := 275) (by decide +kernel) sh_333 rfl (by decide) lk_452 rfl ?_
            refine o_icmp_lt (off := 6) 76 (by decide +kernel) (by decide) (fun q => ?_) (fun q => ?_)
            · replace h := h.1 q
              refine o_iload_n (k := 3) 4 (by decide +kernel) rfl ?_
              by_cases cm2 : v3 = (-2)
              · replace h := h.1 cm2
                refine o_lookup (off := 27) (tgt := 104) (d_X11_least_77) (by decide) (by rw [cm2]; decide) (by decide) ?_
                refine o_iload (k := 4) 0 (by decide +kernel) rfl ?_
                exact f_iret (ty := .int) rfl rfl (by decide +kernel) rfl h
              replace h := h.2 cm2
              by_cases cm1 : v3 = (-1)
              · replace h := h.1 cm1
                refine o_lookup (off := 30) (tgt := 107) (d_X11_least_77) (by decide) (by rw [cm1]; decide) (by decide) ?_
                refine o_aload_n (k := 0) 1 (by decide +kernel) rfl ?_
                refine f_getR (r := 333) (t := 11) (k := 15) (i := 96) (by decide +kernel) sh_0 rfl (by decide) lk_505 (by simp [x_ty, tyX11]) (gr_11_15 sh_0) ?_
                refine f_getI (t := 10) (k := 9) (i := 275) (by decide +kernel) sh_333 rfl (by decide) lk_452 rfl ?_
                exact f_iret (ty := .int) rfl rfl (by decide +kernel) rfl h
              replace h := h.2 cm1
              refine o_lookup (off := 38) (tgt := 115) (d_X11_least_77) (by decide) (by have := x_neS (z := -2) (by decide) cm2; have := x_neS (z := -1) (by decide) cm1; simp [Op.lookupswitch.offset, *]) (by decide) ?_
              refine o_aload_n (k := 0) 1 (by decide +kernel) rfl ?_
              refine f_getR (r := 333) (t := 11) (k := 15) (i := 96) (by decide +kernel) sh_0 rfl (by decide) lk_505 (by simp [x_ty, tyX11]) (gr_11_15 sh_0) ?_
              refine o_iload_n (k := 3) 4 (by decide +kernel) rfl ?_
              refine f_callVI (μ' := mX10_leastHouse) (i := 278) (vs := [.int v3]) (by decide +kernel) lk_1205 (vok_mX10_leastHouse) sh_333 rfl rfl rfl rfl (Nat.le_of_ble_eq_true rfl) ?_
              refine x_CI.mono h (fun t7 a8 h => ?_)
              exact f_iret (ty := .int) rfl rfl (by decide +kernel) rfl h
            · replace h := h.2 q
              refine o_bipush (n := -3) (v := (-3)) (by decide +kernel) (by decide) ?_
              exact f_iret (ty := .int) rfl rfl (by decide +kernel) rfl h
      · replace h := h.2 q
        refine o_bipush (n := -3) (v := (-3)) (by decide +kernel) (by decide) ?_
        exact f_iret (ty := .int) rfl rfl (by decide +kernel) rfl h
set_option maxRecDepth 20000 in
theorem e_X11_winner {d : Nat} {K : x_T → Int32 → Prop}  {τ : x_T} (h : x_CI d mX0_voted [.ref 339] τ (fun t1 a2 => K t1 a2)) : x_CI (d + 1) mX11_winner [.ref 0] τ K := by
  refine x_CI_of (by decide) (Nat.le_of_ble_eq_true rfl) ?_
  show x_WI (d + 1) mX11_winner K 0 [(0, .ref 0)] [] τ
  refine o_aload_n (k := 0) 0 (by decide +kernel) rfl ?_
  refine f_getR (r := 339) (t := 11) (k := 16) (i := 103) (by decide +kernel) sh_0 rfl (by decide) lk_506 (by simp [x_ty, tyX11]) (gr_11_16 sh_0) ?_
  refine f_callVI (μ' := mX0_voted) (i := 281) (vs := []) (by decide +kernel) lk_1213 (vok_mX0_voted) sh_339 rfl rfl rfl rfl (Nat.le_of_ble_eq_true rfl) ?_
  refine x_CI.mono h (fun t1 a2 h => ?_)
  exact f_iret (ty := .int) rfl rfl (by decide +kernel) rfl h
set_option maxRecDepth 20000 in
theorem e_X11_agenda {d : Nat} {K : x_T → Int32 → Prop} {v1 : Int32} {v2 : Int32} {τ : x_T} (h : (v1 < 0 → K τ (-1)) ∧ (¬ v1 < 0 → (v2 < 1 → K τ (-1)) ∧ (¬ v2 < 1 → (v2 ≤ 8 → x_CI d mX0_leftOfRow [.ref 339, .int v1, .int v2] τ (fun t1 a2 => K t1 a2)) ∧ (¬ v2 ≤ 8 → K τ (-1))))) : x_CI (d + 1) mX11_agenda [.ref 0, .int v1, .int v2] τ K := by
  refine x_CI_of (by decide) (Nat.le_of_ble_eq_true rfl) ?_
  show x_WI (d + 1) mX11_agenda K 0 [(0, .ref 0), (1, .int v1), (2, .int v2)] [] τ
  refine o_iload_n (k := 1) 1 (by decide +kernel) rfl ?_
  refine o_if_lt (off := 14) 15 (by decide +kernel) (by decide) (fun q => ?_) (fun q => ?_)
  · replace h := h.1 q
    refine o_iconst (n := -1) (v := (-1)) (by decide +kernel) (by decide) ?_
    exact f_iret (ty := .int) rfl rfl (by decide +kernel) rfl h
  · replace h := h.2 q
    refine o_iload_n (k := 2) 2 (by decide +kernel) rfl ?_
    refine o_iconst (n := 1) (v := 1) (by decide +kernel) (by decide) ?_
    refine o_icmp_lt (off := 9) 15 (by decide +kernel) (by decide) (fun q => ?_) (fun q => ?_)
    · replace h := h.1 q
      refine o_iconst (n := -1) (v := (-1)) (by decide +kernel) (by decide) ?_
      exact f_iret (ty := .int) rfl rfl (by decide +kernel) rfl h
    · replace h := h.2 q
      refine o_iload_n (k := 2) 2 (by decide +kernel) rfl ?_
      refine o_bipush (n := 8) (v := 8) (by decide +kernel) (by decide) ?_
      refine o_icmp_le (off := 5) 17 (by decide +kernel) (by decide) (fun q => ?_) (fun q => ?_)
      · replace h := h.1 q
        refine o_aload_n (k := 0) 0 (by decide +kernel) rfl ?_
        refine f_getR (r := 339) (t := 11) (k := 16) (i := 103) (by decide +kernel) sh_0 rfl (by decide) lk_506 (by simp [x_ty, tyX11]) (gr_11_16 sh_0) ?_
        refine o_iload_n (k := 1) 1 (by decide +kernel) rfl ?_
        refine o_iload_n (k := 2) 2 (by decide +kernel) rfl ?_
        refine f_callVI (μ' := mX0_leftOfRow) (i := 284) (vs := [.int v1, .int v2]) (by decide +kernel) lk_1230 (vok_mX0_leftOfRow) sh_339 rfl rfl rfl rfl (Nat.le_of_ble_eq_true rfl) ?_
        refine x_CI.mono h (fun t1 a2 h => ?_)
        exact f_iret (ty := .int) rfl rfl (by decide +kernel) rfl h
      · replace h := h.2 q
        refine o_iconst (n := -1) (v := (-1)) (by decide +kernel) (by decide) ?_
        exact f_iret (ty := .int) rfl rfl (by decide +kernel) rfl h
set_option maxRecDepth 20000 in
theorem e_X11_weight {d : Nat} {K : x_T → Int32 → Prop} {v1 : Int32} {v2 : Int32} {τ : x_T} (h : x_CI d mX3_isHouse [.ref 1, .int v1] τ (fun t1 a2 => (a2 = 0 → K t1 0) ∧ (¬ a2 = 0 → (v2 < 1 → K t1 0) ∧ (¬ v2 < 1 → (v2 ≤ 9 → vp_in v1 8 ∧ (∀ t3, t3 = x_w1 t1 3 v1.toNatClampNeg v2 → (K t3 1))) ∧ (¬ v2 ≤ 9 → K t1 0))))) : x_CI (d + 1) mX11_weight [.ref 0, .int v1, .int v2] τ K := by
  refine x_CI_of (by decide) (Nat.le_of_ble_eq_true rfl) ?_
  show x_WI (d + 1) mX11_weight K 0 [(0, .ref 0), (1, .int v1), (2, .int v2)] [] τ
  refine o_aload_n (k := 0) 0 (by decide +kernel) rfl ?_
  refine f_getR (r := 1) (t := 11) (k := 0) (i := 10) (by decide +kernel) sh_0 rfl (by decide) lk_490 (by simp [x_ty, tyX11]) (gr_11_0 sh_0) ?_
  refine o_iload_n (k := 1) 1 (by decide +kernel) rfl ?_
  refine f_callVI (μ' := mX3_isHouse) (i := 114) (vs := [.int v1]) (by decide +kernel) lk_568 (vok_mX3_isHouse) sh_1 rfl rfl rfl rfl (Nat.le_of_ble_eq_true rfl) ?_
  refine x_CI.mono h (fun t1 a2 h => ?_)
  refine o_if_eq (off := 14) 22 (by decide +kernel) (by decide) (fun q => ?_) (fun q => ?_)
  · replace h := h.1 q
    refine o_iconst (n := 0) (v := 0) (by decide +kernel) (by decide) ?_
    exact f_iret (ty := .boolean) rfl (by decide) (by decide +kernel) rfl h
  · replace h := h.2 q
    refine o_iload_n (k := 2) 2 (by decide +kernel) rfl ?_
    refine o_iconst (n := 1) (v := 1) (by decide +kernel) (by decide) ?_
    refine o_icmp_lt (off := 9) 22 (by decide +kernel) (by decide) (fun q => ?_) (fun q => ?_)
    · replace h := h.1 q
      refine o_iconst (n := 0) (v := 0) (by decide +kernel) (by decide) ?_
      exact f_iret (ty := .boolean) rfl (by decide) (by decide +kernel) rfl h
    · replace h := h.2 q
      refine o_iload_n (k := 2) 2 (by decide +kernel) rfl ?_
      refine o_bipush (n := 9) (v := 9) (by decide +kernel) (by decide) ?_
      refine o_icmp_le (off := 5) 24 (by decide +kernel) (by decide) (fun q => ?_) (fun q => ?_)
      · replace h := h.1 q
        refine o_aload_n (k := 0) 0 (by decide +kernel) rfl ?_
        refine f_getR (r := 1) (t := 11) (k := 0) (i := 10) (by decide +kernel) sh_0 rfl (by decide) lk_490 (by simp [x_ty, tyX11]) (gr_11_0 sh_0) ?_
        refine f_getR (r := 3) (t := 3) (k := 3) (i := 287) (by decide +kernel) sh_1 rfl (by decide) lk_189 (by simp [x_ty, tyX3]) (gr_3_3 sh_1) ?_
        refine o_iload_n (k := 1) 1 (by decide +kernel) rfl ?_
        refine o_iload_n (k := 2) 2 (by decide +kernel) rfl ?_
        obtain ⟨hi, h⟩ := h
        refine f_iast (by decide +kernel) sh_3 hi rfl ?_
        refine f_name (fun t3 et3 => ?_)
        replace h := h t3 et3
        refine o_iconst (n := 1) (v := 1) (by decide +kernel) (by decide) ?_
        exact f_iret (ty := .boolean) rfl (by decide) (by decide +kernel) rfl h
      · replace h := h.2 q
        refine o_iconst (n := 0) (v := 0) (by decide +kernel) (by decide) ?_
        exact f_iret (ty := .boolean) rfl (by decide) (by decide +kernel) rfl h
set_option maxRecDepth 20000 in
theorem e_X11_fair {d : Nat} {K : x_T → Int32 → Prop} {v1 : Int32} {τ : x_T} (h : (v1 < 1 → K τ (-1)) ∧ (¬ v1 < 1 → (v1 ≤ 9 → x_CI d mX0_fairTurn [.ref 339, .int v1] τ (fun t1 a2 => K t1 a2)) ∧ (¬ v1 ≤ 9 → K τ (-1)))) : x_CI (d + 1) mX11_fair [.ref 0, .int v1] τ K := by
  refine x_CI_of (by decide) (Nat.le_of_ble_eq_true rfl) ?_
  show x_WI (d + 1) mX11_fair K 0 [(0, .ref 0), (1, .int v1)] [] τ
  refine o_iload_n (k := 1) 1 (by decide +kernel) rfl ?_
  refine o_iconst (n := 1) (v := 1) (by decide +kernel) (by decide) ?_
  refine o_icmp_lt (off := 9) 11 (by decide +kernel) (by decide) (fun q => ?_) (fun q => ?_)
  · replace h := h.1 q
    refine o_iconst (n := -1) (v := (-1)) (by decide +kernel) (by decide) ?_
    exact f_iret (ty := .int) rfl rfl (by decide +kernel) rfl h
  · replace h := h.2 q
    refine o_iload_n (k := 1) 1 (by decide +kernel) rfl ?_
    refine o_bipush (n := 9) (v := 9) (by decide +kernel) (by decide) ?_
    refine o_icmp_le (off := 5) 13 (by decide +kernel) (by decide) (fun q => ?_) (fun q => ?_)
    · replace h := h.1 q
      refine o_aload_n (k := 0) 0 (by decide +kernel) rfl ?_
      refine f_getR (r := 339) (t := 11) (k := 16) (i := 103) (by decide +kernel) sh_0 rfl (by decide) lk_506 (by simp [x_ty, tyX11]) (gr_11_16 sh_0) ?_
      refine o_iload_n (k := 1) 1 (by decide +kernel) rfl ?_
      refine f_callVI (μ' := mX0_fairTurn) (i := 291) (vs := [.int v1]) (by decide +kernel) lk_1248 (vok_mX0_fairTurn) sh_339 rfl rfl rfl rfl (Nat.le_of_ble_eq_true rfl) ?_
      refine x_CI.mono h (fun t1 a2 h => ?_)
      exact f_iret (ty := .int) rfl rfl (by decide +kernel) rfl h
    · replace h := h.2 q
      refine o_iconst (n := -1) (v := (-1)) (by decide +kernel) (by decide) ?_
      exact f_iret (ty := .int) rfl rfl (by decide +kernel) rfl h
set_option maxRecDepth 20000 in
theorem e_X11_feel {d : Nat} {K : x_T → Int32 → Prop} {v1 : Int32} {v2 : Int32} {τ : x_T} (h : x_CI d mX3_noteDown [.ref 1, .ref 10, .int v1, .int v2, .int 99] τ (fun t1 a2 => K t1 a2)) : x_CI (d + 1) mX11_feel [.ref 0, .int v1, .int v2] τ K := by
  refine x_CI_of (by decide) (Nat.le_of_ble_eq_true rfl) ?_
  show x_WI (d + 1) mX11_feel K 0 [(0, .ref 0), (1, .int v1), (2, .int v2)] [] τ
  refine o_aload_n (k := 0) 0 (by decide +kernel) rfl ?_
  refine f_getR (r := 1) (t := 11) (k := 0) (i := 10) (by decide +kernel) sh_0 rfl (by decide) lk_490 (by simp [x_ty, tyX11]) (gr_11_0 sh_0) ?_
  refine o_aload_n (k := 0) 0 (by decide +kernel) rfl ?_
  refine f_getR (r := 1) (t := 11) (k := 0) (i := 10) (by decide +kernel) sh_0 rfl (by decide) lk_490 (by simp [x_ty, tyX11]) (gr_11_0 sh_0) ?_
  refine f_getR (r := 10) (t := 3) (k := 8) (i := 294) (by decide +kernel) sh_1 rfl (by decide) lk_199 (by simp [x_ty, tyX3]) (gr_3_8 sh_1) ?_
  refine o_iload_n (k := 1) 1 (by decide +kernel) rfl ?_
  refine o_iload_n (k := 2) 2 (by decide +kernel) rfl ?_
  refine o_bipush (n := 99) (v := 99) (by decide +kernel) (by decide) ?_
  refine f_callVI (μ' := mX3_noteDown) (i := 258) (vs := [.ref 10, .int v1, .int v2, .int 99]) (by decide +kernel) lk_1134 (vok_mX3_noteDown) sh_1 rfl rfl rfl rfl (Nat.le_of_ble_eq_true rfl) ?_
  refine x_CI.mono h (fun t1 a2 h => ?_)
  exact f_iret (ty := .int) rfl rfl (by decide +kernel) rfl h
set_option maxRecDepth 20000 in
theorem e_X11_lost {d : Nat} {K : x_T → Int32 → Prop}  {τ : x_T} (h : x_CI d mX0_placesInFog [.ref 339, .ref 13] τ (fun t1 a2 => K t1 a2)) : x_CI (d + 1) mX11_lost [.ref 0] τ K := by
  refine x_CI_of (by decide) (Nat.le_of_ble_eq_true rfl) ?_
  show x_WI (d + 1) mX11_lost K 0 [(0, .ref 0)] [] τ
  refine o_aload_n (k := 0) 0 (by decide +kernel) rfl ?_
  refine f_getR (r := 339) (t := 11) (k := 16) (i := 103) (by decide +kernel) sh_0 rfl (by decide) lk_506 (by simp [x_ty, tyX11]) (gr_11_16 sh_0) ?_
  refine o_aload_n (k := 0) 0 (by decide +kernel) rfl ?_
  refine f_getR (r := 13) (t := 11) (k := 1) (i := 19) (by decide +kernel) sh_0 rfl (by decide) lk_491 (by simp [x_ty, tyX11]) (gr_11_1 sh_0) ?_
  refine f_callVI (μ' := mX0_placesInFog) (i := 297) (vs := [.ref 13]) (by decide +kernel) lk_1268 (vok_mX0_placesInFog) sh_339 rfl rfl rfl rfl (Nat.le_of_ble_eq_true rfl) ?_
  refine x_CI.mono h (fun t1 a2 h => ?_)
  exact f_iret (ty := .int) rfl rfl (by decide +kernel) rfl h
set_option maxRecDepth 20000 in
theorem e_X11_yard {d : Nat} {K : x_T → Int32 → Prop}  {τ : x_T} (h : x_CI d mX0_yardToFeel [.ref 339, .ref 13] τ (fun t1 a2 => K t1 a2)) : x_CI (d + 1) mX11_yard [.ref 0] τ K := by
  refine x_CI_of (by decide) (Nat.le_of_ble_eq_true rfl) ?_
  show x_WI (d + 1) mX11_yard K 0 [(0, .ref 0)] [] τ
  refine o_aload_n (k := 0) 0 (by decide +kernel) rfl ?_
  refine f_getR (r := 339) (t := 11) (k := 16) (i := 103) (by decide +kernel) sh_0 rfl (by decide) lk_506 (by simp [x_ty, tyX11]) (gr_11_16 sh_0) ?_
  refine o_aload_n (k := 0) 0 (by decide +kernel) rfl ?_
  refine f_getR (r := 13) (t := 11) (k := 1) (i := 19) (by decide +kernel) sh_0 rfl (by decide) lk_491 (by simp [x_ty, tyX11]) (gr_11_1 sh_0) ?_
  refine f_callVI (μ' := mX0_yardToFeel) (i := 300) (vs := [.ref 13]) (by decide +kernel) lk_1281 (vok_mX0_yardToFeel) sh_339 rfl rfl rfl rfl (Nat.le_of_ble_eq_true rfl) ?_
  refine x_CI.mono h (fun t1 a2 h => ?_)
  exact f_iret (ty := .int) rfl rfl (by decide +kernel) rfl h
set_option maxRecDepth 20000 in
theorem e_X11_thieves {d : Nat} {K : x_T → Int32 → Prop}  {τ : x_T} (h : x_CI d mX0_farthestFromNoon [.ref 339, .int (τ.1 13 0)] τ (fun t1 a2 => K t1 a2)) : x_CI (d + 1) mX11_thieves [.ref 0] τ K := by
  refine x_CI_of (by decide) (Nat.le_of_ble_eq_true rfl) ?_
  show x_WI (d + 1) mX11_thieves K 0 [(0, .ref 0)] [] τ
  refine o_aload_n (k := 0) 0 (by decide +kernel) rfl ?_
  refine f_getR (r := 339) (t := 11) (k := 16) (i := 103) (by decide +kernel) sh_0 rfl (by decide) lk_506 (by simp [x_ty, tyX11]) (gr_11_16 sh_0) ?_
  refine o_aload_n (k := 0) 0 (by decide +kernel) rfl ?_
  refine f_getR (r := 13) (t := 11) (k := 1) (i := 19) (by decide +kernel) sh_0 rfl (by decide) lk_491 (by simp [x_ty, tyX11]) (gr_11_1 sh_0) ?_
  refine f_getI (t := 1) (k := 0) (i := 205) (by decide +kernel) sh_13 rfl (by decide) lk_229 rfl ?_
  refine f_callVI (μ' := mX0_farthestFromNoon) (i := 303) (vs := [.int (τ.1 13 0)]) (by decide +kernel) lk_1298 (vok_mX0_farthestFromNoon) sh_339 rfl rfl rfl rfl (Nat.le_of_ble_eq_true rfl) ?_
  refine x_CI.mono h (fun t1 a2 h => ?_)
  exact f_iret (ty := .int) rfl rfl (by decide +kernel) rfl h
set_option maxRecDepth 20000 in
theorem e_X11_watch {d : Nat} {K : x_T → Int32 → Prop} {v1 : Int32} {v2 : Int32} {τ : x_T} (h : (v1 < 1 → K τ (-1)) ∧ (¬ v1 < 1 → (3 < v1 → K τ (-1)) ∧ (¬ 3 < v1 → (τ.1 1 0 < v1 → K τ (-1)) ∧ (¬ τ.1 1 0 < v1 → (v2 < 0 → K τ (-1)) ∧ (¬ v2 < 0 → (v2 ≤ 9 → x_CI d mX0_bestWatch [.ref 339, .int v1, .int v2] τ (fun t1 a2 => K t1 a2)) ∧ (¬ v2 ≤ 9 → K τ (-1))))))) : x_CI (d + 1) mX11_watch [.ref 0, .int v1, .int v2] τ K := by
  refine x_CI_of (by decide) (Nat.le_of_ble_eq_true rfl) ?_
  show x_WI (d + 1) mX11_watch K 0 [(0, .ref 0), (1, .int v1), (2, .int v2)] [] τ
  refine o_iload_n (k := 1) 1 (by decide +kernel) rfl ?_
  refine o_iconst (n := 1) (v := 1) (by decide +kernel) (by decide) ?_
  refine o_icmp_lt (off := 29) 31 (by decide +kernel) (by decide) (fun q => ?_) (fun q => ?_)
  · replace h := h.1 q
    refine o_iconst (n := -1) (v := (-1)) (by decide +kernel) (by decide) ?_
    exact f_iret (ty := .int) rfl rfl (by decide +kernel) rfl h
  · replace h := h.2 q
    refine o_iload_n (k := 1) 1 (by decide +kernel) rfl ?_
    refine o_iconst (n := 3) (v := 3) (by decide +kernel) (by decide) ?_
    refine o_icmp_gt (off := 24) 31 (by decide +kernel) (by decide) (fun q => ?_) (fun q => ?_)
    · replace h := h.1 q
      refine o_iconst (n := -1) (v := (-1)) (by decide +kernel) (by decide) ?_
      exact f_iret (ty := .int) rfl rfl (by decide +kernel) rfl h
    · replace h := h.2 q
      refine o_iload_n (k := 1) 1 (by decide +kernel) rfl ?_
      refine o_aload_n (k := 0) 0 (by decide +kernel) rfl ?_
      refine f_getR (r := 1) (t := 11) (k := 0) (i := 10) (by decide +kernel) sh_0 rfl (by decide) lk_490 (by simp [x_ty, tyX11]) (gr_11_0 sh_0) ?_
      refine f_getI (t := 3) (k := 0) (i := 153) (by decide +kernel) sh_1 rfl (by decide) lk_181 rfl ?_
      refine o_icmp_gt (off := 13) 31 (by decide +kernel) (by decide) (fun q => ?_) (fun q => ?_)
      · replace h := h.1 q
        refine o_iconst (n := -1) (v := (-1)) (by decide +kernel) (by decide) ?_
        exact f_iret (ty := .int) rfl rfl (by decide +kernel) rfl h
      · replace h := h.2 q
        refine o_iload_n (k := 2) 2 (by decide +kernel) rfl ?_
        refine o_if_lt (off := 9) 31 (by decide +kernel) (by decide) (fun q => ?_) (fun q => ?_)
        · replace h := h.1 q
          refine o_iconst (n := -1) (v := (-1)) (by decide +kernel) (by decide) ?_
          exact f_iret (ty := .int) rfl rfl (by decide +kernel) rfl h
        · replace h := h.2 q
          refine o_iload_n (k := 2) 2 (by decide +kernel) rfl ?_
          refine o_bipush (n := 9) (v := 9) (by decide +kernel) (by decide) ?_
          refine o_icmp_le (off := 5) 33 (by decide +kernel) (by decide) (fun q => ?_) (fun q => ?_)
          · replace h := h.1 q
            refine o_aload_n (k := 0) 0 (by decide +kernel) rfl ?_
            refine f_getR (r := 339) (t := 11) (k := 16) (i := 103) (by decide +kernel) sh_0 rfl (by decide) lk_506 (by simp [x_ty, tyX11]) (gr_11_16 sh_0) ?_
            refine o_iload_n (k := 1) 1 (by decide +kernel) rfl ?_
            refine o_iload_n (k := 2) 2 (by decide +kernel) rfl ?_
            refine f_callVI (μ' := mX0_bestWatch) (i := 306) (vs := [.int v1, .int v2]) (by decide +kernel) lk_1307 (vok_mX0_bestWatch) sh_339 rfl rfl rfl rfl (Nat.le_of_ble_eq_true rfl) ?_
            refine x_CI.mono h (fun t1 a2 h => ?_)
            exact f_iret (ty := .int) rfl rfl (by decide +kernel) rfl h
          · replace h := h.2 q
            refine o_iconst (n := -1) (v := (-1)) (by decide +kernel) (by decide) ?_
            exact f_iret (ty := .int) rfl rfl (by decide +kernel) rfl h
set_option maxRecDepth 20000 in
theorem e_X11_image {d : Nat} {K : x_T → Int32 → Prop}  {τ : x_T} (h : x_CV d mX3_copyFrom [.ref 176, .ref 1] τ (fun t1 => x_CV d mX1_copyFrom [.ref 188, .ref 13] t1 (fun t3 => x_CV d mX7_copyFrom [.ref 192, .ref 17] t3 (fun t5 => ∀ t7, t7 = x_w1 t5 0 9 (t5.1 0 4) → (∀ t8, t8 = x_w1 t7 0 10 (t7.1 0 5) → (K t8 (t8.1 13 5))))))) : x_CI (d + 1) mX11_image [.ref 0] τ K := by
  refine x_CI_of (by decide) (Nat.le_of_ble_eq_true rfl) ?_
  show x_WI (d + 1) mX11_image K 0 [(0, .ref 0)] [] τ
  refine o_aload_n (k := 0) 0 (by decide +kernel) rfl ?_
  refine f_getR (r := 176) (t := 11) (k := 6) (i := 44) (by decide +kernel) sh_0 rfl (by decide) lk_496 (by simp [x_ty, tyX11]) (gr_11_6 sh_0) ?_
  refine o_aload_n (k := 0) 0 (by decide +kernel) rfl ?_
  refine f_getR (r := 1) (t := 11) (k := 0) (i := 10) (by decide +kernel) sh_0 rfl (by decide) lk_490 (by simp [x_ty, tyX11]) (gr_11_0 sh_0) ?_
  refine f_callVV (μ' := mX3_copyFrom) (i := 309) (vs := [.ref 1]) (by decide +kernel) lk_1329 (vok_mX3_copyFrom) sh_176 rfl rfl rfl rfl (Nat.le_of_ble_eq_true rfl) ?_
  refine x_CV.mono h (fun t1 h => ?_)
  refine o_aload_n (k := 0) 0 (by decide +kernel) rfl ?_
  refine f_getR (r := 188) (t := 11) (k := 7) (i := 47) (by decide +kernel) sh_0 rfl (by decide) lk_497 (by simp [x_ty, tyX11]) (gr_11_7 sh_0) ?_
  refine o_aload_n (k := 0) 0 (by decide +kernel) rfl ?_
  refine f_getR (r := 13) (t := 11) (k := 1) (i := 19) (by decide +kernel) sh_0 rfl (by decide) lk_491 (by simp [x_ty, tyX11]) (gr_11_1 sh_0) ?_
  refine f_callVV (μ' := mX1_copyFrom) (i := 248) (vs := [.ref 13]) (by decide +kernel) lk_1124 (vok_mX1_copyFrom) sh_188 rfl rfl rfl rfl (Nat.le_of_ble_eq_true rfl) ?_
  refine x_CV.mono h (fun t3 h => ?_)
  refine o_aload_n (k := 0) 0 (by decide +kernel) rfl ?_
  refine f_getR (r := 192) (t := 11) (k := 8) (i := 50) (by decide +kernel) sh_0 rfl (by decide) lk_498 (by simp [x_ty, tyX11]) (gr_11_8 sh_0) ?_
  refine o_aload_n (k := 0) 0 (by decide +kernel) rfl ?_
  refine f_getR (r := 17) (t := 11) (k := 2) (i := 26) (by decide +kernel) sh_0 rfl (by decide) lk_492 (by simp [x_ty, tyX11]) (gr_11_2 sh_0) ?_
  refine f_callVV (μ' := mX7_copyFrom) (i := 311) (vs := [.ref 17]) (by decide +kernel) lk_1339 (vok_mX7_copyFrom) sh_192 rfl rfl rfl rfl (Nat.le_of_ble_eq_true rfl) ?_
  refine x_CV.mono h (fun t5 h => ?_)
  refine o_aload_n (k := 0) 0 (by decide +kernel) rfl ?_
  refine o_aload_n (k := 0) 0 (by decide +kernel) rfl ?_
  refine f_getI (t := 11) (k := 4) (i := 37) (by decide +kernel) sh_0 rfl (by decide) lk_494 rfl ?_
  refine f_putI (t := 11) (k := 9) (i := 53) (by decide +kernel) sh_0 rfl (by decide) lk_499 rfl rfl ?_
  refine f_name (fun t7 et7 => ?_)
  replace h := h t7 et7
  refine o_aload_n (k := 0) 0 (by decide +kernel) rfl ?_
  refine o_aload_n (k := 0) 0 (by decide +kernel) rfl ?_
  refine f_getI (t := 11) (k := 5) (i := 41) (by decide +kernel) sh_0 rfl (by decide) lk_495 rfl ?_
  refine f_putI (t := 11) (k := 10) (i := 56) (by decide +kernel) sh_0 rfl (by decide) lk_500 rfl rfl ?_
  refine f_name (fun t8 et8 => ?_)
  replace h := h t8 et8
  refine o_aload_n (k := 0) 0 (by decide +kernel) rfl ?_
  refine f_getR (r := 13) (t := 11) (k := 1) (i := 19) (by decide +kernel) sh_0 rfl (by decide) lk_491 (by simp [x_ty, tyX11]) (gr_11_1 sh_0) ?_
  refine f_getI (t := 1) (k := 5) (i := 146) (by decide +kernel) sh_13 rfl (by decide) lk_247 rfl ?_
  exact f_iret (ty := .int) rfl rfl (by decide +kernel) rfl h
set_option maxRecDepth 20000 in
theorem e_X11_back {d : Nat} {K : x_T → Int32 → Prop}  {τ : x_T} (h : x_CV d mX3_copyFrom [.ref 1, .ref 176] τ (fun t1 => x_CV d mX1_copyFrom [.ref 13, .ref 188] t1 (fun t3 => x_CV d mX7_copyFrom [.ref 17, .ref 192] t3 (fun t5 => ∀ t7, t7 = x_w1 t5 0 4 (t5.1 0 9) → (x_CV d mX11_letRule [.ref 0, .int (t7.1 0 10)] t7 (fun t8 => K t8 (t8.1 13 5))))))) : x_CI (d + 1) mX11_back [.ref 0] τ K := by
  refine x_CI_of (by decide) (Nat.le_of_ble_eq_true rfl) ?_
  show x_WI (d + 1) mX11_back K 0 [(0, .ref 0)] [] τ
  refine o_aload_n (k := 0) 0 (by decide +kernel) rfl ?_
  refine f_getR (r := 1) (t := 11) (k := 0) (i := 10) (by decide +kernel) sh_0 rfl (by decide) lk_490 (by simp [x_ty, tyX11]) (gr_11_0 sh_0) ?_
  refine o_aload_n (k := 0) 0 (by decide +kernel) rfl ?_
  refine f_getR (r := 176) (t := 11) (k := 6) (i := 44) (by decide +kernel) sh_0 rfl (by decide) lk_496 (by simp [x_ty, tyX11]) (gr_11_6 sh_0) ?_
  refine f_callVV (μ' := mX3_copyFrom) (i := 309) (vs := [.ref 176]) (by decide +kernel) lk_1329 (vok_mX3_copyFrom) sh_1 rfl rfl rfl rfl (Nat.le_of_ble_eq_true rfl) ?_
  refine x_CV.mono h (fun t1 h => ?_)
  refine o_aload_n (k := 0) 0 (by decide +kernel) rfl ?_
  refine f_getR (r := 13) (t := 11) (k := 1) (i := 19) (by decide +kernel) sh_0 rfl (by decide) lk_491 (by simp [x_ty, tyX11]) (gr_11_1 sh_0) ?_
  refine o_aload_n (k := 0) 0 (by decide +kernel) rfl ?_
  refine f_getR (r := 188) (t := 11) (k := 7) (i := 47) (by decide +kernel) sh_0 rfl (by decide) lk_497 (by simp [x_ty, tyX11]) (gr_11_7 sh_0) ?_
  refine f_callVV (μ' := mX1_copyFrom) (i := 248) (vs := [.ref 188]) (by decide +kernel) lk_1124 (vok_mX1_copyFrom) sh_13 rfl rfl rfl rfl (Nat.le_of_ble_eq_true rfl) ?_
  refine x_CV.mono h (fun t3 h => ?_)
  refine o_aload_n (k := 0) 0 (by decide +kernel) rfl ?_
  refine f_getR (r := 17) (t := 11) (k := 2) (i := 26) (by decide +kernel) sh_0 rfl (by decide) lk_492 (by simp [x_ty, tyX11]) (gr_11_2 sh_0) ?_
  refine o_aload_n (k := 0) 0 (by decide +kernel) rfl ?_
  refine f_getR (r := 192) (t := 11) (k := 8) (i := 50) (by decide +kernel) sh_0 rfl (by decide) lk_498 (by simp [x_ty, tyX11]) (gr_11_8 sh_0) ?_
  refine f_callVV (μ' := mX7_copyFrom) (i := 311) (vs := [.ref 192]) (by decide +kernel) lk_1339 (vok_mX7_copyFrom) sh_17 rfl rfl rfl rfl (Nat.le_of_ble_eq_true rfl) ?_
  refine x_CV.mono h (fun t5 h => ?_)
  refine o_aload_n (k := 0) 0 (by decide +kernel) rfl ?_
  refine o_aload_n (k := 0) 0 (by decide +kernel) rfl ?_
  refine f_getI (t := 11) (k := 9) (i := 53) (by decide +kernel) sh_0 rfl (by decide) lk_499 rfl ?_
  refine f_putI (t := 11) (k := 4) (i := 37) (by decide +kernel) sh_0 rfl (by decide) lk_494 rfl rfl ?_
  refine f_name (fun t7 et7 => ?_)
  replace h := h t7 et7
  refine o_aload_n (k := 0) 0 (by decide +kernel) rfl ?_
  refine o_aload_n (k := 0) 0 (by decide +kernel) rfl ?_
  refine f_getI (t := 11) (k := 10) (i := 56) (by decide +kernel) sh_0 rfl (by decide) lk_500 rfl ?_
  refine f_callVV (μ' := mX11_letRule) (i := 183) (vs := [.int (t7.1 0 10)]) (by decide +kernel) lk_1055 (vok_mX11_letRule) sh_0 rfl rfl rfl rfl (Nat.le_of_ble_eq_true rfl) ?_
  refine x_CV.mono h (fun t8 h => ?_)
  refine o_aload_n (k := 0) 0 (by decide +kernel) rfl ?_
  refine f_getR (r := 13) (t := 11) (k := 1) (i := 19) (by decide +kernel) sh_0 rfl (by decide) lk_491 (by simp [x_ty, tyX11]) (gr_11_1 sh_0) ?_
  refine f_getI (t := 1) (k := 5) (i := 146) (by decide +kernel) sh_13 rfl (by decide) lk_247 rfl ?_
  exact f_iret (ty := .int) rfl rfl (by decide +kernel) rfl h
theorem d_X11_about_1 : decode mX11_about.2.1 1 = .ok (.tableswitch (135) (0) (9) #[(55), (63), (71), (79), (87), (92), (97), (105), (116), (127)], 55) := by decide +kernel
set_option maxRecDepth 20000 in
theorem e_X11_about {d : Nat} {K : x_T → Int32 → Prop} {v1 : Int32} {τ : x_T} (h : ((v1 = 0 → K τ (τ.1 1 0)) ∧ (¬ v1 = 0 → (v1 = 1 → K τ (τ.1 1 1)) ∧ (¬ v1 = 1 → (v1 = 2 → K τ (τ.1 13 5)) ∧ (¬ v1 = 2 → (v1 = 3 → K τ (τ.1 13 6)) ∧ (¬ v1 = 3 → (v1 = 4 → K τ (τ.1 0 4)) ∧ (¬ v1 = 4 → (v1 = 5 → K τ (τ.1 0 5)) ∧ (¬ v1 = 5 → (v1 = 6 → K τ (τ.1 17 2)) ∧ (¬ v1 = 6 → (v1 = 7 → K τ (τ.1 7 2)) ∧ (¬ v1 = 7 → (v1 = 8 → K τ (τ.1 10 2)) ∧ (¬ v1 = 8 → (v1 = 9 → K τ (τ.1 314 1)) ∧ (¬ v1 = 9 → (K τ (-2)))))))))))))) : x_CI d mX11_about [.ref 0, .int v1] τ K := by
  refine x_CI_of (by decide) (Nat.le_of_ble_eq_true rfl) ?_
  show x_WI d mX11_about K 0 [(0, .ref 0), (1, .int v1)] [] τ
  refine o_iload_n (k := 1) 1 (by decide +kernel) rfl ?_
  by_cases c0 : v1 = 0
  · replace h := h.1 c0
    refine o_tableIn (off := 55) (tgt := 56) (d_X11_about_1) (by rw [c0]; decide) (by rw [c0]; decide) (by rw [c0]; rfl) (by decide) ?_
    refine o_aload_n (k := 0) 0 (by decide +kernel) rfl ?_
    refine f_getR (r := 1) (t := 11) (k := 0) (i := 10) (by decide +kernel) sh_0 rfl (by decide) lk_490 (by simp [x_ty, tyX11]) (gr_11_0 sh_0) ?_
    refine f_getI (t := 3) (k := 0) (i := 153) (by decide +kernel) sh_1 rfl (by decide) lk_181 rfl ?_
    exact f_iret (ty := .int) rfl rfl (by decide +kernel) rfl h
  replace h := h.2 c0
  by_cases c1 : v1 = 1
  · replace h := h.1 c1
    refine o_tableIn (off := 63) (tgt := 64) (d_X11_about_1) (by rw [c1]; decide) (by rw [c1]; decide) (by rw [c1]; rfl) (by decide) ?_
    refine o_aload_n (k := 0) 0 (by decide +kernel) rfl ?_
    refine f_getR (r := 1) (t := 11) (k := 0) (i := 10) (by decide +kernel) sh_0 rfl (by decide) lk_490 (by simp [x_ty, tyX11]) (gr_11_0 sh_0) ?_
    refine f_getI (t := 3) (k := 1) (i := 314) (by decide +kernel) sh_1 rfl (by decide) lk_184 rfl ?_
    exact f_iret (ty := .int) rfl rfl (by decide +kernel) rfl h
  replace h := h.2 c1
  by_cases c2 : v1 = 2
  · replace h := h.1 c2
    refine o_tableIn (off := 71) (tgt := 72) (d_X11_about_1) (by rw [c2]; decide) (by rw [c2]; decide) (by rw [c2]; rfl) (by decide) ?_
    refine o_aload_n (k := 0) 0 (by decide +kernel) rfl ?_
    refine f_getR (r := 13) (t := 11) (k := 1) (i := 19) (by decide +kernel) sh_0 rfl (by decide) lk_491 (by simp [x_ty, tyX11]) (gr_11_1 sh_0) ?_
    refine f_getI (t := 1) (k := 5) (i := 146) (by decide +kernel) sh_13 rfl (by decide) lk_247 rfl ?_
    exact f_iret (ty := .int) rfl rfl (by decide +kernel) rfl h
  replace h := h.2 c2
  by_cases c3 : v1 = 3
  · replace h := h.1 c3
    refine o_tableIn (off := 79) (tgt := 80) (d_X11_about_1) (by rw [c3]; decide) (by rw [c3]; decide) (by rw [c3]; rfl) (by decide) ?_
    refine o_aload_n (k := 0) 0 (by decide +kernel) rfl ?_
    refine f_getR (r := 13) (t := 11) (k := 1) (i := 19) (by decide +kernel) sh_0 rfl (by decide) lk_491 (by simp [x_ty, tyX11]) (gr_11_1 sh_0) ?_
    refine f_getI (t := 1) (k := 6) (i := 156) (by decide +kernel) sh_13 rfl (by decide) lk_249 rfl ?_
    exact f_iret (ty := .int) rfl rfl (by decide +kernel) rfl h
  replace h := h.2 c3
  by_cases c4 : v1 = 4
  · replace h := h.1 c4
    refine o_tableIn (off := 87) (tgt := 88) (d_X11_about_1) (by rw [c4]; decide) (by rw [c4]; decide) (by rw [c4]; rfl) (by decide) ?_
    refine o_aload_n (k := 0) 0 (by decide +kernel) rfl ?_
    refine f_getI (t := 11) (k := 4) (i := 37) (by decide +kernel) sh_0 rfl (by decide) lk_494 rfl ?_
    exact f_iret (ty := .int) rfl rfl (by decide +kernel) rfl h
  replace h := h.2 c4
  by_cases c5 : v1 = 5
  · replace h := h.1 c5
    refine o_tableIn (off := 92) (tgt := 93) (d_X11_about_1) (by rw [c5]; decide) (by rw [c5]; decide) (by rw [c5]; rfl) (by decide) ?_
    refine o_aload_n (k := 0) 0 (by decide +kernel) rfl ?_
    refine f_getI (t := 11) (k := 5) (i := 41) (by decide +kernel) sh_0 rfl (by decide) lk_495 rfl ?_
    exact f_iret (ty := .int) rfl rfl (by decide +kernel) rfl h
  replace h := h.2 c5
  by_cases c6 : v1 = 6
  · replace h := h.1 c6
    refine o_tableIn (off := 97) (tgt := 98) (d_X11_about_1) (by rw [c6]; decide) (by rw [c6]; decide) (by rw [c6]; rfl) (by decide) ?_
    refine o_aload_n (k := 0) 0 (by decide +kernel) rfl ?_
    refine f_getR (r := 17) (t := 11) (k := 2) (i := 26) (by decide +kernel) sh_0 rfl (by decide) lk_492 (by simp [x_ty, tyX11]) (gr_11_2 sh_0) ?_
    refine f_getI (t := 7) (k := 2) (i := 317) (by decide +kernel) sh_17 rfl (by decide) lk_292 rfl ?_
    exact f_iret (ty := .int) rfl rfl (by decide +kernel) rfl h
  replace h := h.2 c6
  by_cases c7 : v1 = 7
  · replace h := h.1 c7
    refine o_tableIn (off := 105) (tgt := 106) (d_X11_about_1) (by rw [c7]; decide) (by rw [c7]; decide) (by rw [c7]; rfl) (by decide) ?_
    refine o_aload_n (k := 0) 0 (by decide +kernel) rfl ?_
    refine f_getR (r := 1) (t := 11) (k := 0) (i := 10) (by decide +kernel) sh_0 rfl (by decide) lk_490 (by simp [x_ty, tyX11]) (gr_11_0 sh_0) ?_
    refine f_getR (r := 7) (t := 3) (k := 7) (i := 254) (by decide +kernel) sh_1 rfl (by decide) lk_196 (by simp [x_ty, tyX3]) (gr_3_7 sh_1) ?_
    refine f_getI (t := 5) (k := 2) (i := 320) (by decide +kernel) sh_7 rfl (by decide) lk_168 rfl ?_
    exact f_iret (ty := .int) rfl rfl (by decide +kernel) rfl h
  replace h := h.2 c7
  by_cases c8 : v1 = 8
  · replace h := h.1 c8
    refine o_tableIn (off := 116) (tgt := 117) (d_X11_about_1) (by rw [c8]; decide) (by rw [c8]; decide) (by rw [c8]; rfl) (by decide) ?_
    refine o_aload_n (k := 0) 0 (by decide +kernel) rfl ?_
    refine f_getR (r := 1) (t := 11) (k := 0) (i := 10) (by decide +kernel) sh_0 rfl (by decide) lk_490 (by simp [x_ty, tyX11]) (gr_11_0 sh_0) ?_
    refine f_getR (r := 10) (t := 3) (k := 8) (i := 294) (by decide +kernel) sh_1 rfl (by decide) lk_199 (by simp [x_ty, tyX3]) (gr_3_8 sh_1) ?_
    refine f_getI (t := 5) (k := 2) (i := 320) (by decide +kernel) sh_10 rfl (by decide) lk_168 rfl ?_
    exact f_iret (ty := .int) rfl rfl (by decide +kernel) rfl h
  replace h := h.2 c8
  by_cases c9 : v1 = 9
  · replace h := h.1 c9
    refine o_tableIn (off := 127) (tgt := 128) (d_X11_about_1) (by rw [c9]; decide) (by rw [c9]; decide) (by rw [c9]; rfl) (by decide) ?_
    refine o_aload_n (k := 0) 0 (by decide +kernel) rfl ?_
    refine f_getR (r := 314) (t := 11) (k := 11) (i := 62) (by decide +kernel) sh_0 rfl (by decide) lk_501 (by simp [x_ty, tyX11]) (gr_11_11 sh_0) ?_
    refine f_getI (t := 8) (k := 1) (i := 162) (by decide +kernel) sh_314 rfl (by decide) lk_353 rfl ?_
    exact f_iret (ty := .int) rfl rfl (by decide +kernel) rfl h
  replace h := h.2 c9
  refine o_tableOut (tgt := 136) (d_X11_about_1) (by have := x_ne (z := 0) (by decide) c0; have := x_ne (z := 1) (by decide) c1; have := x_ne (z := 2) (by decide) c2; have := x_ne (z := 3) (by decide) c3; have := x_ne (z := 4) (by decide) c4; have := x_ne (z := 5) (by decide) c5; have := x_ne (z := 6) (by decide) c6; have := x_ne (z := 7) (by decide) c7; have := x_ne (z := 8) (by decide) c8; have := x_ne (z := 9) (by decide) c9; omega) (by decide) ?_
  refine o_bipush (n := -2) (v := (-2)) (by decide +kernel) (by decide) ?_
  exact f_iret (ty := .int) rfl rfl (by decide +kernel) rfl h
set_option maxRecDepth 20000 in
theorem e_X11_textTold {d : Nat} {K : x_T → Option Nat → Prop} {v1 : Int32} {τ : x_T} (h : (v1 < 0 → K τ none) ∧ (¬ v1 < 0 → (τ.1 0 4 ≤ v1 → K τ none) ∧ (¬ τ.1 0 4 ≤ v1 → (4 ≤ v1 → K τ none) ∧ (¬ 4 ≤ v1 → vp_in v1 4 ∧ (∀ c1, c1 = 139 + 1 + 9 * v1.toNatClampNeg → x_sh c1 = (9, 10) ∧ (K τ (some c1))))))) : x_CR d mX11_textTold [.ref 0, .int v1] τ K := by
  refine x_CR_of (by decide) (Nat.le_of_ble_eq_true rfl) ?_
  show x_WR d mX11_textTold K 0 [(0, .ref 0), (1, .int v1)] [] τ
  refine o_iload_n (k := 1) 1 (by decide +kernel) rfl ?_
  refine o_if_lt (off := 29) 30 (by decide +kernel) (by decide) (fun q => ?_) (fun q => ?_)
  · replace h := h.1 q
    refine o_null (by decide +kernel) ?_
    exact f_aret (r := none) rfl (by decide +kernel) rfl h
  · replace h := h.2 q
    refine o_iload_n (k := 1) 1 (by decide +kernel) rfl ?_
    refine o_aload_n (k := 0) 0 (by decide +kernel) rfl ?_
    refine f_getI (t := 11) (k := 4) (i := 37) (by decide +kernel) sh_0 rfl (by decide) lk_494 rfl ?_
    refine o_icmp_ge (off := 21) 30 (by decide +kernel) (by decide) (fun q => ?_) (fun q => ?_)
    · replace h := h.1 q
      refine o_null (by decide +kernel) ?_
      exact f_aret (r := none) rfl (by decide +kernel) rfl h
    · replace h := h.2 q
      refine o_iload_n (k := 1) 1 (by decide +kernel) rfl ?_
      refine o_aload_n (k := 0) 0 (by decide +kernel) rfl ?_
      refine f_getR (r := 139) (t := 11) (k := 3) (i := 32) (by decide +kernel) sh_0 rfl (by decide) lk_493 (by simp [x_ty, tyX11]) (gr_11_3 sh_0) ?_
      refine f_alen (v := 4) (by decide +kernel) sh_139 (by decide) (by decide) ?_
      refine o_icmp_ge (off := 12) 30 (by decide +kernel) (by decide) (fun q => ?_) (fun q => ?_)
      · replace h := h.1 q
        refine o_null (by decide +kernel) ?_
        exact f_aret (r := none) rfl (by decide +kernel) rfl h
      · replace h := h.2 q
        refine o_aload_n (k := 0) 0 (by decide +kernel) rfl ?_
        refine f_getR (r := 139) (t := 11) (k := 3) (i := 32) (by decide +kernel) sh_0 rfl (by decide) lk_493 (by simp [x_ty, tyX11]) (gr_11_3 sh_0) ?_
        refine o_iload_n (k := 1) 1 (by decide +kernel) rfl ?_
        obtain ⟨hi, h⟩ := h
        obtain ⟨c1, ec1⟩ : ∃ y : Nat, y = 139 + 1 + 9 * v1.toNatClampNeg := ⟨_, rfl⟩
        replace h := h c1 ec1
        obtain ⟨hsc1, h⟩ := h
        refine f_aaldT (r := c1) (by decide +kernel) sh_139 hi (by rw [ec1]; exact gr_23 sh_139) ?_
        refine o_goto (off := 4) 31 (by decide +kernel) (by decide) ?_
        exact f_aret (r := (some c1)) rfl (by decide +kernel) rfl h
set_option maxRecDepth 20000 in
theorem e_X11_letRule {d : Nat} {K : x_T → Prop} {v1 : Int32} {τ : x_T} (h : ∀ t1, t1 = x_w1 τ 0 5 v1 → (x_CR d mX11_textTold [.ref 0, .int v1] t1 (fun t2 a3 => ∀ t4, t4 = (t2.1, t2.2.1, t2.2.2.1, a3) → (K t4)))) : x_CV (d + 1) mX11_letRule [.ref 0, .int v1] τ K := by
  refine x_CV_of (by decide) (Nat.le_of_ble_eq_true rfl) ?_
  show x_WV (d + 1) mX11_letRule K 0 [(0, .ref 0), (1, .int v1)] [] τ
  refine o_aload_n (k := 0) 0 (by decide +kernel) rfl ?_
  refine o_iload_n (k := 1) 1 (by decide +kernel) rfl ?_
  refine f_putI (t := 11) (k := 5) (i := 41) (by decide +kernel) sh_0 rfl (by decide) lk_495 rfl rfl ?_
  refine f_name (fun t1 et1 => ?_)
  replace h := h t1 et1
  refine o_aload_n (k := 0) 0 (by decide +kernel) rfl ?_
  refine f_getR (r := 329) (t := 11) (k := 13) (i := 80) (by decide +kernel) sh_0 rfl (by decide) lk_503 (by simp [x_ty, tyX11]) (gr_11_13 sh_0) ?_
  refine o_aload_n (k := 0) 0 (by decide +kernel) rfl ?_
  refine o_iload_n (k := 1) 1 (by decide +kernel) rfl ?_
  refine f_callVR (μ' := mX11_textTold) (i := 179) (vs := [.int v1]) (by decide +kernel) lk_1051 (vok_mX11_textTold) sh_0 rfl rfl rfl rfl (Nat.le_of_ble_eq_true rfl) ?_
  refine x_CR.mono h (fun t2 a3 h => ?_)
  refine f_putRu (i := 323) (r := a3) (by decide +kernel) lk_411 ?_
  refine f_name (fun t4 et4 => ?_)
  replace h := h t4 et4
  exact f_vret rfl (by decide +kernel) rfl h
theorem d_X11_isDone_33 : decode mX11_isDone.2.1 33 = .ok (.tableswitch (150) (4) (10) #[(43), (58), (72), (87), (104), (109), (114)], 43) := by decide +kernel
set_option maxRecDepth 20000 in
theorem e_X11_isDone {d : Nat} {K : x_T → Int32 → Prop} {r1 : Nat} (h1 : x_sh r1 = (9, 10)) {v2 : Int32} {τ : x_T} (h : (v2 < 0 → K τ 0) ∧ (¬ v2 < 0 → (v2 < 24 → vp_in v2 24 ∧ (∀ y1, y1 = τ.1 (r1 + 2) v2.toNatClampNeg → (vp_in v2 24 ∧ (∀ y2, y2 = τ.1 (r1 + 3) v2.toNatClampNeg → (vp_in v2 24 ∧ (∀ y3, y3 = τ.1 (r1 + 1) v2.toNatClampNeg → ((y3 = 4 → x_CI d mX11_house [.ref 0, .int y1] τ (fun t4 a5 => (a5 = (-1) → K t4 0) ∧ (¬ a5 = (-1) → K t4 1))) ∧ (¬ y3 = 4 → (y3 = 5 → vp_in v2 24 ∧ (x_CI d mX11_lane [.ref 0, .int y1, .int y2, .int (τ.1 (r1 + 4) v2.toNatClampNeg)] τ (fun t6 a7 => (narrow .boolean (.int a7) = .int a7 ∧ K t6 a7)))) ∧ (¬ y3 = 5 → (y3 = 6 → x_CI d mX11_pusher [.ref 0, .int y1] τ (fun t8 a9 => (a9 = (-1) → K t8 0) ∧ (¬ a9 = (-1) → K t8 1))) ∧ (¬ y3 = 6 → (y3 = 7 → x_CI d mX11_push [.ref 0, .int y1, .int y2] τ (fun t10 a11 => (a11 = (-1) → K t10 0) ∧ (¬ a11 = (-1) → K t10 1))) ∧ (¬ y3 = 7 → (y3 = 8 → x_CI d mX11_tip [.ref 0] τ (fun t12 a13 => (narrow .boolean (.int a13) = .int a13 ∧ K t12 a13))) ∧ (¬ y3 = 8 → (y3 = 9 → x_CI d mX11_mend [.ref 0] τ (fun t14 a15 => (narrow .boolean (.int a15) = .int a15 ∧ K t14 a15))) ∧ (¬ y3 = 9 → (y3 = 10 → ∀ y16, y16 = (if 9999 - (τ.1 13 5) < y1 then 9999 - (τ.1 13 5) else y1) → (x_CI d mX11_minute [.ref 0, .int y16] τ (fun t17 a18 => (¬ y16 = y1 → K t17 0) ∧ (y16 = y1 → K t17 1)))) ∧ (¬ y3 = 10 → (K τ 1))))))))))))))) ∧ (¬ v2 < 24 → K τ 0))) : x_CI (d + 1) mX11_isDone [.ref 0, .ref r1, .int v2] τ K := by
  refine x_CI_of (by decide) (Nat.le_of_ble_eq_true rfl) ?_
  show x_WI (d + 1) mX11_isDone K 0 [(0, .ref 0), (1, .ref r1), (2, .int v2)] [] τ
  refine o_iload_n (k := 2) 2 (by decide +kernel) rfl ?_
  refine o_if_lt (off := 9) 10 (by decide +kernel) (by decide) (fun q => ?_) (fun q => ?_)
  · replace h := h.1 q
    refine o_iconst (n := 0) (v := 0) (by decide +kernel) (by decide) ?_
    exact f_iret (ty := .boolean) rfl (by decide) (by decide +kernel) rfl h
  · replace h := h.2 q
    refine o_iload_n (k := 2) 2 (by decide +kernel) rfl ?_
    refine o_bipush (n := 24) (v := 24) (by decide +kernel) (by decide) ?_
    refine o_icmp_lt (off := 5) 12 (by decide +kernel) (by decide) (fun q => ?_) (fun q => ?_)
    · replace h := h.1 q
      refine o_aload_n (k := 1) 1 (by decide +kernel) rfl ?_
      refine f_getR (r := (r1 + 2)) (t := 9) (k := 1) (i := 327) (by decide +kernel) h1 rfl (by decide) lk_310 (by simp [x_ty, tyX9]) (gr_9_1 h1) ?_
      refine o_iload_n (k := 2) 2 (by decide +kernel) rfl ?_
      obtain ⟨hi, h⟩ := h
      refine f_iald (by decide +kernel) (shd_9_2 h1) hi rfl ?_
      refine o_name (fun y1 ey1 => ?_)
      replace h := h y1 ey1
      refine o_istore_n (k := 3) (L' := [(3, .int y1), (0, .ref 0), (1, .ref r1), (2, .int v2)]) (by decide +kernel) (by decide) rfl ?_
      refine o_aload_n (k := 1) 2 (by decide +kernel) rfl ?_
      refine f_getR (r := (r1 + 3)) (t := 9) (k := 2) (i := 330) (by decide +kernel) h1 rfl (by decide) lk_312 (by simp [x_ty, tyX9]) (gr_9_2 h1) ?_
      refine o_iload_n (k := 2) 3 (by decide +kernel) rfl ?_
      obtain ⟨hi, h⟩ := h
      refine f_iald (by decide +kernel) (shd_9_3 h1) hi rfl ?_
      refine o_name (fun y2 ey2 => ?_)
      replace h := h y2 ey2
      refine o_istore (k := 4) (L' := [(4, .int y2), (3, .int y1), (0, .ref 0), (1, .ref r1), (2, .int v2)]) (by decide +kernel) (by decide) rfl ?_
      refine o_aload_n (k := 1) 3 (by decide +kernel) rfl ?_
      refine f_getR (r := (r1 + 1)) (t := 9) (k := 0) (i := 333) (by decide +kernel) h1 rfl (by decide) lk_308 (by simp [x_ty, tyX9]) (gr_9_0 h1) ?_
      refine o_iload_n (k := 2) 4 (by decide +kernel) rfl ?_
      obtain ⟨hi, h⟩ := h
      refine f_iald (by decide +kernel) (shd_9_1 h1) hi rfl ?_
      refine o_name (fun y3 ey3 => ?_)
      replace h := h y3 ey3
      by_cases c4 : y3 = 4
      · replace h := h.1 c4
        refine o_tableIn (off := 43) (tgt := 76) (d_X11_isDone_33) (by rw [c4]; decide) (by rw [c4]; decide) (by rw [c4]; rfl) (by decide) ?_
        refine o_aload_n (k := 0) 2 (by decide +kernel) rfl ?_
        refine o_iload_n (k := 3) 1 (by decide +kernel) rfl ?_
        refine f_callVI (μ' := mX11_house) (i := 336) (vs := [.int y1]) (by decide +kernel) lk_1067 (vok_mX11_house) sh_0 rfl rfl rfl rfl (Nat.le_of_ble_eq_true rfl) ?_
        refine x_CI.mono h (fun t4 a5 h => ?_)
        refine o_iconst (n := -1) (v := (-1)) (by decide +kernel) (by decide) ?_
        refine o_icmp_eq (off := 7) 89 (by decide +kernel) (by decide) (fun q => ?_) (fun q => ?_)
        · replace h := h.1 q
          refine o_iconst (n := 0) (v := 0) (by decide +kernel) (by decide) ?_
          exact f_iret (ty := .boolean) rfl (by decide) (by decide +kernel) rfl h
        · replace h := h.2 q
          refine o_iconst (n := 1) (v := 1) (by decide +kernel) (by decide) ?_
          refine o_goto (off := 4) 90 (by decide +kernel) (by decide) ?_
          exact f_iret (ty := .boolean) rfl (by decide) (by decide +kernel) rfl h
      replace h := h.2 c4
      by_cases c5 : y3 = 5
      · replace h := h.1 c5
        refine o_tableIn (off := 58) (tgt := 91) (d_X11_isDone_33) (by rw [c5]; decide) (by rw [c5]; decide) (by rw [c5]; rfl) (by decide) ?_
        refine o_aload_n (k := 0) 2 (by decide +kernel) rfl ?_
        refine o_iload_n (k := 3) 1 (by decide +kernel) rfl ?_
        refine o_iload (k := 4) 0 (by decide +kernel) rfl ?_
        refine o_aload_n (k := 1) 3 (by decide +kernel) rfl ?_
        refine f_getR (r := (r1 + 4)) (t := 9) (k := 3) (i := 338) (by decide +kernel) h1 rfl (by decide) lk_314 (by simp [x_ty, tyX9]) (gr_9_3 h1) ?_
        refine o_iload_n (k := 2) 4 (by decide +kernel) rfl ?_
        obtain ⟨hi, h⟩ := h
        refine f_iald (by decide +kernel) (shd_9_4 h1) hi rfl ?_
        refine f_callVI (μ' := mX11_lane) (i := 341) (vs := [.int y1, .int y2, .int (τ.1 (r1 + 4) v2.toNatClampNeg)]) (by decide +kernel) lk_1068 (vok_mX11_lane) sh_0 rfl rfl rfl rfl (Nat.le_of_ble_eq_true rfl) ?_
        refine x_CI.mono h (fun t6 a7 h => ?_)
        exact f_iret (ty := .boolean) rfl h.1 (by decide +kernel) rfl h.2
      replace h := h.2 c5
      by_cases c6 : y3 = 6
      · replace h := h.1 c6
        refine o_tableIn (off := 72) (tgt := 105) (d_X11_isDone_33) (by rw [c6]; decide) (by rw [c6]; decide) (by rw [c6]; rfl) (by decide) ?_
        refine o_aload_n (k := 0) 2 (by decide +kernel) rfl ?_
        refine o_iload_n (k := 3) 1 (by decide +kernel) rfl ?_
        refine f_callVI (μ' := mX11_pusher) (i := 345) (vs := [.int y1]) (by decide +kernel) lk_1069 (vok_mX11_pusher) sh_0 rfl rfl rfl rfl (Nat.le_of_ble_eq_true rfl) ?_
        refine x_CI.mono h (fun t8 a9 h => ?_)
        refine o_iconst (n := -1) (v := (-1)) (by decide +kernel) (by decide) ?_
        refine o_icmp_eq (off := 7) 118 (by decide +kernel) (by decide) (fun q => ?_) (fun q => ?_)
        · replace h := h.1 q
          refine o_iconst (n := 0) (v := 0) (by decide +kernel) (by decide) ?_
          exact f_iret (ty := .boolean) rfl (by decide) (by decide +kernel) rfl h
        · replace h := h.2 q
          refine o_iconst (n := 1) (v := 1) (by decide +kernel) (by decide) ?_
          refine o_goto (off := 4) 119 (by decide +kernel) (by decide) ?_
          exact f_iret (ty := .boolean) rfl (by decide) (by decide +kernel) rfl h
      replace h := h.2 c6
      by_cases c7 : y3 = 7
      · replace h := h.1 c7
        refine o_tableIn (off := 87) (tgt := 120) (d_X11_isDone_33) (by rw [c7]; decide) (by rw [c7]; decide) (by rw [c7]; rfl) (by decide) ?_
        refine o_aload_n (k := 0) 2 (by decide +kernel) rfl ?_
        refine o_iload_n (k := 3) 1 (by decide +kernel) rfl ?_
        refine o_iload (k := 4) 0 (by decide +kernel) rfl ?_
        refine f_callVI (μ' := mX11_push) (i := 347) (vs := [.int y1, .int y2]) (by decide +kernel) lk_1070 (vok_mX11_push) sh_0 rfl rfl rfl rfl (Nat.le_of_ble_eq_true rfl) ?_
        refine x_CI.mono h (fun t10 a11 h => ?_)
        refine o_iconst (n := -1) (v := (-1)) (by decide +kernel) (by decide) ?_
        refine o_icmp_eq (off := 7) 135 (by decide +kernel) (by decide) (fun q => ?_) (fun q => ?_)
        · replace h := h.1 q
          refine o_iconst (n := 0) (v := 0) (by decide +kernel) (by decide) ?_
          exact f_iret (ty := .boolean) rfl (by decide) (by decide +kernel) rfl h
        · replace h := h.2 q
          refine o_iconst (n := 1) (v := 1) (by decide +kernel) (by decide) ?_
          refine o_goto (off := 4) 136 (by decide +kernel) (by decide) ?_
          exact f_iret (ty := .boolean) rfl (by decide) (by decide +kernel) rfl h
      replace h := h.2 c7
      by_cases c8 : y3 = 8
      · replace h := h.1 c8
        refine o_tableIn (off := 104) (tgt := 137) (d_X11_isDone_33) (by rw [c8]; decide) (by rw [c8]; decide) (by rw [c8]; rfl) (by decide) ?_
        refine o_aload_n (k := 0) 2 (by decide +kernel) rfl ?_
        refine f_callVI (μ' := mX11_tip) (i := 350) (vs := []) (by decide +kernel) lk_1071 (vok_mX11_tip) sh_0 rfl rfl rfl rfl (Nat.le_of_ble_eq_true rfl) ?_
        refine x_CI.mono h (fun t12 a13 h => ?_)
        exact f_iret (ty := .boolean) rfl h.1 (by decide +kernel) rfl h.2
      replace h := h.2 c8
      by_cases c9 : y3 = 9
      · replace h := h.1 c9
        refine o_tableIn (off := 109) (tgt := 142) (d_X11_isDone_33) (by rw [c9]; decide) (by rw [c9]; decide) (by rw [c9]; rfl) (by decide) ?_
        refine o_aload_n (k := 0) 2 (by decide +kernel) rfl ?_
        refine f_callVI (μ' := mX11_mend) (i := 354) (vs := []) (by decide +kernel) lk_1072 (vok_mX11_mend) sh_0 rfl rfl rfl rfl (Nat.le_of_ble_eq_true rfl) ?_
        refine x_CI.mono h (fun t14 a15 h => ?_)
        exact f_iret (ty := .boolean) rfl h.1 (by decide +kernel) rfl h.2
      replace h := h.2 c9
      by_cases c10 : y3 = 10
      · replace h := h.1 c10
        refine o_tableIn (off := 114) (tgt := 147) (d_X11_isDone_33) (by rw [c10]; decide) (by rw [c10]; decide) (by rw [c10]; rfl) (by decide) ?_
        refine o_iload_n (k := 3) 1 (by decide +kernel) rfl ?_
        refine o_sipush (n := 9999) (v := 9999) (by decide +kernel) (by decide) ?_
        refine o_aload_n (k := 0) 2 (by decide +kernel) rfl ?_
        refine f_getR (r := 13) (t := 11) (k := 1) (i := 19) (by decide +kernel) sh_0 rfl (by decide) lk_491 (by simp [x_ty, tyX11]) (gr_11_1 sh_0) ?_
        refine f_getI (t := 1) (k := 5) (i := 146) (by decide +kernel) sh_13 rfl (by decide) lk_247 rfl ?_
        refine o_isub (by decide +kernel) ?_
        refine o_mmin (i := 357) (by decide +kernel) lk_692 lm_min (Nat.le_of_ble_eq_true rfl) ?_
        refine o_name (fun y16 ey16 => ?_)
        replace h := h y16 ey16
        refine o_istore (k := 5) (L' := [(5, .int y16), (4, .int y2), (3, .int y1), (0, .ref 0), (1, .ref r1), (2, .int v2)]) (by decide +kernel) (by decide) rfl ?_
        refine o_aload_n (k := 0) 3 (by decide +kernel) rfl ?_
        refine o_iload (k := 5) 0 (by decide +kernel) rfl ?_
        refine f_callVI (μ' := mX11_minute) (i := 362) (vs := [.int y16]) (by decide +kernel) lk_1073 (vok_mX11_minute) sh_0 rfl rfl rfl rfl (Nat.le_of_ble_eq_true rfl) ?_
        refine x_CI.mono h (fun t17 a18 h => ?_)
        refine o_pop (by decide +kernel) rfl ?_
        refine o_iload (k := 5) 0 (by decide +kernel) rfl ?_
        refine o_iload_n (k := 3) 2 (by decide +kernel) rfl ?_
        refine o_icmp_ne (off := 7) 181 (by decide +kernel) (by decide) (fun q => ?_) (fun q => ?_)
        · replace h := h.1 q
          refine o_iconst (n := 0) (v := 0) (by decide +kernel) (by decide) ?_
          exact f_iret (ty := .boolean) rfl (by decide) (by decide +kernel) rfl h
        · replace h := h.2 q
          refine o_iconst (n := 1) (v := 1) (by decide +kernel) (by decide) ?_
          refine o_goto (off := 4) 182 (by decide +kernel) (by decide) ?_
          exact f_iret (ty := .boolean) rfl (by decide) (by decide +kernel) rfl h
      replace h := h.2 c10
      refine o_tableOut (tgt := 183) (d_X11_isDone_33) (by have := x_ne (z := 4) (by decide) c4; have := x_ne (z := 5) (by decide) c5; have := x_ne (z := 6) (by decide) c6; have := x_ne (z := 7) (by decide) c7; have := x_ne (z := 8) (by decide) c8; have := x_ne (z := 9) (by decide) c9; have := x_ne (z := 10) (by decide) c10; omega) (by decide) ?_
      refine o_iconst (n := 1) (v := 1) (by decide +kernel) (by decide) ?_
      exact f_iret (ty := .boolean) rfl (by decide) (by decide +kernel) rfl h
    · replace h := h.2 q
      refine o_iconst (n := 0) (v := 0) (by decide +kernel) (by decide) ?_
      exact f_iret (ty := .boolean) rfl (by decide) (by decide +kernel) rfl h
set_option maxRecDepth 20000 in
theorem e_X11_held {d : Nat} {K : x_T → Int32 → Prop} {v0 : Int32} {v1 : Int32} {v2 : Int32} {τ : x_T} (h : ∀ y1, y1 = (if v0 < v2 then v0 else v2) → (∀ y2, y2 = (if v1 < y1 then y1 else v1) → (K τ y2))) : x_CI (d + 1) mX11_held [.int v0, .int v1, .int v2] τ K := by
  refine x_CI_of (by decide) (Nat.le_of_ble_eq_true rfl) ?_
  show x_WI (d + 1) mX11_held K 0 [(0, .int v0), (1, .int v1), (2, .int v2)] [] τ
  refine o_iload_n (k := 1) 1 (by decide +kernel) rfl ?_
  refine o_iload_n (k := 2) 2 (by decide +kernel) rfl ?_
  refine o_iload_n (k := 0) 0 (by decide +kernel) rfl ?_
  refine o_mmin (i := 357) (by decide +kernel) lk_692 lm_min (Nat.le_of_ble_eq_true rfl) ?_
  refine o_name (fun y1 ey1 => ?_)
  replace h := h y1 ey1
  refine o_mmax (i := 364) (by decide +kernel) lk_693 lm_max (Nat.le_of_ble_eq_true rfl) ?_
  refine o_name (fun y2 ey2 => ?_)
  replace h := h y2 ey2
  exact f_iret (ty := .int) rfl rfl (by decide +kernel) rfl h
