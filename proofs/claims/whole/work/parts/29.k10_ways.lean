set_option maxRecDepth 20000 in
theorem e_X10_seekRoute {d : Nat} {K : x_T → Int32 → Prop} {v1 : Int32} {τ : x_T} (h : ∀ t1, t1 = x_w1 τ 333 9 0 → (∀ t2, t2 = x_w1 t1 333 4 0 → (∀ t3, t3 = x_w1 t2 333 5 (-1) → (x_WI (d + 1) mX10_seekRoute K 17 [(0, .ref 333), (1, .int v1), (2, .int 0)] [] t3)))) : x_CI (d + 1) mX10_seekRoute [.ref 333, .int v1] τ K := by
  refine x_CI_of (by decide) (Nat.le_of_ble_eq_true rfl) ?_
  show x_WI (d + 1) mX10_seekRoute K 0 [(0, .ref 333), (1, .int v1)] [] τ
  refine o_aload_n (k := 0) 0 (by decide +kernel) rfl ?_
  refine o_iconst (n := 0) (v := 0) (by decide +kernel) (by decide) ?_
  refine f_putI (t := 10) (k := 9) (i := 35) (by decide +kernel) sh_333 rfl (by decide) lk_451 rfl rfl ?_
  refine f_name (fun t1 et1 => ?_)
  replace h := h t1 et1
  refine o_aload_n (k := 0) 0 (by decide +kernel) rfl ?_
  refine o_iconst (n := 0) (v := 0) (by decide +kernel) (by decide) ?_
  refine f_putI (t := 10) (k := 4) (i := 39) (by decide +kernel) sh_333 rfl (by decide) lk_446 rfl rfl ?_
  refine f_name (fun t2 et2 => ?_)
  replace h := h t2 et2
  refine o_aload_n (k := 0) 0 (by decide +kernel) rfl ?_
  refine o_iconst (n := -1) (v := (-1)) (by decide +kernel) (by decide) ?_
  refine f_putI (t := 10) (k := 5) (i := 42) (by decide +kernel) sh_333 rfl (by decide) lk_447 rfl rfl ?_
  refine f_name (fun t3 et3 => ?_)
  replace h := h t3 et3
  refine o_iconst (n := 0) (v := 0) (by decide +kernel) (by decide) ?_
  refine o_istore_n (k := 2) (L' := [(2, .int 0), (0, .ref 333), (1, .int v1)]) (by decide +kernel) (by decide) rfl ?_
  refine o_sub [1, 2, 0] rfl ?_
  exact h
set_option maxRecDepth 20000 in
theorem k_X10_seekRoute_17 {d : Nat} {K : x_T → Int32 → Prop} {v1 : Int32} {v2 : Int32} {τ : x_T} (h : (72 ≤ v2 → x_CI d mX3_isHouse [.ref 1, .int v1] τ (fun t1 a2 => (¬ a2 = 0 → x_CV d mX10_comeTo [.ref 333, .int v1, .int 0, .int (-1)] t1 (fun t3 => x_WI (d + 1) mX10_seekRoute K 59 [(0, .ref 333), (2, .int 0)] [] t3)) ∧ (a2 = 0 → K t1 (-1)))) ∧ (¬ 72 ≤ v2 → vp_in v2 72 ∧ (∀ t5, t5 = x_w1 τ 335 v2.toNatClampNeg (-2) → (∀ y6, y6 = v2 + 1 → (x_WI (d + 1) mX10_seekRoute K 17 [(0, .ref 333), (1, .int v1), (2, .int y6)] [] t5))))) : x_WI (d + 1) mX10_seekRoute K 17 [(0, .ref 333), (1, .int v1), (2, .int v2)] [] τ := by
  refine o_iload_n (k := 2) 2 (by decide +kernel) rfl ?_
  refine o_bipush (n := 72) (v := 72) (by decide +kernel) (by decide) ?_
  refine o_icmp_ge (off := 17) 37 (by decide +kernel) (by decide) (fun q => ?_) (fun q => ?_)
  · replace h := h.1 q
    refine o_aload_n (k := 0) 0 (by decide +kernel) rfl ?_
    refine f_getR (r := 1) (t := 10) (k := 0) (i := 27) (by decide +kernel) sh_333 rfl (by decide) lk_442 (by simp [x_ty, tyX10]) (gr_10_0 sh_333) ?_
    refine o_iload_n (k := 1) 1 (by decide +kernel) rfl ?_
    refine f_callVI (μ' := mX3_isHouse) (i := 45) (vs := [.int v1]) (by decide +kernel) lk_1159 (vok_mX3_isHouse) sh_1 rfl rfl rfl rfl (Nat.le_of_ble_eq_true rfl) ?_
    refine x_CI.mono h (fun t1 a2 h => ?_)
    refine o_if_ne (off := 5) 50 (by decide +kernel) (by decide) (fun q => ?_) (fun q => ?_)
    · replace h := h.1 q
      refine o_aload_n (k := 0) 0 (by decide +kernel) rfl ?_
      refine o_iload_n (k := 1) 1 (by decide +kernel) rfl ?_
      refine o_iconst (n := 0) (v := 0) (by decide +kernel) (by decide) ?_
      refine o_iconst (n := -1) (v := (-1)) (by decide +kernel) (by decide) ?_
      refine f_callVV (μ' := mX10_comeTo) (i := 51) (vs := [.int v1, .int 0, .int (-1)]) (by decide +kernel) lk_1160 (vok_mX10_comeTo) sh_333 rfl rfl rfl rfl (Nat.le_of_ble_eq_true rfl) ?_
      refine x_CV.mono h (fun t3 h => ?_)
      refine o_iconst (n := 0) (v := 0) (by decide +kernel) (by decide) ?_
      refine o_istore_n (k := 2) (L' := [(2, .int 0), (0, .ref 333), (1, .int v1)]) (by decide +kernel) (by decide) rfl ?_
      refine o_sub [1, 0] rfl ?_
      exact h
    · replace h := h.2 q
      refine o_iconst (n := -1) (v := (-1)) (by decide +kernel) (by decide) ?_
      exact f_iret (ty := .int) rfl rfl (by decide +kernel) rfl h
  · replace h := h.2 q
    refine o_aload_n (k := 0) 0 (by decide +kernel) rfl ?_
    refine f_getR (r := 335) (t := 10) (k := 3) (i := 15) (by decide +kernel) sh_333 rfl (by decide) lk_445 (by simp [x_ty, tyX10]) (gr_10_3 sh_333) ?_
    refine o_iload_n (k := 2) 2 (by decide +kernel) rfl ?_
    refine o_bipush (n := -2) (v := (-2)) (by decide +kernel) (by decide) ?_
    obtain ⟨hi, h⟩ := h
    refine f_iast (by decide +kernel) sh_335 hi rfl ?_
    refine f_name (fun t5 et5 => ?_)
    replace h := h t5 et5
    obtain ⟨y6, ey6⟩ : ∃ y : Int32, y = v2 + 1 := ⟨_, rfl⟩
    replace h := h y6 ey6
    refine o_iinc (i := 2) (n := 1) (v := y6) (L' := [(2, .int y6), (0, .ref 333), (1, .int v1)]) 2 (by decide +kernel) rfl (by rw [ey6]; rfl) (by decide) rfl ?_
    refine o_goto (off := -17) 17 (by decide +kernel) (by decide) ?_
    refine o_sub [1, 2, 0] rfl ?_
    exact h
set_option maxRecDepth 20000 in
theorem k_X10_seekRoute_59 {d : Nat} {K : x_T → Int32 → Prop} {v2 : Int32} {τ : x_T} (h : (τ.1 333 4 ≤ v2 → K τ (-1)) ∧ (¬ τ.1 333 4 ≤ v2 → (72 ≤ v2 → K τ (-1)) ∧ (¬ 72 ≤ v2 → vp_in v2 72 ∧ (∀ y1, y1 = τ.1 334 v2.toNatClampNeg → ((¬ y1 / 8 = τ.1 7 2 → x_CV d mX10_goOnFrom [.ref 333, .int y1] τ (fun t2 => ∀ y4, y4 = v2 + 1 → (x_WI (d + 1) mX10_seekRoute K 59 [(0, .ref 333), (2, .int y4)] [] t2))) ∧ (y1 / 8 = τ.1 7 2 → ∀ t5, t5 = x_w1 τ 333 5 y1 → (x_CI d mX10_lanesBehind [.ref 333, .int y1] t5 (fun t6 a7 => ∀ t8, t8 = x_w1 t6 333 9 a7 → (K t8 (t8.1 333 9)))))))))) : x_WI (d + 1) mX10_seekRoute K 59 [(0, .ref 333), (2, .int v2)] [] τ := by
  refine o_iload_n (k := 2) 1 (by decide +kernel) rfl ?_
  refine o_aload_n (k := 0) 0 (by decide +kernel) rfl ?_
  refine f_getI (t := 10) (k := 4) (i := 39) (by decide +kernel) sh_333 rfl (by decide) lk_446 rfl ?_
  refine o_icmp_ge (off := 63) 127 (by decide +kernel) (by decide) (fun q => ?_) (fun q => ?_)
  · replace h := h.1 q
    refine o_iconst (n := -1) (v := (-1)) (by decide +kernel) (by decide) ?_
    exact f_iret (ty := .int) rfl rfl (by decide +kernel) rfl h
  · replace h := h.2 q
    refine o_iload_n (k := 2) 1 (by decide +kernel) rfl ?_
    refine o_bipush (n := 72) (v := 72) (by decide +kernel) (by decide) ?_
    refine o_icmp_ge (off := 57) 127 (by decide +kernel) (by decide) (fun q => ?_) (fun q => ?_)
    · replace h := h.1 q
      refine o_iconst (n := -1) (v := (-1)) (by decide +kernel) (by decide) ?_
      exact f_iret (ty := .int) rfl rfl (by decide +kernel) rfl h
    · replace h := h.2 q
      refine o_aload_n (k := 0) 0 (by decide +kernel) rfl ?_
      refine f_getR (r := 334) (t := 10) (k := 2) (i := 11) (by decide +kernel) sh_333 rfl (by decide) lk_444 (by simp [x_ty, tyX10]) (gr_10_2 sh_333) ?_
      refine o_iload_n (k := 2) 1 (by decide +kernel) rfl ?_
      obtain ⟨hi, h⟩ := h
      refine f_iald (by decide +kernel) sh_334 hi rfl ?_
      refine o_name (fun y1 ey1 => ?_)
      replace h := h y1 ey1
      refine o_istore_n (k := 3) (L' := [(3, .int y1), (0, .ref 333), (2, .int v2)]) (by decide +kernel) (by decide) rfl ?_
      refine o_iload_n (k := 3) 0 (by decide +kernel) rfl ?_
      refine o_bipush (n := 8) (v := 8) (by decide +kernel) (by decide) ?_
      refine o_idiv (by decide +kernel) (by decide) ?_
      refine o_aload_n (k := 0) 1 (by decide +kernel) rfl ?_
      refine f_getR (r := 1) (t := 10) (k := 0) (i := 27) (by decide +kernel) sh_333 rfl (by decide) lk_442 (by simp [x_ty, tyX10]) (gr_10_0 sh_333) ?_
      refine f_getR (r := 7) (t := 3) (k := 7) (i := 55) (by decide +kernel) sh_1 rfl (by decide) lk_194 (by simp [x_ty, tyX3]) (gr_3_7 sh_1) ?_
      refine f_getI (t := 5) (k := 2) (i := 59) (by decide +kernel) sh_7 rfl (by decide) lk_165 rfl ?_
      refine o_icmp_ne (off := 22) 116 (by decide +kernel) (by decide) (fun q => ?_) (fun q => ?_)
      · replace h := h.1 q
        refine o_aload_n (k := 0) 1 (by decide +kernel) rfl ?_
        refine o_iload_n (k := 3) 0 (by decide +kernel) rfl ?_
        refine f_callVV (μ' := mX10_goOnFrom) (i := 68) (vs := [.int y1]) (by decide +kernel) lk_1173 (vok_mX10_goOnFrom) sh_333 rfl rfl rfl rfl (Nat.le_of_ble_eq_true rfl) ?_
        refine x_CV.mono h (fun t2 h => ?_)
        obtain ⟨y4, ey4⟩ : ∃ y : Int32, y = v2 + 1 := ⟨_, rfl⟩
        replace h := h y4 ey4
        refine o_iinc (i := 2) (n := 1) (v := y4) (L' := [(2, .int y4), (3, .int y1), (0, .ref 333)]) 2 (by decide +kernel) rfl (by rw [ey4]; rfl) (by decide) rfl ?_
        refine o_goto (off := -65) 59 (by decide +kernel) (by decide) ?_
        refine o_sub [2, 0] rfl ?_
        exact h
      · replace h := h.2 q
        refine o_aload_n (k := 0) 1 (by decide +kernel) rfl ?_
        refine o_iload_n (k := 3) 0 (by decide +kernel) rfl ?_
        refine f_putI (t := 10) (k := 5) (i := 42) (by decide +kernel) sh_333 rfl (by decide) lk_447 rfl rfl ?_
        refine f_name (fun t5 et5 => ?_)
        replace h := h t5 et5
        refine o_aload_n (k := 0) 1 (by decide +kernel) rfl ?_
        refine o_aload_n (k := 0) 1 (by decide +kernel) rfl ?_
        refine o_iload_n (k := 3) 0 (by decide +kernel) rfl ?_
        refine f_callVI (μ' := mX10_lanesBehind) (i := 64) (vs := [.int y1]) (by decide +kernel) lk_1165 (vok_mX10_lanesBehind) sh_333 rfl rfl rfl rfl (Nat.le_of_ble_eq_true rfl) ?_
        refine x_CI.mono h (fun t6 a7 h => ?_)
        refine f_putI (t := 10) (k := 9) (i := 35) (by decide +kernel) sh_333 rfl (by decide) lk_451 rfl rfl ?_
        refine f_name (fun t8 et8 => ?_)
        replace h := h t8 et8
        refine o_aload_n (k := 0) 1 (by decide +kernel) rfl ?_
        refine f_getI (t := 10) (k := 9) (i := 35) (by decide +kernel) sh_333 rfl (by decide) lk_451 rfl ?_
        exact f_iret (ty := .int) rfl rfl (by decide +kernel) rfl h
set_option maxRecDepth 20000 in
theorem e_X10_goOnFrom {d : Nat} {K : x_T → Prop} {v1 : Int32} {τ : x_T} (h : ∀ y1, y1 = v1 - v1 / 8 * 8 → (x_WV (d + 1) mX10_goOnFrom K 7 [(0, .ref 333), (1, .int v1), (2, .int y1), (3, .int 0)] [] τ)) : x_CV (d + 1) mX10_goOnFrom [.ref 333, .int v1] τ K := by
  refine x_CV_of (by decide) (Nat.le_of_ble_eq_true rfl) ?_
  show x_WV (d + 1) mX10_goOnFrom K 0 [(0, .ref 333), (1, .int v1)] [] τ
  refine o_iload_n (k := 1) 1 (by decide +kernel) rfl ?_
  refine o_bipush (n := 8) (v := 8) (by decide +kernel) (by decide) ?_
  refine o_irem (by decide +kernel) (by decide) ?_
  refine o_name (fun y1 ey1 => ?_)
  replace h := h y1 ey1
  refine o_istore_n (k := 2) (L' := [(2, .int y1), (0, .ref 333), (1, .int v1)]) (by decide +kernel) (by decide) rfl ?_
  refine o_iconst (n := 0) (v := 0) (by decide +kernel) (by decide) ?_
  refine o_istore_n (k := 3) (L' := [(3, .int 0), (2, .int y1), (0, .ref 333), (1, .int v1)]) (by decide +kernel) (by decide) rfl ?_
  refine o_sub [2, 3, 1, 0] rfl ?_
  exact h
set_option maxRecDepth 20000 in
theorem k_X10_goOnFrom_7 {d : Nat} {K : x_T → Prop} {v1 : Int32} {v2 : Int32} {v3 : Int32} {τ : x_T} (h : (τ.1 1 0 ≤ v3 → K τ) ∧ (¬ τ.1 1 0 ≤ v3 → x_CI d mX3_laneBetween [.ref 1, .int v2, .int v3] τ (fun t1 a2 => (a2 ≤ 0 → x_WV (d + 1) mX10_goOnFrom K 40 [(0, .ref 333), (1, .int v1), (2, .int v2), (3, .int v3)] [] t1) ∧ (¬ a2 ≤ 0 → x_CV d mX10_comeTo [.ref 333, .int v3, .int (v1 / 8), .int v1] t1 (fun t3 => x_WV (d + 1) mX10_goOnFrom K 40 [(0, .ref 333), (1, .int v1), (2, .int v2), (3, .int v3)] [] t3))))) : x_WV (d + 1) mX10_goOnFrom K 7 [(0, .ref 333), (1, .int v1), (2, .int v2), (3, .int v3)] [] τ := by
  refine o_iload_n (k := 3) 3 (by decide +kernel) rfl ?_
  refine o_aload_n (k := 0) 0 (by decide +kernel) rfl ?_
  refine f_getR (r := 1) (t := 10) (k := 0) (i := 27) (by decide +kernel) sh_333 rfl (by decide) lk_442 (by simp [x_ty, tyX10]) (gr_10_0 sh_333) ?_
  refine f_getI (t := 3) (k := 0) (i := 72) (by decide +kernel) sh_1 rfl (by decide) lk_179 rfl ?_
  refine o_icmp_ge (off := 31) 46 (by decide +kernel) (by decide) (fun q => ?_) (fun q => ?_)
  · replace h := h.1 q
    exact f_vret rfl (by decide +kernel) rfl h
  · replace h := h.2 q
    refine o_aload_n (k := 0) 0 (by decide +kernel) rfl ?_
    refine f_getR (r := 1) (t := 10) (k := 0) (i := 27) (by decide +kernel) sh_333 rfl (by decide) lk_442 (by simp [x_ty, tyX10]) (gr_10_0 sh_333) ?_
    refine o_iload_n (k := 2) 2 (by decide +kernel) rfl ?_
    refine o_iload_n (k := 3) 3 (by decide +kernel) rfl ?_
    refine f_callVI (μ' := mX3_laneBetween) (i := 75) (vs := [.int v2, .int v3]) (by decide +kernel) lk_1177 (vok_mX3_laneBetween) sh_1 rfl rfl rfl rfl (Nat.le_of_ble_eq_true rfl) ?_
    refine x_CI.mono h (fun t1 a2 h => ?_)
    refine o_if_le (off := 13) 40 (by decide +kernel) (by decide) (fun q => ?_) (fun q => ?_)
    · replace h := h.1 q
      exact h
    · replace h := h.2 q
      refine o_aload_n (k := 0) 0 (by decide +kernel) rfl ?_
      refine o_iload_n (k := 3) 3 (by decide +kernel) rfl ?_
      refine o_iload_n (k := 1) 1 (by decide +kernel) rfl ?_
      refine o_bipush (n := 8) (v := 8) (by decide +kernel) (by decide) ?_
      refine o_idiv (by decide +kernel) (by decide) ?_
      refine o_iload_n (k := 1) 1 (by decide +kernel) rfl ?_
      refine f_callVV (μ' := mX10_comeTo) (i := 51) (vs := [.int v3, .int (v1 / 8), .int v1]) (by decide +kernel) lk_1160 (vok_mX10_comeTo) sh_333 rfl rfl rfl rfl (Nat.le_of_ble_eq_true rfl) ?_
      refine x_CV.mono h (fun t3 h => ?_)
      exact h
set_option maxRecDepth 20000 in
theorem k_X10_goOnFrom_40 {d : Nat} {K : x_T → Prop} {v1 : Int32} {v2 : Int32} {v3 : Int32} {τ : x_T} (h : ∀ y1, y1 = v3 + 1 → (x_WV (d + 1) mX10_goOnFrom K 7 [(0, .ref 333), (1, .int v1), (2, .int v2), (3, .int y1)] [] τ)) : x_WV (d + 1) mX10_goOnFrom K 40 [(0, .ref 333), (1, .int v1), (2, .int v2), (3, .int v3)] [] τ := by
  obtain ⟨y1, ey1⟩ : ∃ y : Int32, y = v3 + 1 := ⟨_, rfl⟩
  replace h := h y1 ey1
  refine o_iinc (i := 3) (n := 1) (v := y1) (L' := [(3, .int y1), (0, .ref 333), (1, .int v1), (2, .int v2)]) 3 (by decide +kernel) rfl (by rw [ey1]; rfl) (by decide) rfl ?_
  refine o_goto (off := -36) 7 (by decide +kernel) (by decide) ?_
  refine o_sub [1, 2, 3, 0] rfl ?_
  exact h
set_option maxRecDepth 20000 in
theorem e_X10_comeTo {d : Nat} {K : x_T → Prop} {v1 : Int32} {v2 : Int32} {v3 : Int32} {τ : x_T} (h : x_WV (d + 1) mX10_comeTo K 12 [(0, .ref 333), (1, .int v1), (3, .int v3), (4, .ref 7), (5, .int v2)] [] τ) : x_CV (d + 1) mX10_comeTo [.ref 333, .int v1, .int v2, .int v3] τ K := by
  refine x_CV_of (by decide) (Nat.le_of_ble_eq_true rfl) ?_
  show x_WV (d + 1) mX10_comeTo K 0 [(0, .ref 333), (1, .int v1), (2, .int v2), (3, .int v3)] [] τ
  refine o_aload_n (k := 0) 0 (by decide +kernel) rfl ?_
  refine f_getR (r := 1) (t := 10) (k := 0) (i := 27) (by decide +kernel) sh_333 rfl (by decide) lk_442 (by simp [x_ty, tyX10]) (gr_10_0 sh_333) ?_
  refine f_getR (r := 7) (t := 3) (k := 7) (i := 55) (by decide +kernel) sh_1 rfl (by decide) lk_194 (by simp [x_ty, tyX3]) (gr_3_7 sh_1) ?_
  refine o_astore (k := 4) (L' := [(4, .ref 7), (0, .ref 333), (1, .int v1), (2, .int v2), (3, .int v3)]) (by decide +kernel) (by decide) rfl ?_
  refine o_iload_n (k := 2) 3 (by decide +kernel) rfl ?_
  refine o_istore (k := 5) (L' := [(5, .int v2), (4, .ref 7), (0, .ref 333), (1, .int v1), (2, .int v2), (3, .int v3)]) (by decide +kernel) (by decide) rfl ?_
  refine o_sub [2, 3, 5, 1, 0] rfl ?_
  exact h
set_option maxRecDepth 20000 in
theorem k_X10_comeTo_12 {d : Nat} {K : x_T → Prop} {v1 : Int32} {v3 : Int32} {v5 : Int32} {τ : x_T} (h : (v5 < 0 → x_WV (d + 1) mX10_comeTo K 67 [(0, .ref 333), (1, .int v1), (3, .int v3), (5, .int v5)] [] τ) ∧ (¬ v5 < 0 → (τ.1 7 2 ≤ v5 → x_WV (d + 1) mX10_comeTo K 67 [(0, .ref 333), (1, .int v1), (3, .int v3), (5, .int v5)] [] τ) ∧ (¬ τ.1 7 2 ≤ v5 → (8 ≤ v5 → x_WV (d + 1) mX10_comeTo K 67 [(0, .ref 333), (1, .int v1), (3, .int v3), (5, .int v5)] [] τ) ∧ (¬ 8 ≤ v5 → vp_in v5 8 ∧ (x_CI d mX3_hourBy [.ref 1, .int v1, .int (τ.1 8 v5.toNatClampNeg)] τ (fun t1 a2 => vp_in v5 8 ∧ ((¬ a2 = t1.1 9 v5.toNatClampNeg → x_WV (d + 1) mX10_comeTo K 67 [(0, .ref 333), (1, .int v1), (3, .int v3), (5, .int v5)] [] t1) ∧ (a2 = t1.1 9 v5.toNatClampNeg → ∀ y3, y3 = v5 + 1 → (x_WV (d + 1) mX10_comeTo K 12 [(0, .ref 333), (1, .int v1), (3, .int v3), (4, .ref 7), (5, .int y3)] [] t1))))))))) : x_WV (d + 1) mX10_comeTo K 12 [(0, .ref 333), (1, .int v1), (3, .int v3), (4, .ref 7), (5, .int v5)] [] τ := by
  refine o_iload (k := 5) 4 (by decide +kernel) rfl ?_
  refine o_if_lt (off := 53) 67 (by decide +kernel) (by decide) (fun q => ?_) (fun q => ?_)
  · replace h := h.1 q
    refine o_sub [0, 1, 2, 4] rfl ?_
    exact h
  · replace h := h.2 q
    refine o_iload (k := 5) 4 (by decide +kernel) rfl ?_
    refine o_aload (k := 4) 3 (by decide +kernel) rfl ?_
    refine f_getI (t := 5) (k := 2) (i := 59) (by decide +kernel) sh_7 rfl (by decide) lk_165 rfl ?_
    refine o_icmp_ge (off := 43) 67 (by decide +kernel) (by decide) (fun q => ?_) (fun q => ?_)
    · replace h := h.1 q
      refine o_sub [0, 1, 2, 4] rfl ?_
      exact h
    · replace h := h.2 q
      refine o_iload (k := 5) 4 (by decide +kernel) rfl ?_
      refine o_bipush (n := 8) (v := 8) (by decide +kernel) (by decide) ?_
      refine o_icmp_ge (off := 36) 67 (by decide +kernel) (by decide) (fun q => ?_) (fun q => ?_)
      · replace h := h.1 q
        refine o_sub [0, 1, 2, 4] rfl ?_
        exact h
      · replace h := h.2 q
        refine o_aload_n (k := 0) 0 (by decide +kernel) rfl ?_
        refine f_getR (r := 1) (t := 10) (k := 0) (i := 27) (by decide +kernel) sh_333 rfl (by decide) lk_442 (by simp [x_ty, tyX10]) (gr_10_0 sh_333) ?_
        refine o_iload_n (k := 1) 1 (by decide +kernel) rfl ?_
        refine o_aload (k := 4) 3 (by decide +kernel) rfl ?_
        refine f_getR (r := 8) (t := 5) (k := 0) (i := 79) (by decide +kernel) sh_7 rfl (by decide) lk_158 (by simp [x_ty, tyX5]) (gr_5_0 sh_7) ?_
        refine o_iload (k := 5) 4 (by decide +kernel) rfl ?_
        obtain ⟨hi, h⟩ := h
        refine f_iald (by decide +kernel) sh_8 hi rfl ?_
        refine f_callVI (μ' := mX3_hourBy) (i := 82) (vs := [.int v1, .int (τ.1 8 v5.toNatClampNeg)]) (by decide +kernel) lk_1164 (vok_mX3_hourBy) sh_1 rfl rfl rfl rfl (Nat.le_of_ble_eq_true rfl) ?_
        refine x_CI.mono h (fun t1 a2 h => ?_)
        refine o_aload (k := 4) 3 (by decide +kernel) rfl ?_
        refine f_getR (r := 9) (t := 5) (k := 1) (i := 85) (by decide +kernel) sh_7 rfl (by decide) lk_162 (by simp [x_ty, tyX5]) (gr_5_1 sh_7) ?_
        refine o_iload (k := 5) 4 (by decide +kernel) rfl ?_
        obtain ⟨hi, h⟩ := h
        refine f_iald (by decide +kernel) sh_9 hi rfl ?_
        refine o_icmp_ne (off := 9) 67 (by decide +kernel) (by decide) (fun q => ?_) (fun q => ?_)
        · replace h := h.1 q
          refine o_sub [0, 1, 2, 4] rfl ?_
          exact h
        · replace h := h.2 q
          obtain ⟨y3, ey3⟩ : ∃ y : Int32, y = v5 + 1 := ⟨_, rfl⟩
          replace h := h y3 ey3
          refine o_iinc (i := 5) (n := 1) (v := y3) (L' := [(5, .int y3), (0, .ref 333), (1, .int v1), (3, .int v3), (4, .ref 7)]) 4 (by decide +kernel) rfl (by rw [ey3]; rfl) (by decide) rfl ?_
          refine o_goto (off := -52) 12 (by decide +kernel) (by decide) ?_
          refine o_sub [1, 2, 3, 4, 0] rfl ?_
          exact h
set_option maxRecDepth 20000 in
theorem k_X10_comeTo_67 {d : Nat} {K : x_T → Prop} {v1 : Int32} {v3 : Int32} {v5 : Int32} {τ : x_T} (h : ∀ y1, y1 = (v5 * 8) + v1 → ((y1 < 0 → K τ) ∧ (¬ y1 < 0 → (72 ≤ y1 → K τ) ∧ (¬ 72 ≤ y1 → vp_in y1 72 ∧ ((¬ τ.1 335 y1.toNatClampNeg = (-2) → K τ) ∧ (τ.1 335 y1.toNatClampNeg = (-2) → (τ.1 333 4 < 0 → K τ) ∧ (¬ τ.1 333 4 < 0 → (72 ≤ τ.1 333 4 → K τ) ∧ (¬ 72 ≤ τ.1 333 4 → vp_in y1 72 ∧ (∀ t2, t2 = x_w1 τ 335 y1.toNatClampNeg v3 → (vp_in (t2.1 333 4) 72 ∧ (∀ t3, t3 = x_w1 t2 334 ((t2.1 333 4).toNatClampNeg) y1 → (∀ t4, t4 = x_w1 t3 333 4 ((t3.1 333 4) + 1) → (K t4))))))))))))) : x_WV (d + 1) mX10_comeTo K 67 [(0, .ref 333), (1, .int v1), (3, .int v3), (5, .int v5)] [] τ := by
  refine o_iload (k := 5) 3 (by decide +kernel) rfl ?_
  refine o_bipush (n := 8) (v := 8) (by decide +kernel) (by decide) ?_
  refine o_imul (by decide +kernel) ?_
  refine o_iload_n (k := 1) 1 (by decide +kernel) rfl ?_
  refine o_iadd (by decide +kernel) ?_
  refine o_name (fun y1 ey1 => ?_)
  replace h := h y1 ey1
  refine o_istore (k := 6) (L' := [(6, .int y1), (0, .ref 333), (1, .int v1), (3, .int v3), (5, .int v5)]) (by decide +kernel) (by decide) rfl ?_
  refine o_iload (k := 6) 0 (by decide +kernel) rfl ?_
  refine o_if_lt (off := 67) 145 (by decide +kernel) (by decide) (fun q => ?_) (fun q => ?_)
  · replace h := h.1 q
    exact f_vret rfl (by decide +kernel) rfl h
  · replace h := h.2 q
    refine o_iload (k := 6) 0 (by decide +kernel) rfl ?_
    refine o_bipush (n := 72) (v := 72) (by decide +kernel) (by decide) ?_
    refine o_icmp_ge (off := 60) 145 (by decide +kernel) (by decide) (fun q => ?_) (fun q => ?_)
    · replace h := h.1 q
      exact f_vret rfl (by decide +kernel) rfl h
    · replace h := h.2 q
      refine o_aload_n (k := 0) 1 (by decide +kernel) rfl ?_
      refine f_getR (r := 335) (t := 10) (k := 3) (i := 15) (by decide +kernel) sh_333 rfl (by decide) lk_445 (by simp [x_ty, tyX10]) (gr_10_3 sh_333) ?_
      refine o_iload (k := 6) 0 (by decide +kernel) rfl ?_
      obtain ⟨hi, h⟩ := h
      refine f_iald (by decide +kernel) sh_335 hi rfl ?_
      refine o_bipush (n := -2) (v := (-2)) (by decide +kernel) (by decide) ?_
      refine o_icmp_ne (off := 48) 145 (by decide +kernel) (by decide) (fun q => ?_) (fun q => ?_)
      · replace h := h.1 q
        exact f_vret rfl (by decide +kernel) rfl h
      · replace h := h.2 q
        refine o_aload_n (k := 0) 1 (by decide +kernel) rfl ?_
        refine f_getI (t := 10) (k := 4) (i := 39) (by decide +kernel) sh_333 rfl (by decide) lk_446 rfl ?_
        refine o_if_lt (off := 41) 145 (by decide +kernel) (by decide) (fun q => ?_) (fun q => ?_)
        · replace h := h.1 q
          exact f_vret rfl (by decide +kernel) rfl h
        · replace h := h.2 q
          refine o_aload_n (k := 0) 1 (by decide +kernel) rfl ?_
          refine f_getI (t := 10) (k := 4) (i := 39) (by decide +kernel) sh_333 rfl (by decide) lk_446 rfl ?_
          refine o_bipush (n := 72) (v := 72) (by decide +kernel) (by decide) ?_
          refine o_icmp_ge (off := 32) 145 (by decide +kernel) (by decide) (fun q => ?_) (fun q => ?_)
          · replace h := h.1 q
            exact f_vret rfl (by decide +kernel) rfl h
          · replace h := h.2 q
            refine o_aload_n (k := 0) 1 (by decide +kernel) rfl ?_
            refine f_getR (r := 335) (t := 10) (k := 3) (i := 15) (by decide +kernel) sh_333 rfl (by decide) lk_445 (by simp [x_ty, tyX10]) (gr_10_3 sh_333) ?_
            refine o_iload (k := 6) 0 (by decide +kernel) rfl ?_
            refine o_iload_n (k := 3) 3 (by decide +kernel) rfl ?_
            obtain ⟨hi, h⟩ := h
            refine f_iast (by decide +kernel) sh_335 hi rfl ?_
            refine f_name (fun t2 et2 => ?_)
            replace h := h t2 et2
            refine o_aload_n (k := 0) 1 (by decide +kernel) rfl ?_
            refine f_getR (r := 334) (t := 10) (k := 2) (i := 11) (by decide +kernel) sh_333 rfl (by decide) lk_444 (by simp [x_ty, tyX10]) (gr_10_2 sh_333) ?_
            refine o_aload_n (k := 0) 1 (by decide +kernel) rfl ?_
            refine f_getI (t := 10) (k := 4) (i := 39) (by decide +kernel) sh_333 rfl (by decide) lk_446 rfl ?_
            refine o_iload (k := 6) 0 (by decide +kernel) rfl ?_
            obtain ⟨hi, h⟩ := h
            refine f_iast (by decide +kernel) sh_334 hi rfl ?_
            refine f_name (fun t3 et3 => ?_)
            replace h := h t3 et3
            refine o_aload_n (k := 0) 1 (by decide +kernel) rfl ?_
            refine o_dup (by decide +kernel) rfl ?_
            refine f_getI (t := 10) (k := 4) (i := 39) (by decide +kernel) sh_333 rfl (by decide) lk_446 rfl ?_
            refine o_iconst (n := 1) (v := 1) (by decide +kernel) (by decide) ?_
            refine o_iadd (by decide +kernel) ?_
            refine f_putI (t := 10) (k := 4) (i := 39) (by decide +kernel) sh_333 rfl (by decide) lk_446 rfl rfl ?_
            refine f_name (fun t4 et4 => ?_)
            replace h := h t4 et4
            exact f_vret rfl (by decide +kernel) rfl h
set_option maxRecDepth 20000 in
theorem e_X10_lanesBehind {d : Nat} {K : x_T → Int32 → Prop} {v1 : Int32} {τ : x_T} (h : x_CI d mX10_placeAhead [.ref 333, .int v1] τ (fun t1 a2 => x_WI (d + 1) mX10_lanesBehind K 8 [(0, .ref 333), (2, .int 0), (3, .int a2)] [] t1)) : x_CI (d + 1) mX10_lanesBehind [.ref 333, .int v1] τ K := by
  refine x_CI_of (by decide) (Nat.le_of_ble_eq_true rfl) ?_
  show x_WI (d + 1) mX10_lanesBehind K 0 [(0, .ref 333), (1, .int v1)] [] τ
  refine o_iconst (n := 0) (v := 0) (by decide +kernel) (by decide) ?_
  refine o_istore_n (k := 2) (L' := [(2, .int 0), (0, .ref 333), (1, .int v1)]) (by decide +kernel) (by decide) rfl ?_
  refine o_aload_n (k := 0) 1 (by decide +kernel) rfl ?_
  refine o_iload_n (k := 1) 2 (by decide +kernel) rfl ?_
  refine f_callVI (μ' := mX10_placeAhead) (i := 88) (vs := [.int v1]) (by decide +kernel) lk_1169 (vok_mX10_placeAhead) sh_333 rfl rfl rfl rfl (Nat.le_of_ble_eq_true rfl) ?_
  refine x_CI.mono h (fun t1 a2 h => ?_)
  refine o_istore_n (k := 3) (L' := [(3, .int a2), (2, .int 0), (0, .ref 333), (1, .int v1)]) (by decide +kernel) (by decide) rfl ?_
  refine o_sub [2, 1, 0] rfl ?_
  exact h
set_option maxRecDepth 20000 in
theorem k_X10_lanesBehind_8 {d : Nat} {K : x_T → Int32 → Prop} {v2 : Int32} {v3 : Int32} {τ : x_T} (h : (v3 < 0 → K τ v2) ∧ (¬ v3 < 0 → (72 ≤ v2 → K τ v2) ∧ (¬ 72 ≤ v2 → ∀ y1, y1 = v2 + 1 → (x_CI d mX10_placeAhead [.ref 333, .int v3] τ (fun t2 a3 => x_WI (d + 1) mX10_lanesBehind K 8 [(0, .ref 333), (2, .int y1), (3, .int a3)] [] t2))))) : x_WI (d + 1) mX10_lanesBehind K 8 [(0, .ref 333), (2, .int v2), (3, .int v3)] [] τ := by
  refine o_iload_n (k := 3) 2 (by decide +kernel) rfl ?_
  refine o_if_lt (off := 21) 30 (by decide +kernel) (by decide) (fun q => ?_) (fun q => ?_)
  · replace h := h.1 q
    refine o_iload_n (k := 2) 1 (by decide +kernel) rfl ?_
    exact f_iret (ty := .int) rfl rfl (by decide +kernel) rfl h
  · replace h := h.2 q
    refine o_iload_n (k := 2) 1 (by decide +kernel) rfl ?_
    refine o_bipush (n := 72) (v := 72) (by decide +kernel) (by decide) ?_
    refine o_icmp_ge (off := 15) 30 (by decide +kernel) (by decide) (fun q => ?_) (fun q => ?_)
    · replace h := h.1 q
      refine o_iload_n (k := 2) 1 (by decide +kernel) rfl ?_
      exact f_iret (ty := .int) rfl rfl (by decide +kernel) rfl h
    · replace h := h.2 q
      obtain ⟨y1, ey1⟩ : ∃ y : Int32, y = v2 + 1 := ⟨_, rfl⟩
      replace h := h y1 ey1
      refine o_iinc (i := 2) (n := 1) (v := y1) (L' := [(2, .int y1), (0, .ref 333), (3, .int v3)]) 1 (by decide +kernel) rfl (by rw [ey1]; rfl) (by decide) rfl ?_
      refine o_aload_n (k := 0) 1 (by decide +kernel) rfl ?_
      refine o_iload_n (k := 3) 2 (by decide +kernel) rfl ?_
      refine f_callVI (μ' := mX10_placeAhead) (i := 88) (vs := [.int v3]) (by decide +kernel) lk_1169 (vok_mX10_placeAhead) sh_333 rfl rfl rfl rfl (Nat.le_of_ble_eq_true rfl) ?_
      refine x_CI.mono h (fun t2 a3 h => ?_)
      refine o_istore_n (k := 3) (L' := [(3, .int a3), (2, .int y1), (0, .ref 333)]) (by decide +kernel) (by decide) rfl ?_
      refine o_goto (off := -19) 8 (by decide +kernel) (by decide) ?_
      refine o_sub [2, 1, 0] rfl ?_
      exact h
set_option maxRecDepth 20000 in
theorem e_X10_placeAhead {d : Nat} {K : x_T → Int32 → Prop} {v1 : Int32} {τ : x_T} (h : (v1 < 0 → K τ (-1)) ∧ (¬ v1 < 0 → (72 ≤ v1 → K τ (-1)) ∧ (¬ 72 ≤ v1 → vp_in v1 72 ∧ (K τ (τ.1 335 v1.toNatClampNeg))))) : x_CI d mX10_placeAhead [.ref 333, .int v1] τ K := by
  refine x_CI_of (by decide) (Nat.le_of_ble_eq_true rfl) ?_
  show x_WI d mX10_placeAhead K 0 [(0, .ref 333), (1, .int v1)] [] τ
  refine o_iload_n (k := 1) 1 (by decide +kernel) rfl ?_
  refine o_if_lt (off := 18) 19 (by decide +kernel) (by decide) (fun q => ?_) (fun q => ?_)
  · replace h := h.1 q
    refine o_iconst (n := -1) (v := (-1)) (by decide +kernel) (by decide) ?_
    exact f_iret (ty := .int) rfl rfl (by decide +kernel) rfl h
  · replace h := h.2 q
    refine o_iload_n (k := 1) 1 (by decide +kernel) rfl ?_
    refine o_bipush (n := 72) (v := 72) (by decide +kernel) (by decide) ?_
    refine o_icmp_ge (off := 12) 19 (by decide +kernel) (by decide) (fun q => ?_) (fun q => ?_)
    · replace h := h.1 q
      refine o_iconst (n := -1) (v := (-1)) (by decide +kernel) (by decide) ?_
      exact f_iret (ty := .int) rfl rfl (by decide +kernel) rfl h
    · replace h := h.2 q
      refine o_aload_n (k := 0) 0 (by decide +kernel) rfl ?_
      refine f_getR (r := 335) (t := 10) (k := 3) (i := 15) (by decide +kernel) sh_333 rfl (by decide) lk_445 (by simp [x_ty, tyX10]) (gr_10_3 sh_333) ?_
      refine o_iload_n (k := 1) 1 (by decide +kernel) rfl ?_
      obtain ⟨hi, h⟩ := h
      refine f_iald (by decide +kernel) sh_335 hi rfl ?_
      refine o_goto (off := 4) 20 (by decide +kernel) (by decide) ?_
      exact f_iret (ty := .int) rfl rfl (by decide +kernel) rfl h
set_option maxRecDepth 20000 in
theorem e_X10_routeHouse {d : Nat} {K : x_T → Int32 → Prop} {v1 : Int32} {τ : x_T} (h : ∀ y1, y1 = τ.1 333 5 → (∀ y2, y2 = (τ.1 333 9) - 1 → (x_WI (d + 1) mX10_routeHouse K 12 [(0, .ref 333), (1, .int v1), (2, .int y1), (3, .int y2)] [] τ))) : x_CI (d + 1) mX10_routeHouse [.ref 333, .int v1] τ K := by
  refine x_CI_of (by decide) (Nat.le_of_ble_eq_true rfl) ?_
  show x_WI (d + 1) mX10_routeHouse K 0 [(0, .ref 333), (1, .int v1)] [] τ
  refine o_aload_n (k := 0) 0 (by decide +kernel) rfl ?_
  refine f_getI (t := 10) (k := 5) (i := 42) (by decide +kernel) sh_333 rfl (by decide) lk_447 rfl ?_
  refine o_name (fun y1 ey1 => ?_)
  replace h := h y1 ey1
  refine o_istore_n (k := 2) (L' := [(2, .int y1), (0, .ref 333), (1, .int v1)]) (by decide +kernel) (by decide) rfl ?_
  refine o_aload_n (k := 0) 1 (by decide +kernel) rfl ?_
  refine f_getI (t := 10) (k := 9) (i := 35) (by decide +kernel) sh_333 rfl (by decide) lk_451 rfl ?_
  refine o_iconst (n := 1) (v := 1) (by decide +kernel) (by decide) ?_
  refine o_isub (by decide +kernel) ?_
  refine o_name (fun y2 ey2 => ?_)
  replace h := h y2 ey2
  refine o_istore_n (k := 3) (L' := [(3, .int y2), (2, .int y1), (0, .ref 333), (1, .int v1)]) (by decide +kernel) (by decide) rfl ?_
  refine o_sub [2, 3, 1, 0] rfl ?_
  exact h
set_option maxRecDepth 20000 in
theorem k_X10_routeHouse_12 {d : Nat} {K : x_T → Int32 → Prop} {v1 : Int32} {v2 : Int32} {v3 : Int32} {τ : x_T} (h : (v3 ≤ v1 → (0 ≤ v2 → K τ (v2 - v2 / 8 * 8)) ∧ (¬ 0 ≤ v2 → K τ (-1))) ∧ (¬ v3 ≤ v1 → x_CI d mX10_placeAhead [.ref 333, .int v2] τ (fun t1 a2 => ∀ y3, y3 = v3 + (-1) → (x_WI (d + 1) mX10_routeHouse K 12 [(0, .ref 333), (1, .int v1), (2, .int a2), (3, .int y3)] [] t1)))) : x_WI (d + 1) mX10_routeHouse K 12 [(0, .ref 333), (1, .int v1), (2, .int v2), (3, .int v3)] [] τ := by
  refine o_iload_n (k := 3) 3 (by decide +kernel) rfl ?_
  refine o_iload_n (k := 1) 1 (by decide +kernel) rfl ?_
  refine o_icmp_le (off := 15) 29 (by decide +kernel) (by decide) (fun q => ?_) (fun q => ?_)
  · replace h := h.1 q
    refine o_iload_n (k := 2) 2 (by decide +kernel) rfl ?_
    refine o_if_ge (off := 7) 37 (by decide +kernel) (by decide) (fun q => ?_) (fun q => ?_)
    · replace h := h.1 q
      refine o_iload_n (k := 2) 2 (by decide +kernel) rfl ?_
      refine o_bipush (n := 8) (v := 8) (by decide +kernel) (by decide) ?_
      refine o_irem (by decide +kernel) (by decide) ?_
      exact f_iret (ty := .int) rfl rfl (by decide +kernel) rfl h
    · replace h := h.2 q
      refine o_iconst (n := -1) (v := (-1)) (by decide +kernel) (by decide) ?_
      refine o_goto (off := 7) 41 (by decide +kernel) (by decide) ?_
      exact f_iret (ty := .int) rfl rfl (by decide +kernel) rfl h
  · replace h := h.2 q
    refine o_aload_n (k := 0) 0 (by decide +kernel) rfl ?_
    refine o_iload_n (k := 2) 2 (by decide +kernel) rfl ?_
    refine f_callVI (μ' := mX10_placeAhead) (i := 88) (vs := [.int v2]) (by decide +kernel) lk_1169 (vok_mX10_placeAhead) sh_333 rfl rfl rfl rfl (Nat.le_of_ble_eq_true rfl) ?_
    refine x_CI.mono h (fun t1 a2 h => ?_)
    refine o_istore_n (k := 2) (L' := [(2, .int a2), (0, .ref 333), (1, .int v1), (3, .int v3)]) (by decide +kernel) (by decide) rfl ?_
    obtain ⟨y3, ey3⟩ : ∃ y : Int32, y = v3 + (-1) := ⟨_, rfl⟩
    replace h := h y3 ey3
    refine o_iinc (i := 3) (n := -1) (v := y3) (L' := [(3, .int y3), (2, .int a2), (0, .ref 333), (1, .int v1)]) 3 (by decide +kernel) rfl (by rw [ey3]; rfl) (by decide) rfl ?_
    refine o_goto (off := -14) 12 (by decide +kernel) (by decide) ?_
    refine o_sub [2, 3, 1, 0] rfl ?_
    exact h
set_option maxRecDepth 20000 in
theorem e_X10_seekLeast {d : Nat} {K : x_T → Int32 → Prop} {r1 : Nat} (h1 : x_sh r1 = (1, 11)) {v2 : Int32} {v3 : Int32} {τ : x_T} (h : ∀ t1, t1 = x_w1 τ 333 9 0 → (x_CV d mX10_askCosts [.ref 333, .ref r1, .int v3] t1 (fun t2 => x_WI (d + 1) mX10_seekLeast K 14 [(0, .ref 333), (1, .ref r1), (2, .int v2), (4, .int 0)] [] t2))) : x_CI (d + 1) mX10_seekLeast [.ref 333, .ref r1, .int v2, .int v3] τ K := by
  refine x_CI_of (by decide) (Nat.le_of_ble_eq_true rfl) ?_
  show x_WI (d + 1) mX10_seekLeast K 0 [(0, .ref 333), (1, .ref r1), (2, .int v2), (3, .int v3)] [] τ
  refine o_aload_n (k := 0) 0 (by decide +kernel) rfl ?_
  refine o_iconst (n := 0) (v := 0) (by decide +kernel) (by decide) ?_
  refine f_putI (t := 10) (k := 9) (i := 35) (by decide +kernel) sh_333 rfl (by decide) lk_451 rfl rfl ?_
  refine f_name (fun t1 et1 => ?_)
  replace h := h t1 et1
  refine o_aload_n (k := 0) 0 (by decide +kernel) rfl ?_
  refine o_aload_n (k := 1) 1 (by decide +kernel) rfl ?_
  refine o_iload_n (k := 3) 3 (by decide +kernel) rfl ?_
  refine f_callVV (μ' := mX10_askCosts) (i := 91) (vs := [.ref r1, .int v3]) (by decide +kernel) lk_1190 (vok_mX10_askCosts) sh_333 rfl rfl rfl rfl (Nat.le_of_ble_eq_true rfl) ?_
  refine x_CV.mono h (fun t2 h => ?_)
  refine o_iconst (n := 0) (v := 0) (by decide +kernel) (by decide) ?_
  refine o_istore (k := 4) (L' := [(4, .int 0), (0, .ref 333), (1, .ref r1), (2, .int v2), (3, .int v3)]) (by decide +kernel) (by decide) rfl ?_
  refine o_sub [1, 2, 3, 0] rfl ?_
  exact h
set_option maxRecDepth 20000 in
theorem k_X10_seekLeast_14 {d : Nat} {K : x_T → Int32 → Prop} {r1 : Nat} (h1 : x_sh r1 = (1, 11)) {v2 : Int32} {v4 : Int32} {τ : x_T} (h : (8 ≤ v4 → x_WI (d + 1) mX10_seekLeast K 49 [(0, .ref 333), (1, .ref r1), (2, .int v2), (4, .int 0)] [] τ) ∧ (¬ 8 ≤ v4 → (¬ v4 = v2 → x_WI (d + 1) mX10_seekLeast K 39 [(0, .ref 333), (1, .ref r1), (2, .int v2), (4, .int v4)] [.int 1000000, .int v4, .ref 337] τ) ∧ (v4 = v2 → x_WI (d + 1) mX10_seekLeast K 39 [(0, .ref 333), (1, .ref r1), (2, .int v2), (4, .int v4)] [.int 0, .int v4, .ref 337] τ))) : x_WI (d + 1) mX10_seekLeast K 14 [(0, .ref 333), (1, .ref r1), (2, .int v2), (4, .int v4)] [] τ := by
  refine o_iload (k := 4) 3 (by decide +kernel) rfl ?_
  refine o_bipush (n := 8) (v := 8) (by decide +kernel) (by decide) ?_
  refine o_icmp_ge (off := 28) 46 (by decide +kernel) (by decide) (fun q => ?_) (fun q => ?_)
  · replace h := h.1 q
    refine o_iconst (n := 0) (v := 0) (by decide +kernel) (by decide) ?_
    refine o_istore (k := 4) (L' := [(4, .int 0), (0, .ref 333), (1, .ref r1), (2, .int v2)]) (by decide +kernel) (by decide) rfl ?_
    refine o_sub [1, 2, 3, 0] rfl ?_
    exact h
  · replace h := h.2 q
    refine o_aload_n (k := 0) 0 (by decide +kernel) rfl ?_
    refine f_getR (r := 337) (t := 10) (k := 7) (i := 21) (by decide +kernel) sh_333 rfl (by decide) lk_449 (by simp [x_ty, tyX10]) (gr_10_7 sh_333) ?_
    refine o_iload (k := 4) 3 (by decide +kernel) rfl ?_
    refine o_iload (k := 4) 3 (by decide +kernel) rfl ?_
    refine o_iload_n (k := 2) 2 (by decide +kernel) rfl ?_
    refine o_icmp_ne (off := 7) 37 (by decide +kernel) (by decide) (fun q => ?_) (fun q => ?_)
    · replace h := h.1 q
      refine o_ldc (i := 95) (v := 1000000) (by decide +kernel) lk_1195 ?_
      exact h
    · replace h := h.2 q
      refine o_iconst (n := 0) (v := 0) (by decide +kernel) (by decide) ?_
      refine o_goto (off := 5) 39 (by decide +kernel) (by decide) ?_
      exact h
set_option maxRecDepth 20000 in
theorem k_X10_seekLeast_39 {d : Nat} {K : x_T → Int32 → Prop} {r1 : Nat} (h1 : x_sh r1 = (1, 11)) {v2 : Int32} {v4 : Int32} {s0 : Int32} {s1 : Int32} {τ : x_T} (h : vp_in s1 8 ∧ (∀ t1, t1 = x_w1 τ 337 s1.toNatClampNeg s0 → (∀ y2, y2 = v4 + 1 → (x_WI (d + 1) mX10_seekLeast K 14 [(0, .ref 333), (1, .ref r1), (2, .int v2), (4, .int y2)] [] t1)))) : x_WI (d + 1) mX10_seekLeast K 39 [(0, .ref 333), (1, .ref r1), (2, .int v2), (4, .int v4)] [.int s0, .int s1, .ref 337] τ := by
  obtain ⟨hi, h⟩ := h
  refine f_iast (by decide +kernel) sh_337 hi rfl ?_
  refine f_name (fun t1 et1 => ?_)
  replace h := h t1 et1
  obtain ⟨y2, ey2⟩ : ∃ y : Int32, y = v4 + 1 := ⟨_, rfl⟩
  replace h := h y2 ey2
  refine o_iinc (i := 4) (n := 1) (v := y2) (L' := [(4, .int y2), (0, .ref 333), (1, .ref r1), (2, .int v2)]) 3 (by decide +kernel) rfl (by rw [ey2]; rfl) (by decide) rfl ?_
  refine o_goto (off := -29) 14 (by decide +kernel) (by decide) ?_
  refine o_sub [1, 2, 3, 0] rfl ?_
  exact h
set_option maxRecDepth 20000 in
theorem k_X10_seekLeast_49 {d : Nat} {K : x_T → Int32 → Prop} {r1 : Nat} (h1 : x_sh r1 = (1, 11)) {v2 : Int32} {v4 : Int32} {τ : x_T} (h : (8 ≤ v4 → ∀ y1, y1 = τ.1 r1 0 → ((y1 < 0 → K τ (-1)) ∧ (¬ y1 < 0 → (8 ≤ y1 → K τ (-1)) ∧ (¬ 8 ≤ y1 → vp_in y1 8 ∧ ((τ.1 337 y1.toNatClampNeg < 1000000 → x_WI (d + 1) mX10_seekLeast K 120 [(0, .ref 333), (2, .int v2), (4, .int y1), (5, .int y1)] [] τ) ∧ (¬ τ.1 337 y1.toNatClampNeg < 1000000 → K τ (-1))))))) ∧ (¬ 8 ≤ v4 → x_WI (d + 1) mX10_seekLeast K 59 [(0, .ref 333), (1, .ref r1), (2, .int v2), (4, .int v4), (5, .int 0)] [] τ)) : x_WI (d + 1) mX10_seekLeast K 49 [(0, .ref 333), (1, .ref r1), (2, .int v2), (4, .int v4)] [] τ := by
  refine o_iload (k := 4) 3 (by decide +kernel) rfl ?_
  refine o_bipush (n := 8) (v := 8) (by decide +kernel) (by decide) ?_
  refine o_icmp_ge (off := 31) 84 (by decide +kernel) (by decide) (fun q => ?_) (fun q => ?_)
  · replace h := h.1 q
    refine o_aload_n (k := 1) 1 (by decide +kernel) rfl ?_
    refine f_getI (t := 1) (k := 0) (i := 99) (by decide +kernel) h1 rfl (by decide) lk_228 rfl ?_
    refine o_name (fun y1 ey1 => ?_)
    replace h := h y1 ey1
    refine o_istore (k := 4) (L' := [(4, .int y1), (0, .ref 333), (1, .ref r1), (2, .int v2)]) (by decide +kernel) (by decide) rfl ?_
    refine o_iload (k := 4) 0 (by decide +kernel) rfl ?_
    refine o_if_lt (off := 22) 114 (by decide +kernel) (by decide) (fun q => ?_) (fun q => ?_)
    · replace h := h.1 q
      refine o_iconst (n := -1) (v := (-1)) (by decide +kernel) (by decide) ?_
      exact f_iret (ty := .int) rfl rfl (by decide +kernel) rfl h
    · replace h := h.2 q
      refine o_iload (k := 4) 0 (by decide +kernel) rfl ?_
      refine o_bipush (n := 8) (v := 8) (by decide +kernel) (by decide) ?_
      refine o_icmp_ge (off := 15) 114 (by decide +kernel) (by decide) (fun q => ?_) (fun q => ?_)
      · replace h := h.1 q
        refine o_iconst (n := -1) (v := (-1)) (by decide +kernel) (by decide) ?_
        exact f_iret (ty := .int) rfl rfl (by decide +kernel) rfl h
      · replace h := h.2 q
        refine o_aload_n (k := 0) 1 (by decide +kernel) rfl ?_
        refine f_getR (r := 337) (t := 10) (k := 7) (i := 21) (by decide +kernel) sh_333 rfl (by decide) lk_449 (by simp [x_ty, tyX10]) (gr_10_7 sh_333) ?_
        refine o_iload (k := 4) 0 (by decide +kernel) rfl ?_
        obtain ⟨hi, h⟩ := h
        refine f_iald (by decide +kernel) sh_337 hi rfl ?_
        refine o_ldc (i := 95) (v := 1000000) (by decide +kernel) lk_1195 ?_
        refine o_icmp_lt (off := 5) 116 (by decide +kernel) (by decide) (fun q => ?_) (fun q => ?_)
        · replace h := h.1 q
          refine o_iload (k := 4) 0 (by decide +kernel) rfl ?_
          refine o_istore (k := 5) (L' := [(5, .int y1), (4, .int y1), (0, .ref 333), (1, .ref r1), (2, .int v2)]) (by decide +kernel) (by decide) rfl ?_
          refine o_sub [2, 4, 1, 0] rfl ?_
          exact h
        · replace h := h.2 q
          refine o_iconst (n := -1) (v := (-1)) (by decide +kernel) (by decide) ?_
          exact f_iret (ty := .int) rfl rfl (by decide +kernel) rfl h
  · replace h := h.2 q
    refine o_iconst (n := 0) (v := 0) (by decide +kernel) (by decide) ?_
    refine o_istore (k := 5) (L' := [(5, .int 0), (0, .ref 333), (1, .ref r1), (2, .int v2), (4, .int v4)]) (by decide +kernel) (by decide) rfl ?_
    refine o_sub [1, 2, 3, 4, 0] rfl ?_
    exact h
set_option maxRecDepth 20000 in
theorem k_X10_seekLeast_59 {d : Nat} {K : x_T → Int32 → Prop} {r1 : Nat} (h1 : x_sh r1 = (1, 11)) {v2 : Int32} {v4 : Int32} {v5 : Int32} {τ : x_T} (h : (8 ≤ v5 → ∀ y1, y1 = v4 + 1 → (x_WI (d + 1) mX10_seekLeast K 49 [(0, .ref 333), (1, .ref r1), (2, .int v2), (4, .int y1)] [] τ)) ∧ (¬ 8 ≤ v5 → x_CV d mX10_lowerRest [.ref 333, .int v5] τ (fun t2 => ∀ y4, y4 = v5 + 1 → (x_WI (d + 1) mX10_seekLeast K 59 [(0, .ref 333), (1, .ref r1), (2, .int v2), (4, .int v4), (5, .int y4)] [] t2)))) : x_WI (d + 1) mX10_seekLeast K 59 [(0, .ref 333), (1, .ref r1), (2, .int v2), (4, .int v4), (5, .int v5)] [] τ := by
  refine o_iload (k := 5) 4 (by decide +kernel) rfl ?_
  refine o_bipush (n := 8) (v := 8) (by decide +kernel) (by decide) ?_
  refine o_icmp_ge (off := 15) 78 (by decide +kernel) (by decide) (fun q => ?_) (fun q => ?_)
  · replace h := h.1 q
    obtain ⟨y1, ey1⟩ : ∃ y : Int32, y = v4 + 1 := ⟨_, rfl⟩
    replace h := h y1 ey1
    refine o_iinc (i := 4) (n := 1) (v := y1) (L' := [(4, .int y1), (0, .ref 333), (1, .ref r1), (2, .int v2), (5, .int v5)]) 3 (by decide +kernel) rfl (by rw [ey1]; rfl) (by decide) rfl ?_
    refine o_goto (off := -32) 49 (by decide +kernel) (by decide) ?_
    refine o_sub [1, 2, 3, 0] rfl ?_
    exact h
  · replace h := h.2 q
    refine o_aload_n (k := 0) 0 (by decide +kernel) rfl ?_
    refine o_iload (k := 5) 4 (by decide +kernel) rfl ?_
    refine f_callVV (μ' := mX10_lowerRest) (i := 96) (vs := [.int v5]) (by decide +kernel) lk_1196 (vok_mX10_lowerRest) sh_333 rfl rfl rfl rfl (Nat.le_of_ble_eq_true rfl) ?_
    refine x_CV.mono h (fun t2 h => ?_)
    obtain ⟨y4, ey4⟩ : ∃ y : Int32, y = v5 + 1 := ⟨_, rfl⟩
    replace h := h y4 ey4
    refine o_iinc (i := 5) (n := 1) (v := y4) (L' := [(5, .int y4), (0, .ref 333), (1, .ref r1), (2, .int v2), (4, .int v4)]) 4 (by decide +kernel) rfl (by rw [ey4]; rfl) (by decide) rfl ?_
    refine o_goto (off := -16) 59 (by decide +kernel) (by decide) ?_
    refine o_sub [1, 2, 3, 4, 0] rfl ?_
    exact h
set_option maxRecDepth 20000 in
theorem k_X10_seekLeast_120 {d : Nat} {K : x_T → Int32 → Prop} {v2 : Int32} {v4 : Int32} {v5 : Int32} {τ : x_T} (h : (v5 = v2 → vp_in v4 8 ∧ (K τ (τ.1 337 v4.toNatClampNeg))) ∧ (¬ v5 = v2 → (v5 = (-1) → vp_in v4 8 ∧ (K τ (τ.1 337 v4.toNatClampNeg))) ∧ (¬ v5 = (-1) → (8 ≤ τ.1 333 9 → vp_in v4 8 ∧ (K τ (τ.1 337 v4.toNatClampNeg))) ∧ (¬ 8 ≤ τ.1 333 9 → x_CI d mX10_lowestNext [.ref 333, .int v5] τ (fun t1 a2 => vp_in (t1.1 333 9) 8 ∧ (∀ t3, t3 = x_w1 t1 338 ((t1.1 333 9).toNatClampNeg) a2 → (∀ t4, t4 = x_w1 t3 333 9 ((t3.1 333 9) + 1) → (x_WI (d + 1) mX10_seekLeast K 120 [(0, .ref 333), (2, .int v2), (4, .int v4), (5, .int a2)] [] t4)))))))) : x_WI (d + 1) mX10_seekLeast K 120 [(0, .ref 333), (2, .int v2), (4, .int v4), (5, .int v5)] [] τ := by
  refine o_iload (k := 5) 3 (by decide +kernel) rfl ?_
  refine o_iload_n (k := 2) 1 (by decide +kernel) rfl ?_
  refine o_icmp_eq (off := 50) 173 (by decide +kernel) (by decide) (fun q => ?_) (fun q => ?_)
  · replace h := h.1 q
    refine o_aload_n (k := 0) 0 (by decide +kernel) rfl ?_
    refine f_getR (r := 337) (t := 10) (k := 7) (i := 21) (by decide +kernel) sh_333 rfl (by decide) lk_449 (by simp [x_ty, tyX10]) (gr_10_7 sh_333) ?_
    refine o_iload (k := 4) 2 (by decide +kernel) rfl ?_
    obtain ⟨hi, h⟩ := h
    refine f_iald (by decide +kernel) sh_337 hi rfl ?_
    exact f_iret (ty := .int) rfl rfl (by decide +kernel) rfl h
  · replace h := h.2 q
    refine o_iload (k := 5) 3 (by decide +kernel) rfl ?_
    refine o_iconst (n := -1) (v := (-1)) (by decide +kernel) (by decide) ?_
    refine o_icmp_eq (off := 44) 173 (by decide +kernel) (by decide) (fun q => ?_) (fun q => ?_)
    · replace h := h.1 q
      refine o_aload_n (k := 0) 0 (by decide +kernel) rfl ?_
      refine f_getR (r := 337) (t := 10) (k := 7) (i := 21) (by decide +kernel) sh_333 rfl (by decide) lk_449 (by simp [x_ty, tyX10]) (gr_10_7 sh_333) ?_
      refine o_iload (k := 4) 2 (by decide +kernel) rfl ?_
      obtain ⟨hi, h⟩ := h
      refine f_iald (by decide +kernel) sh_337 hi rfl ?_
      exact f_iret (ty := .int) rfl rfl (by decide +kernel) rfl h
    · replace h := h.2 q
      refine o_aload_n (k := 0) 0 (by decide +kernel) rfl ?_
      refine f_getI (t := 10) (k := 9) (i := 35) (by decide +kernel) sh_333 rfl (by decide) lk_451 rfl ?_
      refine o_bipush (n := 8) (v := 8) (by decide +kernel) (by decide) ?_
      refine o_icmp_ge (off := 35) 173 (by decide +kernel) (by decide) (fun q => ?_) (fun q => ?_)
      · replace h := h.1 q
        refine o_aload_n (k := 0) 0 (by decide +kernel) rfl ?_
        refine f_getR (r := 337) (t := 10) (k := 7) (i := 21) (by decide +kernel) sh_333 rfl (by decide) lk_449 (by simp [x_ty, tyX10]) (gr_10_7 sh_333) ?_
        refine o_iload (k := 4) 2 (by decide +kernel) rfl ?_
        obtain ⟨hi, h⟩ := h
        refine f_iald (by decide +kernel) sh_337 hi rfl ?_
        exact f_iret (ty := .int) rfl rfl (by decide +kernel) rfl h
      · replace h := h.2 q
        refine o_aload_n (k := 0) 0 (by decide +kernel) rfl ?_
        refine o_iload (k := 5) 3 (by decide +kernel) rfl ?_
        refine f_callVI (μ' := mX10_lowestNext) (i := 103) (vs := [.int v5]) (by decide +kernel) lk_1201 (vok_mX10_lowestNext) sh_333 rfl rfl rfl rfl (Nat.le_of_ble_eq_true rfl) ?_
        refine x_CI.mono h (fun t1 a2 h => ?_)
        refine o_istore (k := 5) (L' := [(5, .int a2), (0, .ref 333), (2, .int v2), (4, .int v4)]) (by decide +kernel) (by decide) rfl ?_
        refine o_aload_n (k := 0) 1 (by decide +kernel) rfl ?_
        refine f_getR (r := 338) (t := 10) (k := 8) (i := 24) (by decide +kernel) sh_333 rfl (by decide) lk_450 (by simp [x_ty, tyX10]) (gr_10_8 sh_333) ?_
        refine o_aload_n (k := 0) 1 (by decide +kernel) rfl ?_
        refine f_getI (t := 10) (k := 9) (i := 35) (by decide +kernel) sh_333 rfl (by decide) lk_451 rfl ?_
        refine o_iload (k := 5) 0 (by decide +kernel) rfl ?_
        obtain ⟨hi, h⟩ := h
        refine f_iast (by decide +kernel) sh_338 hi rfl ?_
        refine f_name (fun t3 et3 => ?_)
        replace h := h t3 et3
        refine o_aload_n (k := 0) 1 (by decide +kernel) rfl ?_
        refine o_dup (by decide +kernel) rfl ?_
        refine f_getI (t := 10) (k := 9) (i := 35) (by decide +kernel) sh_333 rfl (by decide) lk_451 rfl ?_
        refine o_iconst (n := 1) (v := 1) (by decide +kernel) (by decide) ?_
        refine o_iadd (by decide +kernel) ?_
        refine f_putI (t := 10) (k := 9) (i := 35) (by decide +kernel) sh_333 rfl (by decide) lk_451 rfl rfl ?_
        refine f_name (fun t4 et4 => ?_)
        replace h := h t4 et4
        refine o_goto (off := -50) 120 (by decide +kernel) (by decide) ?_
        refine o_sub [1, 2, 3, 0] rfl ?_
        exact h
set_option maxRecDepth 20000 in
theorem e_X10_askCosts {d : Nat} {K : x_T → Prop} {r1 : Nat} (h1 : x_sh r1 = (1, 11)) {v2 : Int32} {τ : x_T} (h : x_WV (d + 1) mX10_askCosts K 2 [(0, .ref 333), (1, .ref r1), (2, .int v2), (3, .int 0)] [] τ) : x_CV (d + 1) mX10_askCosts [.ref 333, .ref r1, .int v2] τ K := by
  refine x_CV_of (by decide) (Nat.le_of_ble_eq_true rfl) ?_
  show x_WV (d + 1) mX10_askCosts K 0 [(0, .ref 333), (1, .ref r1), (2, .int v2)] [] τ
  refine o_iconst (n := 0) (v := 0) (by decide +kernel) (by decide) ?_
  refine o_istore_n (k := 3) (L' := [(3, .int 0), (0, .ref 333), (1, .ref r1), (2, .int v2)]) (by decide +kernel) (by decide) rfl ?_
  refine o_sub [1, 2, 3, 0] rfl ?_
  exact h
set_option maxRecDepth 20000 in
theorem k_X10_askCosts_2 {d : Nat} {K : x_T → Prop} {r1 : Nat} (h1 : x_sh r1 = (1, 11)) {v2 : Int32} {v3 : Int32} {τ : x_T} (h : (8 ≤ v3 → K τ) ∧ (¬ 8 ≤ v3 → x_WV (d + 1) mX10_askCosts K 11 [(0, .ref 333), (1, .ref r1), (2, .int v2), (3, .int v3), (4, .int 0)] [] τ)) : x_WV (d + 1) mX10_askCosts K 2 [(0, .ref 333), (1, .ref r1), (2, .int v2), (3, .int v3)] [] τ := by
  refine o_iload_n (k := 3) 3 (by decide +kernel) rfl ?_
  refine o_bipush (n := 8) (v := 8) (by decide +kernel) (by decide) ?_
  refine o_icmp_ge (off := 79) 84 (by decide +kernel) (by decide) (fun q => ?_) (fun q => ?_)
  · replace h := h.1 q
    exact f_vret rfl (by decide +kernel) rfl h
  · replace h := h.2 q
    refine o_iconst (n := 0) (v := 0) (by decide +kernel) (by decide) ?_
    refine o_istore (k := 4) (L' := [(4, .int 0), (0, .ref 333), (1, .ref r1), (2, .int v2), (3, .int v3)]) (by decide +kernel) (by decide) rfl ?_
    refine o_sub [1, 2, 3, 4, 0] rfl ?_
    exact h
set_option maxRecDepth 20000 in
theorem k_X10_askCosts_11 {d : Nat} {K : x_T → Prop} {r1 : Nat} (h1 : x_sh r1 = (1, 11)) {v2 : Int32} {v3 : Int32} {v4 : Int32} {τ : x_T} (h : (8 ≤ v4 → ∀ y1, y1 = v3 + 1 → (x_WV (d + 1) mX10_askCosts K 2 [(0, .ref 333), (1, .ref r1), (2, .int v2), (3, .int y1)] [] τ)) ∧ (¬ 8 ≤ v4 → x_CI d mX3_laneBetween [.ref 1, .int v3, .int v4] τ (fun t2 a3 => (a3 ≤ 0 → x_WV (d + 1) mX10_askCosts K 36 [(0, .ref 333), (1, .ref r1), (2, .int v2), (3, .int v3), (4, .int v4)] [.int 0] t2) ∧ (¬ a3 ≤ 0 → x_WV (d + 1) mX10_askCosts K 36 [(0, .ref 333), (1, .ref r1), (2, .int v2), (3, .int v3), (4, .int v4)] [.int 1] t2)))) : x_WV (d + 1) mX10_askCosts K 11 [(0, .ref 333), (1, .ref r1), (2, .int v2), (3, .int v3), (4, .int v4)] [] τ := by
  refine o_iload (k := 4) 4 (by decide +kernel) rfl ?_
  refine o_bipush (n := 8) (v := 8) (by decide +kernel) (by decide) ?_
  refine o_icmp_ge (off := 63) 78 (by decide +kernel) (by decide) (fun q => ?_) (fun q => ?_)
  · replace h := h.1 q
    obtain ⟨y1, ey1⟩ : ∃ y : Int32, y = v3 + 1 := ⟨_, rfl⟩
    replace h := h y1 ey1
    refine o_iinc (i := 3) (n := 1) (v := y1) (L' := [(3, .int y1), (0, .ref 333), (1, .ref r1), (2, .int v2), (4, .int v4)]) 3 (by decide +kernel) rfl (by rw [ey1]; rfl) (by decide) rfl ?_
    refine o_goto (off := -79) 2 (by decide +kernel) (by decide) ?_
    refine o_sub [1, 2, 3, 0] rfl ?_
    exact h
  · replace h := h.2 q
    refine o_aload_n (k := 0) 0 (by decide +kernel) rfl ?_
    refine f_getR (r := 1) (t := 10) (k := 0) (i := 27) (by decide +kernel) sh_333 rfl (by decide) lk_442 (by simp [x_ty, tyX10]) (gr_10_0 sh_333) ?_
    refine o_iload_n (k := 3) 3 (by decide +kernel) rfl ?_
    refine o_iload (k := 4) 4 (by decide +kernel) rfl ?_
    refine f_callVI (μ' := mX3_laneBetween) (i := 75) (vs := [.int v3, .int v4]) (by decide +kernel) lk_1177 (vok_mX3_laneBetween) sh_1 rfl rfl rfl rfl (Nat.le_of_ble_eq_true rfl) ?_
    refine x_CI.mono h (fun t2 a3 h => ?_)
    refine o_if_le (off := 7) 35 (by decide +kernel) (by decide) (fun q => ?_) (fun q => ?_)
    · replace h := h.1 q
      refine o_iconst (n := 0) (v := 0) (by decide +kernel) (by decide) ?_
      exact h
    · replace h := h.2 q
      refine o_iconst (n := 1) (v := 1) (by decide +kernel) (by decide) ?_
      refine o_goto (off := 4) 36 (by decide +kernel) (by decide) ?_
      exact h
set_option maxRecDepth 20000 in
theorem k_X10_askCosts_36 {d : Nat} {K : x_T → Prop} {r1 : Nat} (h1 : x_sh r1 = (1, 11)) {v2 : Int32} {v3 : Int32} {v4 : Int32} {s0 : Int32} {τ : x_T} (h : (s0 = 0 → x_WV (d + 1) mX10_askCosts K 71 [(0, .ref 333), (1, .ref r1), (2, .int v2), (3, .int v3), (4, .int v4)] [.int 1000000, .int ((v3 * 8) + v4), .ref 336] τ) ∧ (¬ s0 = 0 → x_CI d mX4_hardness [.ref 329, .ref r1, .int v3, .int v4, .int v2] τ (fun t1 a2 => x_WV (d + 1) mX10_askCosts K 71 [(0, .ref 333), (1, .ref r1), (2, .int v2), (3, .int v3), (4, .int v4)] [.int a2, .int ((v3 * 8) + v4), .ref 336] t1))) : x_WV (d + 1) mX10_askCosts K 36 [(0, .ref 333), (1, .ref r1), (2, .int v2), (3, .int v3), (4, .int v4)] [.int s0] τ := by
  refine o_istore (k := 5) (L' := [(5, .int s0), (0, .ref 333), (1, .ref r1), (2, .int v2), (3, .int v3), (4, .int v4)]) (by decide +kernel) (by decide) rfl ?_
  refine o_aload_n (k := 0) 1 (by decide +kernel) rfl ?_
  refine f_getR (r := 336) (t := 10) (k := 6) (i := 18) (by decide +kernel) sh_333 rfl (by decide) lk_448 (by simp [x_ty, tyX10]) (gr_10_6 sh_333) ?_
  refine o_iload_n (k := 3) 4 (by decide +kernel) rfl ?_
  refine o_bipush (n := 8) (v := 8) (by decide +kernel) (by decide) ?_
  refine o_imul (by decide +kernel) ?_
  refine o_iload (k := 4) 5 (by decide +kernel) rfl ?_
  refine o_iadd (by decide +kernel) ?_
  refine o_iload (k := 5) 0 (by decide +kernel) rfl ?_
  refine o_if_eq (off := 18) 69 (by decide +kernel) (by decide) (fun q => ?_) (fun q => ?_)
  · replace h := h.1 q
    refine o_ldc (i := 95) (v := 1000000) (by decide +kernel) lk_1195 ?_
    refine o_sub [1, 2, 3, 4, 5] rfl ?_
    exact h
  · replace h := h.2 q
    refine o_aload_n (k := 0) 1 (by decide +kernel) rfl ?_
    refine f_getR (r := 329) (t := 10) (k := 1) (i := 31) (by decide +kernel) sh_333 rfl (by decide) lk_443 (by simp [x_ty, tyX10]) (gr_10_1 sh_333) ?_
    refine o_aload_n (k := 1) 2 (by decide +kernel) rfl ?_
    refine o_iload_n (k := 3) 4 (by decide +kernel) rfl ?_
    refine o_iload (k := 4) 5 (by decide +kernel) rfl ?_
    refine o_iload_n (k := 2) 3 (by decide +kernel) rfl ?_
    refine f_callVI (μ' := mX4_hardness) (i := 106) (vs := [.ref r1, .int v3, .int v4, .int v2]) (by decide +kernel) lk_1194 (vok_mX4_hardness) sh_329 rfl rfl rfl rfl (Nat.le_of_ble_eq_true rfl) ?_
    refine x_CI.mono h (fun t1 a2 h => ?_)
    refine o_goto (off := 5) 71 (by decide +kernel) (by decide) ?_
    refine o_sub [1, 2, 3, 4, 5] rfl ?_
    exact h
set_option maxRecDepth 20000 in
theorem k_X10_askCosts_71 {d : Nat} {K : x_T → Prop} {r1 : Nat} (h1 : x_sh r1 = (1, 11)) {v2 : Int32} {v3 : Int32} {v4 : Int32} {s0 : Int32} {s1 : Int32} {τ : x_T} (h : vp_in s1 64 ∧ (∀ t1, t1 = x_w1 τ 336 s1.toNatClampNeg s0 → (∀ y2, y2 = v4 + 1 → (x_WV (d + 1) mX10_askCosts K 11 [(0, .ref 333), (1, .ref r1), (2, .int v2), (3, .int v3), (4, .int y2)] [] t1)))) : x_WV (d + 1) mX10_askCosts K 71 [(0, .ref 333), (1, .ref r1), (2, .int v2), (3, .int v3), (4, .int v4)] [.int s0, .int s1, .ref 336] τ := by
  obtain ⟨hi, h⟩ := h
  refine f_iast (by decide +kernel) sh_336 hi rfl ?_
  refine f_name (fun t1 et1 => ?_)
  replace h := h t1 et1
  obtain ⟨y2, ey2⟩ : ∃ y : Int32, y = v4 + 1 := ⟨_, rfl⟩
  replace h := h y2 ey2
  refine o_iinc (i := 4) (n := 1) (v := y2) (L' := [(4, .int y2), (0, .ref 333), (1, .ref r1), (2, .int v2), (3, .int v3)]) 4 (by decide +kernel) rfl (by rw [ey2]; rfl) (by decide) rfl ?_
  refine o_goto (off := -64) 11 (by decide +kernel) (by decide) ?_
  refine o_sub [1, 2, 3, 4, 0] rfl ?_
  exact h
set_option maxRecDepth 20000 in
theorem e_X10_lowerRest {d : Nat} {K : x_T → Prop} {v1 : Int32} {τ : x_T} (h : (v1 < 0 → K τ) ∧ (¬ v1 < 0 → (v1 < 8 → x_WV (d + 1) mX10_lowerRest K 13 [(0, .ref 333), (1, .int v1), (2, .int 0)] [] τ) ∧ (¬ v1 < 8 → K τ))) : x_CV (d + 1) mX10_lowerRest [.ref 333, .int v1] τ K := by
  refine x_CV_of (by decide) (Nat.le_of_ble_eq_true rfl) ?_
  show x_WV (d + 1) mX10_lowerRest K 0 [(0, .ref 333), (1, .int v1)] [] τ
  refine o_iload_n (k := 1) 1 (by decide +kernel) rfl ?_
  refine o_if_lt (off := 9) 10 (by decide +kernel) (by decide) (fun q => ?_) (fun q => ?_)
  · replace h := h.1 q
    exact f_vret rfl (by decide +kernel) rfl h
  · replace h := h.2 q
    refine o_iload_n (k := 1) 1 (by decide +kernel) rfl ?_
    refine o_bipush (n := 8) (v := 8) (by decide +kernel) (by decide) ?_
    refine o_icmp_lt (off := 4) 11 (by decide +kernel) (by decide) (fun q => ?_) (fun q => ?_)
    · replace h := h.1 q
      refine o_iconst (n := 0) (v := 0) (by decide +kernel) (by decide) ?_
      refine o_istore_n (k := 2) (L' := [(2, .int 0), (0, .ref 333), (1, .int v1)]) (by decide +kernel) (by decide) rfl ?_
      refine o_sub [1, 2, 0] rfl ?_
      exact h
    · replace h := h.2 q
      exact f_vret rfl (by decide +kernel) rfl h
set_option maxRecDepth 20000 in
theorem k_X10_lowerRest_13 {d : Nat} {K : x_T → Prop} {v1 : Int32} {v2 : Int32} {τ : x_T} (h : (8 ≤ v2 → K τ) ∧ (¬ 8 ≤ v2 → vp_in v1 8 ∧ (vp_in ((v1 * 8) + v2) 64 ∧ (vp_in v2 8 ∧ (∀ y1, y1 = (if (τ.1 336 ((v1 * 8) + v2).toNatClampNeg) + (τ.1 337 v2.toNatClampNeg) < τ.1 337 v1.toNatClampNeg then (τ.1 336 ((v1 * 8) + v2).toNatClampNeg) + (τ.1 337 v2.toNatClampNeg) else τ.1 337 v1.toNatClampNeg) → (vp_in v1 8 ∧ (∀ t2, t2 = x_w1 τ 337 v1.toNatClampNeg y1 → (∀ y3, y3 = v2 + 1 → (x_WV (d + 1) mX10_lowerRest K 13 [(0, .ref 333), (1, .int v1), (2, .int y3)] [] t2))))))))) : x_WV (d + 1) mX10_lowerRest K 13 [(0, .ref 333), (1, .int v1), (2, .int v2)] [] τ := by
  refine o_iload_n (k := 2) 2 (by decide +kernel) rfl ?_
  refine o_bipush (n := 8) (v := 8) (by decide +kernel) (by decide) ?_
  refine o_icmp_ge (off := 42) 58 (by decide +kernel) (by decide) (fun q => ?_) (fun q => ?_)
  · replace h := h.1 q
    exact f_vret rfl (by decide +kernel) rfl h
  · replace h := h.2 q
    refine o_aload_n (k := 0) 0 (by decide +kernel) rfl ?_
    refine f_getR (r := 337) (t := 10) (k := 7) (i := 21) (by decide +kernel) sh_333 rfl (by decide) lk_449 (by simp [x_ty, tyX10]) (gr_10_7 sh_333) ?_
    refine o_iload_n (k := 1) 1 (by decide +kernel) rfl ?_
    refine o_aload_n (k := 0) 0 (by decide +kernel) rfl ?_
    refine f_getR (r := 337) (t := 10) (k := 7) (i := 21) (by decide +kernel) sh_333 rfl (by decide) lk_449 (by simp [x_ty, tyX10]) (gr_10_7 sh_333) ?_
    refine o_iload_n (k := 1) 1 (by decide +kernel) rfl ?_
    obtain ⟨hi, h⟩ := h
    refine f_iald (by decide +kernel) sh_337 hi rfl ?_
    refine o_aload_n (k := 0) 0 (by decide +kernel) rfl ?_
    refine f_getR (r := 336) (t := 10) (k := 6) (i := 18) (by decide +kernel) sh_333 rfl (by decide) lk_448 (by simp [x_ty, tyX10]) (gr_10_6 sh_333) ?_
    refine o_iload_n (k := 1) 1 (by decide +kernel) rfl ?_
    refine o_bipush (n := 8) (v := 8) (by decide +kernel) (by decide) ?_
    refine o_imul (by decide +kernel) ?_
    refine o_iload_n (k := 2) 2 (by decide +kernel) rfl ?_
    refine o_iadd (by decide +kernel) ?_
    obtain ⟨hi, h⟩ := h
    refine f_iald (by decide +kernel) sh_336 hi rfl ?_
    refine o_aload_n (k := 0) 0 (by decide +kernel) rfl ?_
    refine f_getR (r := 337) (t := 10) (k := 7) (i := 21) (by decide +kernel) sh_333 rfl (by decide) lk_449 (by simp [x_ty, tyX10]) (gr_10_7 sh_333) ?_
    refine o_iload_n (k := 2) 2 (by decide +kernel) rfl ?_
    obtain ⟨hi, h⟩ := h
    refine f_iald (by decide +kernel) sh_337 hi rfl ?_
    refine o_iadd (by decide +kernel) ?_
    refine o_mmin (i := 112) (by decide +kernel) lk_1200 lm_min (Nat.le_of_ble_eq_true rfl) ?_
    refine o_name (fun y1 ey1 => ?_)
    replace h := h y1 ey1
    obtain ⟨hi, h⟩ := h
    refine f_iast (by decide +kernel) sh_337 hi rfl ?_
    refine f_name (fun t2 et2 => ?_)
    replace h := h t2 et2
    obtain ⟨y3, ey3⟩ : ∃ y : Int32, y = v2 + 1 := ⟨_, rfl⟩
    replace h := h y3 ey3
    refine o_iinc (i := 2) (n := 1) (v := y3) (L' := [(2, .int y3), (0, .ref 333), (1, .int v1)]) 2 (by decide +kernel) rfl (by rw [ey3]; rfl) (by decide) rfl ?_
    refine o_goto (off := -42) 13 (by decide +kernel) (by decide) ?_
    refine o_sub [1, 2, 0] rfl ?_
    exact h
set_option maxRecDepth 20000 in
theorem e_X10_lowestNext {d : Nat} {K : x_T → Int32 → Prop} {v1 : Int32} {τ : x_T} (h : (v1 < 0 → K τ (-1)) ∧ (¬ v1 < 0 → (v1 < 8 → x_WI d mX10_lowestNext K 14 [(0, .ref 333), (1, .int v1), (2, .int 0)] [] τ) ∧ (¬ v1 < 8 → K τ (-1)))) : x_CI d mX10_lowestNext [.ref 333, .int v1] τ K := by
  refine x_CI_of (by decide) (Nat.le_of_ble_eq_true rfl) ?_
  show x_WI d mX10_lowestNext K 0 [(0, .ref 333), (1, .int v1)] [] τ
  refine o_iload_n (k := 1) 1 (by decide +kernel) rfl ?_
  refine o_if_lt (off := 9) 10 (by decide +kernel) (by decide) (fun q => ?_) (fun q => ?_)
  · replace h := h.1 q
    refine o_iconst (n := -1) (v := (-1)) (by decide +kernel) (by decide) ?_
    exact f_iret (ty := .int) rfl rfl (by decide +kernel) rfl h
  · replace h := h.2 q
    refine o_iload_n (k := 1) 1 (by decide +kernel) rfl ?_
    refine o_bipush (n := 8) (v := 8) (by decide +kernel) (by decide) ?_
    refine o_icmp_lt (off := 5) 12 (by decide +kernel) (by decide) (fun q => ?_) (fun q => ?_)
    · replace h := h.1 q
      refine o_iconst (n := 0) (v := 0) (by decide +kernel) (by decide) ?_
      refine o_istore_n (k := 2) (L' := [(2, .int 0), (0, .ref 333), (1, .int v1)]) (by decide +kernel) (by decide) rfl ?_
      refine o_sub [1, 2, 0] rfl ?_
      exact h
    · replace h := h.2 q
      refine o_iconst (n := -1) (v := (-1)) (by decide +kernel) (by decide) ?_
      exact f_iret (ty := .int) rfl rfl (by decide +kernel) rfl h
set_option maxRecDepth 20000 in
theorem k_X10_lowestNext_14 {d : Nat} {K : x_T → Int32 → Prop} {v1 : Int32} {v2 : Int32} {τ : x_T} (h : (8 ≤ v2 → K τ (-1)) ∧ (¬ 8 ≤ v2 → vp_in ((v1 * 8) + v2) 64 ∧ (vp_in v2 8 ∧ (vp_in v1 8 ∧ ((¬ (τ.1 336 ((v1 * 8) + v2).toNatClampNeg) + (τ.1 337 v2.toNatClampNeg) = τ.1 337 v1.toNatClampNeg → ∀ y1, y1 = v2 + 1 → (x_WI d mX10_lowestNext K 14 [(0, .ref 333), (1, .int v1), (2, .int y1)] [] τ)) ∧ ((τ.1 336 ((v1 * 8) + v2).toNatClampNeg) + (τ.1 337 v2.toNatClampNeg) = τ.1 337 v1.toNatClampNeg → K τ v2)))))) : x_WI d mX10_lowestNext K 14 [(0, .ref 333), (1, .int v1), (2, .int v2)] [] τ := by
  refine o_iload_n (k := 2) 2 (by decide +kernel) rfl ?_
  refine o_bipush (n := 8) (v := 8) (by decide +kernel) (by decide) ?_
  refine o_icmp_ge (off := 38) 55 (by decide +kernel) (by decide) (fun q => ?_) (fun q => ?_)
  · replace h := h.1 q
    refine o_iconst (n := -1) (v := (-1)) (by decide +kernel) (by decide) ?_
    exact f_iret (ty := .int) rfl rfl (by decide +kernel) rfl h
  · replace h := h.2 q
    refine o_aload_n (k := 0) 0 (by decide +kernel) rfl ?_
    refine f_getR (r := 336) (t := 10) (k := 6) (i := 18) (by decide +kernel) sh_333 rfl (by decide) lk_448 (by simp [x_ty, tyX10]) (gr_10_6 sh_333) ?_
    refine o_iload_n (k := 1) 1 (by decide +kernel) rfl ?_
    refine o_bipush (n := 8) (v := 8) (by decide +kernel) (by decide) ?_
    refine o_imul (by decide +kernel) ?_
    refine o_iload_n (k := 2) 2 (by decide +kernel) rfl ?_
    refine o_iadd (by decide +kernel) ?_
    obtain ⟨hi, h⟩ := h
    refine f_iald (by decide +kernel) sh_336 hi rfl ?_
    refine o_aload_n (k := 0) 0 (by decide +kernel) rfl ?_
    refine f_getR (r := 337) (t := 10) (k := 7) (i := 21) (by decide +kernel) sh_333 rfl (by decide) lk_449 (by simp [x_ty, tyX10]) (gr_10_7 sh_333) ?_
    refine o_iload_n (k := 2) 2 (by decide +kernel) rfl ?_
    obtain ⟨hi, h⟩ := h
    refine f_iald (by decide +kernel) sh_337 hi rfl ?_
    refine o_iadd (by decide +kernel) ?_
    refine o_aload_n (k := 0) 0 (by decide +kernel) rfl ?_
    refine f_getR (r := 337) (t := 10) (k := 7) (i := 21) (by decide +kernel) sh_333 rfl (by decide) lk_449 (by simp [x_ty, tyX10]) (gr_10_7 sh_333) ?_
    refine o_iload_n (k := 1) 1 (by decide +kernel) rfl ?_
    obtain ⟨hi, h⟩ := h
    refine f_iald (by decide +kernel) sh_337 hi rfl ?_
    refine o_icmp_ne (off := 5) 49 (by decide +kernel) (by decide) (fun q => ?_) (fun q => ?_)
    · replace h := h.1 q
      obtain ⟨y1, ey1⟩ : ∃ y : Int32, y = v2 + 1 := ⟨_, rfl⟩
      replace h := h y1 ey1
      refine o_iinc (i := 2) (n := 1) (v := y1) (L' := [(2, .int y1), (0, .ref 333), (1, .int v1)]) 2 (by decide +kernel) rfl (by rw [ey1]; rfl) (by decide) rfl ?_
      refine o_goto (off := -38) 14 (by decide +kernel) (by decide) ?_
      refine o_sub [1, 2, 0] rfl ?_
      exact h
    · replace h := h.2 q
      refine o_iload_n (k := 2) 2 (by decide +kernel) rfl ?_
      exact f_iret (ty := .int) rfl rfl (by decide +kernel) rfl h
set_option maxRecDepth 20000 in
theorem e_X10_leastHouse {d : Nat} {K : x_T → Int32 → Prop} {v1 : Int32} {τ : x_T} (h : (v1 < 0 → K τ (-1)) ∧ (¬ v1 < 0 → (8 ≤ v1 → K τ (-1)) ∧ (¬ 8 ≤ v1 → vp_in v1 8 ∧ (K τ (τ.1 338 v1.toNatClampNeg))))) : x_CI d mX10_leastHouse [.ref 333, .int v1] τ K := by
  refine x_CI_of (by decide) (Nat.le_of_ble_eq_true rfl) ?_
  show x_WI d mX10_leastHouse K 0 [(0, .ref 333), (1, .int v1)] [] τ
  refine o_iload_n (k := 1) 1 (by decide +kernel) rfl ?_
  refine o_if_lt (off := 18) 19 (by decide +kernel) (by decide) (fun q => ?_) (fun q => ?_)
  · replace h := h.1 q
    refine o_iconst (n := -1) (v := (-1)) (by decide +kernel) (by decide) ?_
    exact f_iret (ty := .int) rfl rfl (by decide +kernel) rfl h
  · replace h := h.2 q
    refine o_iload_n (k := 1) 1 (by decide +kernel) rfl ?_
    refine o_bipush (n := 8) (v := 8) (by decide +kernel) (by decide) ?_
    refine o_icmp_ge (off := 12) 19 (by decide +kernel) (by decide) (fun q => ?_) (fun q => ?_)
    · replace h := h.1 q
      refine o_iconst (n := -1) (v := (-1)) (by decide +kernel) (by decide) ?_
      exact f_iret (ty := .int) rfl rfl (by decide +kernel) rfl h
    · replace h := h.2 q
      refine o_aload_n (k := 0) 0 (by decide +kernel) rfl ?_
      refine f_getR (r := 338) (t := 10) (k := 8) (i := 24) (by decide +kernel) sh_333 rfl (by decide) lk_450 (by simp [x_ty, tyX10]) (gr_10_8 sh_333) ?_
      refine o_iload_n (k := 1) 1 (by decide +kernel) rfl ?_
      obtain ⟨hi, h⟩ := h
      refine f_iald (by decide +kernel) sh_338 hi rfl ?_
      refine o_goto (off := 4) 20 (by decide +kernel) (by decide) ?_
      exact f_iret (ty := .int) rfl rfl (by decide +kernel) rfl h
