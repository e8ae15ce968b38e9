set_option maxRecDepth 20000 in
theorem e_X12_laysPushing {d : Nat} {K : x_T → Prop} {v1 : Int32} {v2 : Int32} {τ : x_T} (h : x_WV (d + 1) mX12_laysPushing K 2 [(0, .ref 345), (1, .int v1), (2, .int v2), (3, .int 0)] [] τ) : x_CV (d + 1) mX12_laysPushing [.ref 345, .int v1, .int v2] τ K := by
  refine x_CV_of (by decide) (Nat.le_of_ble_eq_true rfl) ?_
  show x_WV (d + 1) mX12_laysPushing K 0 [(0, .ref 345), (1, .int v1), (2, .int v2)] [] τ
  refine o_iconst (n := 0) (v := 0) (by decide +kernel) (by decide) ?_
  refine o_istore_n (k := 3) (L' := [(3, .int 0), (0, .ref 345), (1, .int v1), (2, .int v2)]) (by decide +kernel) (by decide) rfl ?_
  refine o_sub [1, 2, 3, 0] rfl ?_
  exact h
set_option maxRecDepth 20000 in
theorem k_X12_laysPushing_2 {d : Nat} {K : x_T → Prop} {v1 : Int32} {v2 : Int32} {v3 : Int32} {τ : x_T} (h : (8 ≤ v3 → x_WV (d + 1) mX12_laysPushing K 33 [(0, .ref 345), (2, .int v2), (3, .int 0)] [] τ) ∧ (¬ 8 ≤ v3 → (¬ v3 = v1 → x_WV (d + 1) mX12_laysPushing K 24 [(0, .ref 345), (1, .int v1), (2, .int v2), (3, .int v3)] [.int 99999, .int v3, .ref 374] τ) ∧ (v3 = v1 → x_WV (d + 1) mX12_laysPushing K 24 [(0, .ref 345), (1, .int v1), (2, .int v2), (3, .int v3)] [.int 0, .int v3, .ref 374] τ))) : x_WV (d + 1) mX12_laysPushing K 2 [(0, .ref 345), (1, .int v1), (2, .int v2), (3, .int v3)] [] τ := by
  refine o_iload_n (k := 3) 3 (by decide +kernel) rfl ?_
  refine o_bipush (n := 8) (v := 8) (by decide +kernel) (by decide) ?_
  refine o_icmp_ge (off := 26) 31 (by decide +kernel) (by decide) (fun q => ?_) (fun q => ?_)
  · replace h := h.1 q
    refine o_iconst (n := 0) (v := 0) (by decide +kernel) (by decide) ?_
    refine o_istore_n (k := 3) (L' := [(3, .int 0), (0, .ref 345), (1, .int v1), (2, .int v2)]) (by decide +kernel) (by decide) rfl ?_
    refine o_sub [1, 3, 0] rfl ?_
    exact h
  · replace h := h.2 q
    refine o_aload_n (k := 0) 0 (by decide +kernel) rfl ?_
    refine f_getR (r := 374) (t := 12) (k := 45) (i := 103) (by decide +kernel) sh_345 rfl (by decide) lk_1406 (by simp [x_ty, tyX12]) (gr_12_45 sh_345) ?_
    refine o_iload_n (k := 3) 3 (by decide +kernel) rfl ?_
    refine o_iload_n (k := 3) 3 (by decide +kernel) rfl ?_
    refine o_iload_n (k := 1) 1 (by decide +kernel) rfl ?_
    refine o_icmp_ne (off := 7) 22 (by decide +kernel) (by decide) (fun q => ?_) (fun q => ?_)
    · replace h := h.1 q
      refine o_ldc (i := 216) (v := 99999) (by decide +kernel) lk_1586 ?_
      exact h
    · replace h := h.2 q
      refine o_iconst (n := 0) (v := 0) (by decide +kernel) (by decide) ?_
      refine o_goto (off := 5) 24 (by decide +kernel) (by decide) ?_
      exact h
set_option maxRecDepth 20000 in
theorem k_X12_laysPushing_24 {d : Nat} {K : x_T → Prop} {v1 : Int32} {v2 : Int32} {v3 : Int32} {s0 : Int32} {s1 : Int32} {τ : x_T} (h : vp_in s1 8 ∧ (∀ t1, t1 = x_w1 τ 374 s1.toNatClampNeg s0 → (∀ y2, y2 = v3 + 1 → (x_WV (d + 1) mX12_laysPushing K 2 [(0, .ref 345), (1, .int v1), (2, .int v2), (3, .int y2)] [] t1)))) : x_WV (d + 1) mX12_laysPushing K 24 [(0, .ref 345), (1, .int v1), (2, .int v2), (3, .int v3)] [.int s0, .int s1, .ref 374] τ := by
  obtain ⟨hi, h⟩ := h
  refine f_iast (by decide +kernel) sh_374 hi rfl ?_
  refine f_name (fun t1 et1 => ?_)
  replace h := h t1 et1
  obtain ⟨y2, ey2⟩ : ∃ y : Int32, y = v3 + 1 := ⟨_, rfl⟩
  replace h := h y2 ey2
  refine o_iinc (i := 3) (n := 1) (v := y2) (L' := [(3, .int y2), (0, .ref 345), (1, .int v1), (2, .int v2)]) 3 (by decide +kernel) rfl (by rw [ey2]; rfl) (by decide) rfl ?_
  refine o_goto (off := -26) 2 (by decide +kernel) (by decide) ?_
  refine o_sub [1, 2, 3, 0] rfl ?_
  exact h
set_option maxRecDepth 20000 in
theorem k_X12_laysPushing_33 {d : Nat} {K : x_T → Prop} {v2 : Int32} {v3 : Int32} {τ : x_T} (h : (8 ≤ v3 → K τ) ∧ (¬ 8 ≤ v3 → x_WV (d + 1) mX12_laysPushing K 42 [(0, .ref 345), (2, .int v2), (3, .int v3), (4, .int 0)] [] τ)) : x_WV (d + 1) mX12_laysPushing K 33 [(0, .ref 345), (2, .int v2), (3, .int v3)] [] τ := by
  refine o_iload_n (k := 3) 2 (by decide +kernel) rfl ?_
  refine o_bipush (n := 8) (v := 8) (by decide +kernel) (by decide) ?_
  refine o_icmp_ge (off := 118) 154 (by decide +kernel) (by decide) (fun q => ?_) (fun q => ?_)
  · replace h := h.1 q
    exact f_vret rfl (by decide +kernel) rfl h
  · replace h := h.2 q
    refine o_iconst (n := 0) (v := 0) (by decide +kernel) (by decide) ?_
    refine o_istore (k := 4) (L' := [(4, .int 0), (0, .ref 345), (2, .int v2), (3, .int v3)]) (by decide +kernel) (by decide) rfl ?_
    refine o_sub [1, 2, 3, 0] rfl ?_
    exact h
set_option maxRecDepth 20000 in
theorem k_X12_laysPushing_42 {d : Nat} {K : x_T → Prop} {v2 : Int32} {v3 : Int32} {v4 : Int32} {τ : x_T} (h : (τ.1 346 0 ≤ v4 → ∀ y1, y1 = v3 + 1 → (x_WV (d + 1) mX12_laysPushing K 33 [(0, .ref 345), (2, .int v2), (3, .int y1)] [] τ)) ∧ (¬ τ.1 346 0 ≤ v4 → x_WV (d + 1) mX12_laysPushing K 56 [(0, .ref 345), (2, .int v2), (3, .int v3), (4, .int v4), (5, .int 0)] [] τ)) : x_WV (d + 1) mX12_laysPushing K 42 [(0, .ref 345), (2, .int v2), (3, .int v3), (4, .int v4)] [] τ := by
  refine o_iload (k := 4) 3 (by decide +kernel) rfl ?_
  refine o_aload_n (k := 0) 0 (by decide +kernel) rfl ?_
  refine f_getR (r := 346) (t := 12) (k := 0) (i := 7) (by decide +kernel) sh_345 rfl (by decide) lk_1361 (by simp [x_ty, tyX12]) (gr_12_0 sh_345) ?_
  refine o_iconst (n := 0) (v := 0) (by decide +kernel) (by decide) ?_
  refine f_iald (k := 0) (by decide +kernel) sh_346 (by unfold vp_in; decide) (by decide) ?_
  refine o_icmp_ge (off := 98) 148 (by decide +kernel) (by decide) (fun q => ?_) (fun q => ?_)
  · replace h := h.1 q
    obtain ⟨y1, ey1⟩ : ∃ y : Int32, y = v3 + 1 := ⟨_, rfl⟩
    replace h := h y1 ey1
    refine o_iinc (i := 3) (n := 1) (v := y1) (L' := [(3, .int y1), (0, .ref 345), (2, .int v2), (4, .int v4)]) 2 (by decide +kernel) rfl (by rw [ey1]; rfl) (by decide) rfl ?_
    refine o_goto (off := -118) 33 (by decide +kernel) (by decide) ?_
    refine o_sub [1, 2, 0] rfl ?_
    exact h
  · replace h := h.2 q
    refine o_iconst (n := 0) (v := 0) (by decide +kernel) (by decide) ?_
    refine o_istore (k := 5) (L' := [(5, .int 0), (0, .ref 345), (2, .int v2), (3, .int v3), (4, .int v4)]) (by decide +kernel) (by decide) rfl ?_
    refine o_sub [1, 2, 3, 4, 0] rfl ?_
    exact h
set_option maxRecDepth 20000 in
theorem k_X12_laysPushing_56 {d : Nat} {K : x_T → Prop} {v2 : Int32} {v3 : Int32} {v4 : Int32} {v5 : Int32} {τ : x_T} (h : (τ.1 346 0 ≤ v5 → ∀ y1, y1 = v4 + 1 → (x_WV (d + 1) mX12_laysPushing K 42 [(0, .ref 345), (2, .int v2), (3, .int v3), (4, .int y1)] [] τ)) ∧ (¬ τ.1 346 0 ≤ v5 → vp_in ((30 + (8 * v4)) + v5) 3670 ∧ ((τ.1 346 ((30 + (8 * v4)) + v5).toNatClampNeg ≤ 0 → x_WV (d + 1) mX12_laysPushing K 136 [(0, .ref 345), (2, .int v2), (3, .int v3), (4, .int v4), (5, .int v5)] [] τ) ∧ (¬ τ.1 346 ((30 + (8 * v4)) + v5).toNatClampNeg ≤ 0 → x_CI d mX12_hardOf [.ref 345, .int v4, .int v5, .int v2] τ (fun t2 a3 => vp_in v5 8 ∧ (∀ y4, y4 = a3 + (t2.1 374 v5.toNatClampNeg) → (vp_in v4 8 ∧ ((t2.1 374 v4.toNatClampNeg ≤ y4 → vp_in v4 8 ∧ (x_WV (d + 1) mX12_laysPushing K 135 [(0, .ref 345), (2, .int v2), (3, .int v3), (4, .int v4), (5, .int v5)] [.int (t2.1 374 v4.toNatClampNeg), .int v4, .ref 374] t2)) ∧ (¬ t2.1 374 v4.toNatClampNeg ≤ y4 → x_WV (d + 1) mX12_laysPushing K 135 [(0, .ref 345), (2, .int v2), (3, .int v3), (4, .int v4), (5, .int v5)] [.int y4, .int v4, .ref 374] t2))))))))) : x_WV (d + 1) mX12_laysPushing K 56 [(0, .ref 345), (2, .int v2), (3, .int v3), (4, .int v4), (5, .int v5)] [] τ := by
  refine o_iload (k := 5) 4 (by decide +kernel) rfl ?_
  refine o_aload_n (k := 0) 0 (by decide +kernel) rfl ?_
  refine f_getR (r := 346) (t := 12) (k := 0) (i := 7) (by decide +kernel) sh_345 rfl (by decide) lk_1361 (by simp [x_ty, tyX12]) (gr_12_0 sh_345) ?_
  refine o_iconst (n := 0) (v := 0) (by decide +kernel) (by decide) ?_
  refine f_iald (k := 0) (by decide +kernel) sh_346 (by unfold vp_in; decide) (by decide) ?_
  refine o_icmp_ge (off := 78) 142 (by decide +kernel) (by decide) (fun q => ?_) (fun q => ?_)
  · replace h := h.1 q
    obtain ⟨y1, ey1⟩ : ∃ y : Int32, y = v4 + 1 := ⟨_, rfl⟩
    replace h := h y1 ey1
    refine o_iinc (i := 4) (n := 1) (v := y1) (L' := [(4, .int y1), (0, .ref 345), (2, .int v2), (3, .int v3), (5, .int v5)]) 3 (by decide +kernel) rfl (by rw [ey1]; rfl) (by decide) rfl ?_
    refine o_goto (off := -103) 42 (by decide +kernel) (by decide) ?_
    refine o_sub [1, 2, 3, 0] rfl ?_
    exact h
  · replace h := h.2 q
    refine o_aload_n (k := 0) 0 (by decide +kernel) rfl ?_
    refine f_getR (r := 346) (t := 12) (k := 0) (i := 7) (by decide +kernel) sh_345 rfl (by decide) lk_1361 (by simp [x_ty, tyX12]) (gr_12_0 sh_345) ?_
    refine o_bipush (n := 30) (v := 30) (by decide +kernel) (by decide) ?_
    refine o_bipush (n := 8) (v := 8) (by decide +kernel) (by decide) ?_
    refine o_iload (k := 4) 3 (by decide +kernel) rfl ?_
    refine o_imul (by decide +kernel) ?_
    refine o_iadd (by decide +kernel) ?_
    refine o_iload (k := 5) 4 (by decide +kernel) rfl ?_
    refine o_iadd (by decide +kernel) ?_
    obtain ⟨hi, h⟩ := h
    refine f_iald (by decide +kernel) sh_346 hi rfl ?_
    refine o_if_le (off := 53) 136 (by decide +kernel) (by decide) (fun q => ?_) (fun q => ?_)
    · replace h := h.1 q
      exact h
    · replace h := h.2 q
      refine o_aload_n (k := 0) 0 (by decide +kernel) rfl ?_
      refine o_iload (k := 4) 3 (by decide +kernel) rfl ?_
      refine o_iload (k := 5) 4 (by decide +kernel) rfl ?_
      refine o_iload_n (k := 2) 1 (by decide +kernel) rfl ?_
      refine f_callVI (μ' := mX12_hardOf) (i := 378) (vs := [.int v4, .int v5, .int v2]) (by decide +kernel) lk_1724 (vok_mX12_hardOf) sh_345 rfl rfl rfl rfl (Nat.le_of_ble_eq_true rfl) ?_
      refine x_CI.mono h (fun t2 a3 h => ?_)
      refine o_aload_n (k := 0) 0 (by decide +kernel) rfl ?_
      refine f_getR (r := 374) (t := 12) (k := 45) (i := 103) (by decide +kernel) sh_345 rfl (by decide) lk_1406 (by simp [x_ty, tyX12]) (gr_12_45 sh_345) ?_
      refine o_iload (k := 5) 4 (by decide +kernel) rfl ?_
      obtain ⟨hi, h⟩ := h
      refine f_iald (by decide +kernel) sh_374 hi rfl ?_
      refine o_iadd (by decide +kernel) ?_
      refine o_name (fun y4 ey4 => ?_)
      replace h := h y4 ey4
      refine o_istore (k := 6) (L' := [(6, .int y4), (0, .ref 345), (2, .int v2), (3, .int v3), (4, .int v4), (5, .int v5)]) (by decide +kernel) (by decide) rfl ?_
      refine o_aload_n (k := 0) 1 (by decide +kernel) rfl ?_
      refine f_getR (r := 374) (t := 12) (k := 45) (i := 103) (by decide +kernel) sh_345 rfl (by decide) lk_1406 (by simp [x_ty, tyX12]) (gr_12_45 sh_345) ?_
      refine o_iload (k := 4) 4 (by decide +kernel) rfl ?_
      refine o_iload (k := 6) 0 (by decide +kernel) rfl ?_
      refine o_aload_n (k := 0) 1 (by decide +kernel) rfl ?_
      refine f_getR (r := 374) (t := 12) (k := 45) (i := 103) (by decide +kernel) sh_345 rfl (by decide) lk_1406 (by simp [x_ty, tyX12]) (gr_12_45 sh_345) ?_
      refine o_iload (k := 4) 4 (by decide +kernel) rfl ?_
      obtain ⟨hi, h⟩ := h
      refine f_iald (by decide +kernel) sh_374 hi rfl ?_
      refine o_icmp_ge (off := 8) 128 (by decide +kernel) (by decide) (fun q => ?_) (fun q => ?_)
      · replace h := h.1 q
        refine o_aload_n (k := 0) 1 (by decide +kernel) rfl ?_
        refine f_getR (r := 374) (t := 12) (k := 45) (i := 103) (by decide +kernel) sh_345 rfl (by decide) lk_1406 (by simp [x_ty, tyX12]) (gr_12_45 sh_345) ?_
        refine o_iload (k := 4) 4 (by decide +kernel) rfl ?_
        obtain ⟨hi, h⟩ := h
        refine f_iald (by decide +kernel) sh_374 hi rfl ?_
        refine o_sub [1, 2, 3, 4, 5] rfl ?_
        exact h
      · replace h := h.2 q
        refine o_iload (k := 6) 0 (by decide +kernel) rfl ?_
        refine o_goto (off := 10) 135 (by decide +kernel) (by decide) ?_
        refine o_sub [1, 2, 3, 4, 5] rfl ?_
        exact h
set_option maxRecDepth 20000 in
theorem k_X12_laysPushing_135 {d : Nat} {K : x_T → Prop} {v2 : Int32} {v3 : Int32} {v4 : Int32} {v5 : Int32} {s0 : Int32} {s1 : Int32} {τ : x_T} (h : vp_in s1 8 ∧ (∀ t1, t1 = x_w1 τ 374 s1.toNatClampNeg s0 → (x_WV (d + 1) mX12_laysPushing K 136 [(0, .ref 345), (2, .int v2), (3, .int v3), (4, .int v4), (5, .int v5)] [] t1))) : x_WV (d + 1) mX12_laysPushing K 135 [(0, .ref 345), (2, .int v2), (3, .int v3), (4, .int v4), (5, .int v5)] [.int s0, .int s1, .ref 374] τ := by
  obtain ⟨hi, h⟩ := h
  refine f_iast (by decide +kernel) sh_374 hi rfl ?_
  refine f_name (fun t1 et1 => ?_)
  replace h := h t1 et1
  exact h
set_option maxRecDepth 20000 in
theorem k_X12_laysPushing_136 {d : Nat} {K : x_T → Prop} {v2 : Int32} {v3 : Int32} {v4 : Int32} {v5 : Int32} {τ : x_T} (h : ∀ y1, y1 = v5 + 1 → (x_WV (d + 1) mX12_laysPushing K 56 [(0, .ref 345), (2, .int v2), (3, .int v3), (4, .int v4), (5, .int y1)] [] τ)) : x_WV (d + 1) mX12_laysPushing K 136 [(0, .ref 345), (2, .int v2), (3, .int v3), (4, .int v4), (5, .int v5)] [] τ := by
  obtain ⟨y1, ey1⟩ : ∃ y : Int32, y = v5 + 1 := ⟨_, rfl⟩
  replace h := h y1 ey1
  refine o_iinc (i := 5) (n := 1) (v := y1) (L' := [(5, .int y1), (0, .ref 345), (2, .int v2), (3, .int v3), (4, .int v4)]) 4 (by decide +kernel) rfl (by rw [ey1]; rfl) (by decide) rfl ?_
  refine o_goto (off := -83) 56 (by decide +kernel) (by decide) ?_
  refine o_sub [1, 2, 3, 4, 0] rfl ?_
  exact h
set_option maxRecDepth 20000 in
theorem e_X12_least {d : Nat} {K : x_T → Int32 → Prop} {v1 : Int32} {v2 : Int32} {v3 : Int32} {τ : x_T} (h : x_CV d mX12_laysNow [.ref 345] τ (fun t1 => x_CI d mX12_isHouse [.ref 345, .int v1] t1 (fun t3 a4 => (a4 = 0 → K t3 (-3)) ∧ (¬ a4 = 0 → x_CI d mX12_in [.int v2, .int 0, .int ((t3.1 346 1) - 1)] t3 (fun t5 a6 => (a6 = 0 → K t5 (-3)) ∧ (¬ a6 = 0 → (v3 < (-2) → K t5 (-3)) ∧ (¬ v3 < (-2) → (t5.1 370 2 ≤ 0 → x_CV d mX12_laysPushing [.ref 345, .int v1, .int v2] t5 (fun t7 => ∀ y9, y9 = t7.1 370 0 → (vp_in y9 8 ∧ ((t7.1 374 y9.toNatClampNeg ≤ 90000 → (¬ v3 = (-2) → x_WI (d + 1) mX12_least K 93 [(0, .ref 345), (1, .int v1), (2, .int v2), (3, .int v3), (4, .int y9), (5, .int 0)] [] t7) ∧ (v3 = (-2) → vp_in y9 8 ∧ (K t7 (t7.1 374 y9.toNatClampNeg)))) ∧ (¬ t7.1 374 y9.toNatClampNeg ≤ 90000 → K t7 (-3)))))) ∧ (¬ t5.1 370 2 ≤ 0 → K t5 (-3))))))))) : x_CI (d + 1) mX12_least [.ref 345, .int v1, .int v2, .int v3] τ K := by
  refine x_CI_of (by decide) (Nat.le_of_ble_eq_true rfl) ?_
  show x_WI (d + 1) mX12_least K 0 [(0, .ref 345), (1, .int v1), (2, .int v2), (3, .int v3)] [] τ
  refine o_aload_n (k := 0) 0 (by decide +kernel) rfl ?_
  refine f_callVV (μ' := mX12_laysNow) (i := 396) (vs := []) (by decide +kernel) lk_1704 (vok_mX12_laysNow) sh_345 rfl rfl rfl rfl (Nat.le_of_ble_eq_true rfl) ?_
  refine x_CV.mono h (fun t1 h => ?_)
  refine o_aload_n (k := 0) 0 (by decide +kernel) rfl ?_
  refine o_iload_n (k := 1) 1 (by decide +kernel) rfl ?_
  refine f_callVI (μ' := mX12_isHouse) (i := 117) (vs := [.int v1]) (by decide +kernel) lk_1515 (vok_mX12_isHouse) sh_345 rfl rfl rfl rfl (Nat.le_of_ble_eq_true rfl) ?_
  refine x_CI.mono h (fun t3 a4 h => ?_)
  refine o_if_eq (off := 34) 43 (by decide +kernel) (by decide) (fun q => ?_) (fun q => ?_)
  · replace h := h.1 q
    refine o_bipush (n := -3) (v := (-3)) (by decide +kernel) (by decide) ?_
    exact f_iret (ty := .int) rfl rfl (by decide +kernel) rfl h
  · replace h := h.2 q
    refine o_iload_n (k := 2) 2 (by decide +kernel) rfl ?_
    refine o_iconst (n := 0) (v := 0) (by decide +kernel) (by decide) ?_
    refine o_aload_n (k := 0) 0 (by decide +kernel) rfl ?_
    refine f_getR (r := 346) (t := 12) (k := 0) (i := 7) (by decide +kernel) sh_345 rfl (by decide) lk_1361 (by simp [x_ty, tyX12]) (gr_12_0 sh_345) ?_
    refine o_iconst (n := 1) (v := 1) (by decide +kernel) (by decide) ?_
    refine f_iald (k := 1) (by decide +kernel) sh_346 (by unfold vp_in; decide) (by decide) ?_
    refine o_iconst (n := 1) (v := 1) (by decide +kernel) (by decide) ?_
    refine o_isub (by decide +kernel) ?_
    refine f_callSI (μ' := mX12_in) (i := 113) (vs := [.int v2, .int 0, .int ((t3.1 346 1) - 1)]) (by decide +kernel) lk_1508 (cok_mX12_in) rfl (stt_mX12_in) rfl rfl (Nat.le_of_ble_eq_true rfl) ?_
    refine x_CI.mono h (fun t5 a6 h => ?_)
    refine o_if_eq (off := 18) 43 (by decide +kernel) (by decide) (fun q => ?_) (fun q => ?_)
    · replace h := h.1 q
      refine o_bipush (n := -3) (v := (-3)) (by decide +kernel) (by decide) ?_
      exact f_iret (ty := .int) rfl rfl (by decide +kernel) rfl h
    · replace h := h.2 q
      refine o_iload_n (k := 3) 3 (by decide +kernel) rfl ?_
      refine o_bipush (n := -2) (v := (-2)) (by decide +kernel) (by decide) ?_
      refine o_icmp_lt (off := 12) 43 (by decide +kernel) (by decide) (fun q => ?_) (fun q => ?_)
      · replace h := h.1 q
        refine o_bipush (n := -3) (v := (-3)) (by decide +kernel) (by decide) ?_
        exact f_iret (ty := .int) rfl rfl (by decide +kernel) rfl h
      · replace h := h.2 q
        refine o_aload_n (k := 0) 0 (by decide +kernel) rfl ?_
        refine f_getR (r := 370) (t := 12) (k := 41) (i := 90) (by decide +kernel) sh_345 rfl (by decide) lk_1402 (by simp [x_ty, tyX12]) (gr_12_41 sh_345) ?_
        refine o_iconst (n := 2) (v := 2) (by decide +kernel) (by decide) ?_
        refine f_iald (k := 2) (by decide +kernel) sh_370 (by unfold vp_in; decide) (by decide) ?_
        refine o_if_le (off := 6) 46 (by decide +kernel) (by decide) (fun q => ?_) (fun q => ?_)
        · replace h := h.1 q
          refine o_aload_n (k := 0) 0 (by decide +kernel) rfl ?_
          refine o_iload_n (k := 1) 1 (by decide +kernel) rfl ?_
          refine o_iload_n (k := 2) 2 (by decide +kernel) rfl ?_
          refine f_callVV (μ' := mX12_laysPushing) (i := 463) (vs := [.int v1, .int v2]) (by decide +kernel) lk_1902 (vok_mX12_laysPushing) sh_345 rfl rfl rfl rfl (Nat.le_of_ble_eq_true rfl) ?_
          refine x_CV.mono h (fun t7 h => ?_)
          refine o_aload_n (k := 0) 0 (by decide +kernel) rfl ?_
          refine f_getR (r := 370) (t := 12) (k := 41) (i := 90) (by decide +kernel) sh_345 rfl (by decide) lk_1402 (by simp [x_ty, tyX12]) (gr_12_41 sh_345) ?_
          refine o_iconst (n := 0) (v := 0) (by decide +kernel) (by decide) ?_
          refine f_iald (k := 0) (by decide +kernel) sh_370 (by unfold vp_in; decide) (by decide) ?_
          refine o_name (fun y9 ey9 => ?_)
          replace h := h y9 ey9
          refine o_istore (k := 4) (L' := [(4, .int y9), (0, .ref 345), (1, .int v1), (2, .int v2), (3, .int v3)]) (by decide +kernel) (by decide) rfl ?_
          refine o_aload_n (k := 0) 1 (by decide +kernel) rfl ?_
          refine f_getR (r := 374) (t := 12) (k := 45) (i := 103) (by decide +kernel) sh_345 rfl (by decide) lk_1406 (by simp [x_ty, tyX12]) (gr_12_45 sh_345) ?_
          refine o_iload (k := 4) 0 (by decide +kernel) rfl ?_
          obtain ⟨hi, h⟩ := h
          refine f_iald (by decide +kernel) sh_374 hi rfl ?_
          refine o_ldcw (i := 466) (v := 90000) (by decide +kernel) lk_1906 ?_
          refine o_icmp_le (off := 6) 76 (by decide +kernel) (by decide) (fun q => ?_) (fun q => ?_)
          · replace h := h.1 q
            refine o_iload_n (k := 3) 4 (by decide +kernel) rfl ?_
            refine o_bipush (n := -2) (v := (-2)) (by decide +kernel) (by decide) ?_
            refine o_icmp_ne (off := 11) 90 (by decide +kernel) (by decide) (fun q => ?_) (fun q => ?_)
            · replace h := h.1 q
              refine o_iconst (n := 0) (v := 0) (by decide +kernel) (by decide) ?_
              refine o_istore (k := 5) (L' := [(5, .int 0), (4, .int y9), (0, .ref 345), (1, .int v1), (2, .int v2), (3, .int v3)]) (by decide +kernel) (by decide) rfl ?_
              refine o_sub [2, 3, 4, 5, 1, 0] rfl ?_
              exact h
            · replace h := h.2 q
              refine o_aload_n (k := 0) 1 (by decide +kernel) rfl ?_
              refine f_getR (r := 374) (t := 12) (k := 45) (i := 103) (by decide +kernel) sh_345 rfl (by decide) lk_1406 (by simp [x_ty, tyX12]) (gr_12_45 sh_345) ?_
              refine o_iload (k := 4) 0 (by decide +kernel) rfl ?_
              obtain ⟨hi, h⟩ := h
              refine f_iald (by decide +kernel) sh_374 hi rfl ?_
              exact f_iret (ty := .int) rfl rfl (by decide +kernel) rfl h
          · replace h := h.2 q
            refine o_bipush (n := -3) (v := (-3)) (by decide +kernel) (by decide) ?_
            exact f_iret (ty := .int) rfl rfl (by decide +kernel) rfl h
        · replace h := h.2 q
          refine o_bipush (n := -3) (v := (-3)) (by decide +kernel) (by decide) ?_
          exact f_iret (ty := .int) rfl rfl (by decide +kernel) rfl h
set_option maxRecDepth 20000 in
theorem k_X12_least_93 {d : Nat} {K : x_T → Int32 → Prop} {v1 : Int32} {v2 : Int32} {v3 : Int32} {v4 : Int32} {v5 : Int32} {τ : x_T} (h : (v4 = v1 → (¬ v3 = (-1) → K τ (-3)) ∧ (v3 = (-1) → K τ v5)) ∧ (¬ v4 = v1 → x_WI (d + 1) mX12_least K 102 [(0, .ref 345), (1, .int v1), (2, .int v2), (3, .int v3), (4, .int v4), (5, .int v5), (6, .int 0)] [] τ)) : x_WI (d + 1) mX12_least K 93 [(0, .ref 345), (1, .int v1), (2, .int v2), (3, .int v3), (4, .int v4), (5, .int v5)] [] τ := by
  refine o_iload (k := 4) 4 (by decide +kernel) rfl ?_
  refine o_iload_n (k := 1) 1 (by decide +kernel) rfl ?_
  refine o_icmp_eq (off := 77) 173 (by decide +kernel) (by decide) (fun q => ?_) (fun q => ?_)
  · replace h := h.1 q
    refine o_iload_n (k := 3) 3 (by decide +kernel) rfl ?_
    refine o_iconst (n := -1) (v := (-1)) (by decide +kernel) (by decide) ?_
    refine o_icmp_ne (off := 8) 183 (by decide +kernel) (by decide) (fun q => ?_) (fun q => ?_)
    · replace h := h.1 q
      refine o_bipush (n := -3) (v := (-3)) (by decide +kernel) (by decide) ?_
      exact f_iret (ty := .int) rfl rfl (by decide +kernel) rfl h
    · replace h := h.2 q
      refine o_iload (k := 5) 5 (by decide +kernel) rfl ?_
      refine o_goto (off := 5) 185 (by decide +kernel) (by decide) ?_
      exact f_iret (ty := .int) rfl rfl (by decide +kernel) rfl h
  · replace h := h.2 q
    refine o_iconst (n := 0) (v := 0) (by decide +kernel) (by decide) ?_
    refine o_istore (k := 6) (L' := [(6, .int 0), (0, .ref 345), (1, .int v1), (2, .int v2), (3, .int v3), (4, .int v4), (5, .int v5)]) (by decide +kernel) (by decide) rfl ?_
    refine o_sub [1, 2, 3, 4, 5, 6, 0] rfl ?_
    exact h
set_option maxRecDepth 20000 in
theorem k_X12_least_102 {d : Nat} {K : x_T → Int32 → Prop} {v1 : Int32} {v2 : Int32} {v3 : Int32} {v4 : Int32} {v5 : Int32} {v6 : Int32} {τ : x_T} (h : vp_in ((30 + (8 * v4)) + v6) 3670 ∧ ((τ.1 346 ((30 + (8 * v4)) + v6).toNatClampNeg = 0 → x_WI (d + 1) mX12_least K 148 [(0, .ref 345), (1, .int v1), (2, .int v2), (3, .int v3), (4, .int v4), (5, .int v5), (6, .int v6)] [] τ) ∧ (¬ τ.1 346 ((30 + (8 * v4)) + v6).toNatClampNeg = 0 → x_CI d mX12_hardOf [.ref 345, .int v4, .int v6, .int v2] τ (fun t1 a2 => vp_in v6 8 ∧ (vp_in v4 8 ∧ ((a2 + (t1.1 374 v6.toNatClampNeg) = t1.1 374 v4.toNatClampNeg → (¬ v5 = v3 → ∀ y3, y3 = v5 + 1 → (x_WI (d + 1) mX12_least K 93 [(0, .ref 345), (1, .int v1), (2, .int v2), (3, .int v3), (4, .int v6), (5, .int y3)] [] t1)) ∧ (v5 = v3 → K t1 v6)) ∧ (¬ a2 + (t1.1 374 v6.toNatClampNeg) = t1.1 374 v4.toNatClampNeg → x_WI (d + 1) mX12_least K 148 [(0, .ref 345), (1, .int v1), (2, .int v2), (3, .int v3), (4, .int v4), (5, .int v5), (6, .int v6)] [] t1))))))) : x_WI (d + 1) mX12_least K 102 [(0, .ref 345), (1, .int v1), (2, .int v2), (3, .int v3), (4, .int v4), (5, .int v5), (6, .int v6)] [] τ := by
  refine o_aload_n (k := 0) 0 (by decide +kernel) rfl ?_
  refine f_getR (r := 346) (t := 12) (k := 0) (i := 7) (by decide +kernel) sh_345 rfl (by decide) lk_1361 (by simp [x_ty, tyX12]) (gr_12_0 sh_345) ?_
  refine o_bipush (n := 30) (v := 30) (by decide +kernel) (by decide) ?_
  refine o_bipush (n := 8) (v := 8) (by decide +kernel) (by decide) ?_
  refine o_iload (k := 4) 4 (by decide +kernel) rfl ?_
  refine o_imul (by decide +kernel) ?_
  refine o_iadd (by decide +kernel) ?_
  refine o_iload (k := 6) 6 (by decide +kernel) rfl ?_
  refine o_iadd (by decide +kernel) ?_
  obtain ⟨hi, h⟩ := h
  refine f_iald (by decide +kernel) sh_346 hi rfl ?_
  refine o_if_eq (off := 30) 148 (by decide +kernel) (by decide) (fun q => ?_) (fun q => ?_)
  · replace h := h.1 q
    exact h
  · replace h := h.2 q
    refine o_aload_n (k := 0) 0 (by decide +kernel) rfl ?_
    refine o_iload (k := 4) 4 (by decide +kernel) rfl ?_
    refine o_iload (k := 6) 6 (by decide +kernel) rfl ?_
    refine o_iload_n (k := 2) 2 (by decide +kernel) rfl ?_
    refine f_callVI (μ' := mX12_hardOf) (i := 378) (vs := [.int v4, .int v6, .int v2]) (by decide +kernel) lk_1724 (vok_mX12_hardOf) sh_345 rfl rfl rfl rfl (Nat.le_of_ble_eq_true rfl) ?_
    refine x_CI.mono h (fun t1 a2 h => ?_)
    refine o_aload_n (k := 0) 0 (by decide +kernel) rfl ?_
    refine f_getR (r := 374) (t := 12) (k := 45) (i := 103) (by decide +kernel) sh_345 rfl (by decide) lk_1406 (by simp [x_ty, tyX12]) (gr_12_45 sh_345) ?_
    refine o_iload (k := 6) 6 (by decide +kernel) rfl ?_
    obtain ⟨hi, h⟩ := h
    refine f_iald (by decide +kernel) sh_374 hi rfl ?_
    refine o_iadd (by decide +kernel) ?_
    refine o_aload_n (k := 0) 0 (by decide +kernel) rfl ?_
    refine f_getR (r := 374) (t := 12) (k := 45) (i := 103) (by decide +kernel) sh_345 rfl (by decide) lk_1406 (by simp [x_ty, tyX12]) (gr_12_45 sh_345) ?_
    refine o_iload (k := 4) 4 (by decide +kernel) rfl ?_
    obtain ⟨hi, h⟩ := h
    refine f_iald (by decide +kernel) sh_374 hi rfl ?_
    refine o_icmp_eq (off := 9) 154 (by decide +kernel) (by decide) (fun q => ?_) (fun q => ?_)
    · replace h := h.1 q
      refine o_iload (k := 5) 5 (by decide +kernel) rfl ?_
      refine o_iload_n (k := 3) 3 (by decide +kernel) rfl ?_
      refine o_icmp_ne (off := 6) 163 (by decide +kernel) (by decide) (fun q => ?_) (fun q => ?_)
      · replace h := h.1 q
        refine o_iload (k := 6) 6 (by decide +kernel) rfl ?_
        refine o_istore (k := 4) (L' := [(4, .int v6), (0, .ref 345), (1, .int v1), (2, .int v2), (3, .int v3), (5, .int v5), (6, .int v6)]) (by decide +kernel) (by decide) rfl ?_
        obtain ⟨y3, ey3⟩ : ∃ y : Int32, y = v5 + 1 := ⟨_, rfl⟩
        replace h := h y3 ey3
        refine o_iinc (i := 5) (n := 1) (v := y3) (L' := [(5, .int y3), (4, .int v6), (0, .ref 345), (1, .int v1), (2, .int v2), (3, .int v3), (6, .int v6)]) 5 (by decide +kernel) rfl (by rw [ey3]; rfl) (by decide) rfl ?_
        refine o_goto (off := -77) 93 (by decide +kernel) (by decide) ?_
        refine o_sub [2, 3, 4, 5, 1, 0] rfl ?_
        exact h
      · replace h := h.2 q
        refine o_iload (k := 6) 6 (by decide +kernel) rfl ?_
        exact f_iret (ty := .int) rfl rfl (by decide +kernel) rfl h
    · replace h := h.2 q
      exact h
set_option maxRecDepth 20000 in
theorem k_X12_least_148 {d : Nat} {K : x_T → Int32 → Prop} {v1 : Int32} {v2 : Int32} {v3 : Int32} {v4 : Int32} {v5 : Int32} {v6 : Int32} {τ : x_T} (h : ∀ y1, y1 = v6 + 1 → (x_WI (d + 1) mX12_least K 102 [(0, .ref 345), (1, .int v1), (2, .int v2), (3, .int v3), (4, .int v4), (5, .int v5), (6, .int y1)] [] τ)) : x_WI (d + 1) mX12_least K 148 [(0, .ref 345), (1, .int v1), (2, .int v2), (3, .int v3), (4, .int v4), (5, .int v5), (6, .int v6)] [] τ := by
  obtain ⟨y1, ey1⟩ : ∃ y : Int32, y = v6 + 1 := ⟨_, rfl⟩
  replace h := h y1 ey1
  refine o_iinc (i := 6) (n := 1) (v := y1) (L' := [(6, .int y1), (0, .ref 345), (1, .int v1), (2, .int v2), (3, .int v3), (4, .int v4), (5, .int v5)]) 6 (by decide +kernel) rfl (by rw [ey1]; rfl) (by decide) rfl ?_
  refine o_goto (off := -49) 102 (by decide +kernel) (by decide) ?_
  refine o_sub [1, 2, 3, 4, 5, 6, 0] rfl ?_
  exact h
set_option maxRecDepth 20000 in
theorem e_X12_doesBeat {d : Nat} {K : x_T → Int32 → Prop} {v1 : Int32} {v2 : Int32} {τ : x_T} (h : x_WI d mX12_doesBeat K 5 [(0, .ref 345), (1, .int v1), (2, .int v2), (3, .int 0), (4, .int 0)] [] τ) : x_CI d mX12_doesBeat [.ref 345, .int v1, .int v2] τ K := by
  refine x_CI_of (by decide) (Nat.le_of_ble_eq_true rfl) ?_
  show x_WI d mX12_doesBeat K 0 [(0, .ref 345), (1, .int v1), (2, .int v2)] [] τ
  refine o_iconst (n := 0) (v := 0) (by decide +kernel) (by decide) ?_
  refine o_istore_n (k := 3) (L' := [(3, .int 0), (0, .ref 345), (1, .int v1), (2, .int v2)]) (by decide +kernel) (by decide) rfl ?_
  refine o_iconst (n := 0) (v := 0) (by decide +kernel) (by decide) ?_
  refine o_istore (k := 4) (L' := [(4, .int 0), (3, .int 0), (0, .ref 345), (1, .int v1), (2, .int v2)]) (by decide +kernel) (by decide) rfl ?_
  refine o_sub [2, 3, 4, 1, 0] rfl ?_
  exact h
set_option maxRecDepth 20000 in
theorem k_X12_doesBeat_5 {d : Nat} {K : x_T → Int32 → Prop} {v1 : Int32} {v2 : Int32} {v3 : Int32} {v4 : Int32} {τ : x_T} (h : (τ.1 346 0 ≤ v4 → (v3 ≤ 0 → K τ 0) ∧ (¬ v3 ≤ 0 → K τ 1)) ∧ (¬ τ.1 346 0 ≤ v4 → vp_in ((8 * v4) + v2) 64 ∧ (vp_in ((8 * v4) + v1) 64 ∧ (∀ y1, y1 = (τ.1 369 ((8 * v4) + v2).toNatClampNeg) - (τ.1 369 ((8 * v4) + v1).toNatClampNeg) → ((0 < y1 → x_WI d mX12_doesBeat K 59 [(0, .ref 345), (1, .int v1), (2, .int v2), (4, .int v4)] [.int v3] τ) ∧ (¬ 0 < y1 → (¬ y1 = 0 → x_WI d mX12_doesBeat K 63 [(0, .ref 345), (1, .int v1), (2, .int v2), (4, .int v4)] [.int v3] τ) ∧ (y1 = 0 → (v2 ≤ v1 → x_WI d mX12_doesBeat K 63 [(0, .ref 345), (1, .int v1), (2, .int v2), (4, .int v4)] [.int v3] τ) ∧ (¬ v2 ≤ v1 → x_WI d mX12_doesBeat K 59 [(0, .ref 345), (1, .int v1), (2, .int v2), (4, .int v4)] [.int v3] τ)))))))) : x_WI d mX12_doesBeat K 5 [(0, .ref 345), (1, .int v1), (2, .int v2), (3, .int v3), (4, .int v4)] [] τ := by
  refine o_iload (k := 4) 4 (by decide +kernel) rfl ?_
  refine o_aload_n (k := 0) 0 (by decide +kernel) rfl ?_
  refine f_getR (r := 346) (t := 12) (k := 0) (i := 7) (by decide +kernel) sh_345 rfl (by decide) lk_1361 (by simp [x_ty, tyX12]) (gr_12_0 sh_345) ?_
  refine o_iconst (n := 0) (v := 0) (by decide +kernel) (by decide) ?_
  refine f_iald (k := 0) (by decide +kernel) sh_346 (by unfold vp_in; decide) (by decide) ?_
  refine o_icmp_ge (off := 59) 72 (by decide +kernel) (by decide) (fun q => ?_) (fun q => ?_)
  · replace h := h.1 q
    refine o_iload_n (k := 3) 3 (by decide +kernel) rfl ?_
    refine o_if_le (off := 7) 80 (by decide +kernel) (by decide) (fun q => ?_) (fun q => ?_)
    · replace h := h.1 q
      refine o_iconst (n := 0) (v := 0) (by decide +kernel) (by decide) ?_
      exact f_iret (ty := .boolean) rfl (by decide) (by decide +kernel) rfl h
    · replace h := h.2 q
      refine o_iconst (n := 1) (v := 1) (by decide +kernel) (by decide) ?_
      refine o_goto (off := 4) 81 (by decide +kernel) (by decide) ?_
      exact f_iret (ty := .boolean) rfl (by decide) (by decide +kernel) rfl h
  · replace h := h.2 q
    refine o_aload_n (k := 0) 0 (by decide +kernel) rfl ?_
    refine f_getR (r := 369) (t := 12) (k := 40) (i := 87) (by decide +kernel) sh_345 rfl (by decide) lk_1401 (by simp [x_ty, tyX12]) (gr_12_40 sh_345) ?_
    refine o_bipush (n := 8) (v := 8) (by decide +kernel) (by decide) ?_
    refine o_iload (k := 4) 4 (by decide +kernel) rfl ?_
    refine o_imul (by decide +kernel) ?_
    refine o_iload_n (k := 2) 2 (by decide +kernel) rfl ?_
    refine o_iadd (by decide +kernel) ?_
    obtain ⟨hi, h⟩ := h
    refine f_iald (by decide +kernel) sh_369 hi rfl ?_
    refine o_aload_n (k := 0) 0 (by decide +kernel) rfl ?_
    refine f_getR (r := 369) (t := 12) (k := 40) (i := 87) (by decide +kernel) sh_345 rfl (by decide) lk_1401 (by simp [x_ty, tyX12]) (gr_12_40 sh_345) ?_
    refine o_bipush (n := 8) (v := 8) (by decide +kernel) (by decide) ?_
    refine o_iload (k := 4) 4 (by decide +kernel) rfl ?_
    refine o_imul (by decide +kernel) ?_
    refine o_iload_n (k := 1) 1 (by decide +kernel) rfl ?_
    refine o_iadd (by decide +kernel) ?_
    obtain ⟨hi, h⟩ := h
    refine f_iald (by decide +kernel) sh_369 hi rfl ?_
    refine o_isub (by decide +kernel) ?_
    refine o_name (fun y1 ey1 => ?_)
    replace h := h y1 ey1
    refine o_istore (k := 5) (L' := [(5, .int y1), (0, .ref 345), (1, .int v1), (2, .int v2), (3, .int v3), (4, .int v4)]) (by decide +kernel) (by decide) rfl ?_
    refine o_iload_n (k := 3) 4 (by decide +kernel) rfl ?_
    refine o_iload (k := 5) 0 (by decide +kernel) rfl ?_
    refine o_if_gt (off := 13) 59 (by decide +kernel) (by decide) (fun q => ?_) (fun q => ?_)
    · replace h := h.1 q
      refine o_sub [1, 2, 3, 5] rfl ?_
      exact h
    · replace h := h.2 q
      refine o_iload (k := 5) 0 (by decide +kernel) rfl ?_
      refine o_if_ne (off := 12) 63 (by decide +kernel) (by decide) (fun q => ?_) (fun q => ?_)
      · replace h := h.1 q
        refine o_sub [1, 2, 3, 5] rfl ?_
        exact h
      · replace h := h.2 q
        refine o_iload_n (k := 1) 2 (by decide +kernel) rfl ?_
        refine o_iload_n (k := 2) 3 (by decide +kernel) rfl ?_
        refine o_icmp_ge (off := 7) 63 (by decide +kernel) (by decide) (fun q => ?_) (fun q => ?_)
        · replace h := h.1 q
          refine o_sub [1, 2, 3, 5] rfl ?_
          exact h
        · replace h := h.2 q
          refine o_sub [1, 2, 3, 5] rfl ?_
          exact h
set_option maxRecDepth 20000 in
theorem k_X12_doesBeat_59 {d : Nat} {K : x_T → Int32 → Prop} {v1 : Int32} {v2 : Int32} {v4 : Int32} {s0 : Int32} {τ : x_T} (h : x_WI d mX12_doesBeat K 64 [(0, .ref 345), (1, .int v1), (2, .int v2), (4, .int v4)] [.int 1, .int s0] τ) : x_WI d mX12_doesBeat K 59 [(0, .ref 345), (1, .int v1), (2, .int v2), (4, .int v4)] [.int s0] τ := by
  refine o_iconst (n := 1) (v := 1) (by decide +kernel) (by decide) ?_
  refine o_goto (off := 4) 64 (by decide +kernel) (by decide) ?_
  exact h
set_option maxRecDepth 20000 in
theorem k_X12_doesBeat_63 {d : Nat} {K : x_T → Int32 → Prop} {v1 : Int32} {v2 : Int32} {v4 : Int32} {s0 : Int32} {τ : x_T} (h : x_WI d mX12_doesBeat K 64 [(0, .ref 345), (1, .int v1), (2, .int v2), (4, .int v4)] [.int (-1), .int s0] τ) : x_WI d mX12_doesBeat K 63 [(0, .ref 345), (1, .int v1), (2, .int v2), (4, .int v4)] [.int s0] τ := by
  refine o_iconst (n := -1) (v := (-1)) (by decide +kernel) (by decide) ?_
  exact h
set_option maxRecDepth 20000 in
theorem k_X12_doesBeat_64 {d : Nat} {K : x_T → Int32 → Prop} {v1 : Int32} {v2 : Int32} {v4 : Int32} {s0 : Int32} {s1 : Int32} {τ : x_T} (h : ∀ y1, y1 = s1 + s0 → (∀ y2, y2 = v4 + 1 → (x_WI d mX12_doesBeat K 5 [(0, .ref 345), (1, .int v1), (2, .int v2), (3, .int y1), (4, .int y2)] [] τ))) : x_WI d mX12_doesBeat K 64 [(0, .ref 345), (1, .int v1), (2, .int v2), (4, .int v4)] [.int s0, .int s1] τ := by
  refine o_iadd (by decide +kernel) ?_
  refine o_name (fun y1 ey1 => ?_)
  replace h := h y1 ey1
  refine o_istore_n (k := 3) (L' := [(3, .int y1), (0, .ref 345), (1, .int v1), (2, .int v2), (4, .int v4)]) (by decide +kernel) (by decide) rfl ?_
  obtain ⟨y2, ey2⟩ : ∃ y : Int32, y = v4 + 1 := ⟨_, rfl⟩
  replace h := h y2 ey2
  refine o_iinc (i := 4) (n := 1) (v := y2) (L' := [(4, .int y2), (3, .int y1), (0, .ref 345), (1, .int v1), (2, .int v2)]) 4 (by decide +kernel) rfl (by rw [ey2]; rfl) (by decide) rfl ?_
  refine o_goto (off := -64) 5 (by decide +kernel) (by decide) ?_
  refine o_sub [2, 3, 4, 1, 0] rfl ?_
  exact h
set_option maxRecDepth 20000 in
theorem e_X12_winner {d : Nat} {K : x_T → Int32 → Prop}  {τ : x_T} (h : x_CV d mX12_laysNow [.ref 345] τ (fun t1 => x_WI (d + 1) mX12_winner K 6 [(0, .ref 345), (1, .int 0)] [] t1)) : x_CI (d + 1) mX12_winner [.ref 345] τ K := by
  refine x_CI_of (by decide) (Nat.le_of_ble_eq_true rfl) ?_
  show x_WI (d + 1) mX12_winner K 0 [(0, .ref 345)] [] τ
  refine o_aload_n (k := 0) 0 (by decide +kernel) rfl ?_
  refine f_callVV (μ' := mX12_laysNow) (i := 396) (vs := []) (by decide +kernel) lk_1704 (vok_mX12_laysNow) sh_345 rfl rfl rfl rfl (Nat.le_of_ble_eq_true rfl) ?_
  refine x_CV.mono h (fun t1 h => ?_)
  refine o_iconst (n := 0) (v := 0) (by decide +kernel) (by decide) ?_
  refine o_istore_n (k := 1) (L' := [(1, .int 0), (0, .ref 345)]) (by decide +kernel) (by decide) rfl ?_
  refine o_sub [1, 0] rfl ?_
  exact h
set_option maxRecDepth 20000 in
theorem k_X12_winner_6 {d : Nat} {K : x_T → Int32 → Prop} {v1 : Int32} {τ : x_T} (h : (τ.1 346 0 ≤ v1 → K τ (-1)) ∧ (¬ τ.1 346 0 ≤ v1 → x_WI (d + 1) mX12_winner K 20 [(0, .ref 345), (1, .int v1), (2, .int 1), (3, .int 0)] [] τ)) : x_WI (d + 1) mX12_winner K 6 [(0, .ref 345), (1, .int v1)] [] τ := by
  refine o_iload_n (k := 1) 1 (by decide +kernel) rfl ?_
  refine o_aload_n (k := 0) 0 (by decide +kernel) rfl ?_
  refine f_getR (r := 346) (t := 12) (k := 0) (i := 7) (by decide +kernel) sh_345 rfl (by decide) lk_1361 (by simp [x_ty, tyX12]) (gr_12_0 sh_345) ?_
  refine o_iconst (n := 0) (v := 0) (by decide +kernel) (by decide) ?_
  refine f_iald (k := 0) (by decide +kernel) sh_346 (by unfold vp_in; decide) (by decide) ?_
  refine o_icmp_ge (off := 59) 72 (by decide +kernel) (by decide) (fun q => ?_) (fun q => ?_)
  · replace h := h.1 q
    refine o_iconst (n := -1) (v := (-1)) (by decide +kernel) (by decide) ?_
    exact f_iret (ty := .int) rfl rfl (by decide +kernel) rfl h
  · replace h := h.2 q
    refine o_iconst (n := 1) (v := 1) (by decide +kernel) (by decide) ?_
    refine o_istore_n (k := 2) (L' := [(2, .int 1), (0, .ref 345), (1, .int v1)]) (by decide +kernel) (by decide) rfl ?_
    refine o_iconst (n := 0) (v := 0) (by decide +kernel) (by decide) ?_
    refine o_istore_n (k := 3) (L' := [(3, .int 0), (2, .int 1), (0, .ref 345), (1, .int v1)]) (by decide +kernel) (by decide) rfl ?_
    refine o_sub [2, 3, 1, 0] rfl ?_
    exact h
set_option maxRecDepth 20000 in
theorem k_X12_winner_20 {d : Nat} {K : x_T → Int32 → Prop} {v1 : Int32} {v2 : Int32} {v3 : Int32} {τ : x_T} (h : (τ.1 346 0 ≤ v3 → (v2 = 0 → ∀ y1, y1 = v1 + 1 → (x_WI (d + 1) mX12_winner K 6 [(0, .ref 345), (1, .int y1)] [] τ)) ∧ (¬ v2 = 0 → K τ v1)) ∧ (¬ τ.1 346 0 ≤ v3 → (v2 = 0 → x_WI (d + 1) mX12_winner K 52 [(0, .ref 345), (1, .int v1), (3, .int v3)] [] τ) ∧ (¬ v2 = 0 → (v1 = v3 → x_WI (d + 1) mX12_winner K 48 [(0, .ref 345), (1, .int v1), (3, .int v3)] [] τ) ∧ (¬ v1 = v3 → x_CI d mX12_doesBeat [.ref 345, .int v1, .int v3] τ (fun t2 a3 => (a3 = 0 → x_WI (d + 1) mX12_winner K 52 [(0, .ref 345), (1, .int v1), (3, .int v3)] [] t2) ∧ (¬ a3 = 0 → x_WI (d + 1) mX12_winner K 48 [(0, .ref 345), (1, .int v1), (3, .int v3)] [] t2)))))) : x_WI (d + 1) mX12_winner K 20 [(0, .ref 345), (1, .int v1), (2, .int v2), (3, .int v3)] [] τ := by
  refine o_iload_n (k := 3) 3 (by decide +kernel) rfl ?_
  refine o_aload_n (k := 0) 0 (by decide +kernel) rfl ?_
  refine f_getR (r := 346) (t := 12) (k := 0) (i := 7) (by decide +kernel) sh_345 rfl (by decide) lk_1361 (by simp [x_ty, tyX12]) (gr_12_0 sh_345) ?_
  refine o_iconst (n := 0) (v := 0) (by decide +kernel) (by decide) ?_
  refine f_iald (k := 0) (by decide +kernel) sh_346 (by unfold vp_in; decide) (by decide) ?_
  refine o_icmp_ge (off := 33) 60 (by decide +kernel) (by decide) (fun q => ?_) (fun q => ?_)
  · replace h := h.1 q
    refine o_iload_n (k := 2) 2 (by decide +kernel) rfl ?_
    refine o_if_eq (off := 5) 66 (by decide +kernel) (by decide) (fun q => ?_) (fun q => ?_)
    · replace h := h.1 q
      obtain ⟨y1, ey1⟩ : ∃ y : Int32, y = v1 + 1 := ⟨_, rfl⟩
      replace h := h y1 ey1
      refine o_iinc (i := 1) (n := 1) (v := y1) (L' := [(1, .int y1), (0, .ref 345), (2, .int v2), (3, .int v3)]) 1 (by decide +kernel) rfl (by rw [ey1]; rfl) (by decide) rfl ?_
      refine o_goto (off := -63) 6 (by decide +kernel) (by decide) ?_
      refine o_sub [1, 0] rfl ?_
      exact h
    · replace h := h.2 q
      refine o_iload_n (k := 1) 1 (by decide +kernel) rfl ?_
      exact f_iret (ty := .int) rfl rfl (by decide +kernel) rfl h
  · replace h := h.2 q
    refine o_iload_n (k := 2) 2 (by decide +kernel) rfl ?_
    refine o_if_eq (off := 21) 52 (by decide +kernel) (by decide) (fun q => ?_) (fun q => ?_)
    · replace h := h.1 q
      refine o_sub [0, 1, 3] rfl ?_
      exact h
    · replace h := h.2 q
      refine o_iload_n (k := 1) 1 (by decide +kernel) rfl ?_
      refine o_iload_n (k := 3) 3 (by decide +kernel) rfl ?_
      refine o_icmp_eq (off := 12) 48 (by decide +kernel) (by decide) (fun q => ?_) (fun q => ?_)
      · replace h := h.1 q
        refine o_sub [0, 1, 3] rfl ?_
        exact h
      · replace h := h.2 q
        refine o_aload_n (k := 0) 0 (by decide +kernel) rfl ?_
        refine o_iload_n (k := 1) 1 (by decide +kernel) rfl ?_
        refine o_iload_n (k := 3) 3 (by decide +kernel) rfl ?_
        refine f_callVI (μ' := mX12_doesBeat) (i := 467) (vs := [.int v1, .int v3]) (by decide +kernel) lk_1911 (vok_mX12_doesBeat) sh_345 rfl rfl rfl rfl (Nat.le_of_ble_eq_true rfl) ?_
        refine x_CI.mono h (fun t2 a3 h => ?_)
        refine o_if_eq (off := 7) 52 (by decide +kernel) (by decide) (fun q => ?_) (fun q => ?_)
        · replace h := h.1 q
          refine o_sub [0, 1, 3] rfl ?_
          exact h
        · replace h := h.2 q
          refine o_sub [0, 1, 3] rfl ?_
          exact h
set_option maxRecDepth 20000 in
theorem k_X12_winner_48 {d : Nat} {K : x_T → Int32 → Prop} {v1 : Int32} {v3 : Int32} {τ : x_T} (h : x_WI (d + 1) mX12_winner K 53 [(0, .ref 345), (1, .int v1), (3, .int v3)] [.int 1] τ) : x_WI (d + 1) mX12_winner K 48 [(0, .ref 345), (1, .int v1), (3, .int v3)] [] τ := by
  refine o_iconst (n := 1) (v := 1) (by decide +kernel) (by decide) ?_
  refine o_goto (off := 4) 53 (by decide +kernel) (by decide) ?_
  exact h
set_option maxRecDepth 20000 in
theorem k_X12_winner_52 {d : Nat} {K : x_T → Int32 → Prop} {v1 : Int32} {v3 : Int32} {τ : x_T} (h : x_WI (d + 1) mX12_winner K 53 [(0, .ref 345), (1, .int v1), (3, .int v3)] [.int 0] τ) : x_WI (d + 1) mX12_winner K 52 [(0, .ref 345), (1, .int v1), (3, .int v3)] [] τ := by
  refine o_iconst (n := 0) (v := 0) (by decide +kernel) (by decide) ?_
  exact h
set_option maxRecDepth 20000 in
theorem k_X12_winner_53 {d : Nat} {K : x_T → Int32 → Prop} {v1 : Int32} {v3 : Int32} {s0 : Int32} {τ : x_T} (h : ∀ y1, y1 = v3 + 1 → (x_WI (d + 1) mX12_winner K 20 [(0, .ref 345), (1, .int v1), (2, .int s0), (3, .int y1)] [] τ)) : x_WI (d + 1) mX12_winner K 53 [(0, .ref 345), (1, .int v1), (3, .int v3)] [.int s0] τ := by
  refine o_istore_n (k := 2) (L' := [(2, .int s0), (0, .ref 345), (1, .int v1), (3, .int v3)]) (by decide +kernel) (by decide) rfl ?_
  obtain ⟨y1, ey1⟩ : ∃ y : Int32, y = v3 + 1 := ⟨_, rfl⟩
  replace h := h y1 ey1
  refine o_iinc (i := 3) (n := 1) (v := y1) (L' := [(3, .int y1), (2, .int s0), (0, .ref 345), (1, .int v1)]) 3 (by decide +kernel) rfl (by rw [ey1]; rfl) (by decide) rfl ?_
  refine o_goto (off := -37) 20 (by decide +kernel) (by decide) ?_
  refine o_sub [2, 3, 1, 0] rfl ?_
  exact h
set_option maxRecDepth 20000 in
theorem e_X12_agenda {d : Nat} {K : x_T → Int32 → Prop} {v1 : Int32} {v2 : Int32} {τ : x_T} (h : x_CV d mX12_laysNow [.ref 345] τ (fun t1 => x_CI d mX12_in [.int v2, .int 1, .int 8] t1 (fun t3 a4 => (a4 = 0 → K t3 (-1)) ∧ (¬ a4 = 0 → (0 ≤ v1 → x_WI (d + 1) mX12_agenda K 25 [(0, .ref 345), (1, .int v1), (2, .int v2), (3, .int 1), (4, .int 1)] [] t3) ∧ (¬ 0 ≤ v1 → K t3 (-1)))))) : x_CI (d + 1) mX12_agenda [.ref 345, .int v1, .int v2] τ K := by
  refine x_CI_of (by decide) (Nat.le_of_ble_eq_true rfl) ?_
  show x_WI (d + 1) mX12_agenda K 0 [(0, .ref 345), (1, .int v1), (2, .int v2)] [] τ
  refine o_aload_n (k := 0) 0 (by decide +kernel) rfl ?_
  refine f_callVV (μ' := mX12_laysNow) (i := 396) (vs := []) (by decide +kernel) lk_1704 (vok_mX12_laysNow) sh_345 rfl rfl rfl rfl (Nat.le_of_ble_eq_true rfl) ?_
  refine x_CV.mono h (fun t1 h => ?_)
  refine o_iload_n (k := 2) 2 (by decide +kernel) rfl ?_
  refine o_iconst (n := 1) (v := 1) (by decide +kernel) (by decide) ?_
  refine o_bipush (n := 8) (v := 8) (by decide +kernel) (by decide) ?_
  refine f_callSI (μ' := mX12_in) (i := 113) (vs := [.int v2, .int 1, .int 8]) (by decide +kernel) lk_1508 (cok_mX12_in) rfl (stt_mX12_in) rfl rfl (Nat.le_of_ble_eq_true rfl) ?_
  refine x_CI.mono h (fun t3 a4 h => ?_)
  refine o_if_eq (off := 7) 18 (by decide +kernel) (by decide) (fun q => ?_) (fun q => ?_)
  · replace h := h.1 q
    refine o_iconst (n := -1) (v := (-1)) (by decide +kernel) (by decide) ?_
    exact f_iret (ty := .int) rfl rfl (by decide +kernel) rfl h
  · replace h := h.2 q
    refine o_iload_n (k := 1) 1 (by decide +kernel) rfl ?_
    refine o_if_ge (off := 5) 20 (by decide +kernel) (by decide) (fun q => ?_) (fun q => ?_)
    · replace h := h.1 q
      refine o_iconst (n := 1) (v := 1) (by decide +kernel) (by decide) ?_
      refine o_istore_n (k := 3) (L' := [(3, .int 1), (0, .ref 345), (1, .int v1), (2, .int v2)]) (by decide +kernel) (by decide) rfl ?_
      refine o_iconst (n := 1) (v := 1) (by decide +kernel) (by decide) ?_
      refine o_istore (k := 4) (L' := [(4, .int 1), (3, .int 1), (0, .ref 345), (1, .int v1), (2, .int v2)]) (by decide +kernel) (by decide) rfl ?_
      refine o_sub [2, 3, 4, 1, 0] rfl ?_
      exact h
    · replace h := h.2 q
      refine o_iconst (n := -1) (v := (-1)) (by decide +kernel) (by decide) ?_
      exact f_iret (ty := .int) rfl rfl (by decide +kernel) rfl h
set_option maxRecDepth 20000 in
theorem k_X12_agenda_25 {d : Nat} {K : x_T → Int32 → Prop} {v1 : Int32} {v2 : Int32} {v3 : Int32} {v4 : Int32} {τ : x_T} (h : (v2 ≤ v4 → ¬ v3 = 0 ∧ ((v1 / v3 ≤ 9 → x_WI (d + 1) mX12_agenda K 61 [(0, .ref 345), (1, .int v1), (2, .int v2), (3, .int v3), (4, .int 0), (5, .int (-1)), (6, .int 0)] [] τ) ∧ (¬ v1 / v3 ≤ 9 → K τ (-1)))) ∧ (¬ v2 ≤ v4 → ∀ y1, y1 = v3 * 10 → (∀ y2, y2 = v4 + 1 → (x_WI (d + 1) mX12_agenda K 25 [(0, .ref 345), (1, .int v1), (2, .int v2), (3, .int y1), (4, .int y2)] [] τ)))) : x_WI (d + 1) mX12_agenda K 25 [(0, .ref 345), (1, .int v1), (2, .int v2), (3, .int v3), (4, .int v4)] [] τ := by
  refine o_iload (k := 4) 4 (by decide +kernel) rfl ?_
  refine o_iload_n (k := 2) 2 (by decide +kernel) rfl ?_
  refine o_icmp_ge (off := 14) 42 (by decide +kernel) (by decide) (fun q => ?_) (fun q => ?_)
  · replace h := h.1 q
    refine o_iload_n (k := 1) 1 (by decide +kernel) rfl ?_
    refine o_iload_n (k := 3) 3 (by decide +kernel) rfl ?_
    obtain ⟨hz, h⟩ := h
    refine o_idiv (by decide +kernel) hz ?_
    refine o_bipush (n := 9) (v := 9) (by decide +kernel) (by decide) ?_
    refine o_icmp_le (off := 5) 52 (by decide +kernel) (by decide) (fun q => ?_) (fun q => ?_)
    · replace h := h.1 q
      refine o_iconst (n := 0) (v := 0) (by decide +kernel) (by decide) ?_
      refine o_istore (k := 4) (L' := [(4, .int 0), (0, .ref 345), (1, .int v1), (2, .int v2), (3, .int v3)]) (by decide +kernel) (by decide) rfl ?_
      refine o_iconst (n := -1) (v := (-1)) (by decide +kernel) (by decide) ?_
      refine o_istore (k := 5) (L' := [(5, .int (-1)), (4, .int 0), (0, .ref 345), (1, .int v1), (2, .int v2), (3, .int v3)]) (by decide +kernel) (by decide) rfl ?_
      refine o_iconst (n := 0) (v := 0) (by decide +kernel) (by decide) ?_
      refine o_istore (k := 6) (L' := [(6, .int 0), (5, .int (-1)), (4, .int 0), (0, .ref 345), (1, .int v1), (2, .int v2), (3, .int v3)]) (by decide +kernel) (by decide) rfl ?_
      refine o_sub [3, 4, 5, 6, 2, 1, 0] rfl ?_
      exact h
    · replace h := h.2 q
      refine o_iconst (n := -1) (v := (-1)) (by decide +kernel) (by decide) ?_
      exact f_iret (ty := .int) rfl rfl (by decide +kernel) rfl h
  · replace h := h.2 q
    refine o_iload_n (k := 3) 3 (by decide +kernel) rfl ?_
    refine o_bipush (n := 10) (v := 10) (by decide +kernel) (by decide) ?_
    refine o_imul (by decide +kernel) ?_
    refine o_name (fun y1 ey1 => ?_)
    replace h := h y1 ey1
    refine o_istore_n (k := 3) (L' := [(3, .int y1), (0, .ref 345), (1, .int v1), (2, .int v2), (4, .int v4)]) (by decide +kernel) (by decide) rfl ?_
    obtain ⟨y2, ey2⟩ : ∃ y : Int32, y = v4 + 1 := ⟨_, rfl⟩
    replace h := h y2 ey2
    refine o_iinc (i := 4) (n := 1) (v := y2) (L' := [(4, .int y2), (3, .int y1), (0, .ref 345), (1, .int v1), (2, .int v2)]) 4 (by decide +kernel) rfl (by rw [ey2]; rfl) (by decide) rfl ?_
    refine o_goto (off := -14) 25 (by decide +kernel) (by decide) ?_
    refine o_sub [2, 3, 4, 1, 0] rfl ?_
    exact h
set_option maxRecDepth 20000 in
theorem k_X12_agenda_61 {d : Nat} {K : x_T → Int32 → Prop} {v1 : Int32} {v2 : Int32} {v3 : Int32} {v4 : Int32} {v5 : Int32} {v6 : Int32} {τ : x_T} (h : (v2 ≤ v6 → K τ v5) ∧ (¬ v2 ≤ v6 → ¬ v3 = 0 ∧ (∀ y1, y1 = (v1 / v3) - (v1 / v3) / 10 * 10 → (∀ y2, y2 = v3 / 10 → (x_CI d mX12_isHouse [.ref 345, .int y1] τ (fun t3 a4 => (a4 = 0 → K t3 (-1)) ∧ (¬ a4 = 0 → x_CI d mX12_has [.int v4, .int y1] t3 (fun t5 a6 => (a6 = 0 → ∀ y7, y7 = v4 ||| (1 <<< (y1 &&& 31)) → ((v5 = (-1) → x_WI (d + 1) mX12_agenda K 127 [(0, .ref 345), (1, .int v1), (2, .int v2), (3, .int y2), (4, .int y7), (6, .int v6), (7, .int y1)] [] t5) ∧ (¬ v5 = (-1) → x_CI d mX12_doesBeat [.ref 345, .int y1, .int v5] t5 (fun t8 a9 => (a9 = 0 → x_WI (d + 1) mX12_agenda K 134 [(0, .ref 345), (1, .int v1), (2, .int v2), (3, .int y2), (4, .int y7), (6, .int v6)] [.int v5] t8) ∧ (¬ a9 = 0 → x_WI (d + 1) mX12_agenda K 127 [(0, .ref 345), (1, .int v1), (2, .int v2), (3, .int y2), (4, .int y7), (6, .int v6), (7, .int y1)] [] t8))))) ∧ (¬ a6 = 0 → K t5 (-1)))))))))) : x_WI (d + 1) mX12_agenda K 61 [(0, .ref 345), (1, .int v1), (2, .int v2), (3, .int v3), (4, .int v4), (5, .int v5), (6, .int v6)] [] τ := by
  refine o_iload (k := 6) 6 (by decide +kernel) rfl ?_
  refine o_iload_n (k := 2) 2 (by decide +kernel) rfl ?_
  refine o_icmp_ge (off := 78) 142 (by decide +kernel) (by decide) (fun q => ?_) (fun q => ?_)
  · replace h := h.1 q
    refine o_iload (k := 5) 5 (by decide +kernel) rfl ?_
    exact f_iret (ty := .int) rfl rfl (by decide +kernel) rfl h
  · replace h := h.2 q
    refine o_iload_n (k := 1) 1 (by decide +kernel) rfl ?_
    refine o_iload_n (k := 3) 3 (by decide +kernel) rfl ?_
    obtain ⟨hz, h⟩ := h
    refine o_idiv (by decide +kernel) hz ?_
    refine o_bipush (n := 10) (v := 10) (by decide +kernel) (by decide) ?_
    refine o_irem (by decide +kernel) (by decide) ?_
    refine o_name (fun y1 ey1 => ?_)
    replace h := h y1 ey1
    refine o_istore (k := 7) (L' := [(7, .int y1), (0, .ref 345), (1, .int v1), (2, .int v2), (3, .int v3), (4, .int v4), (5, .int v5), (6, .int v6)]) (by decide +kernel) (by decide) rfl ?_
    refine o_iload_n (k := 3) 4 (by decide +kernel) rfl ?_
    refine o_bipush (n := 10) (v := 10) (by decide +kernel) (by decide) ?_
    refine o_idiv (by decide +kernel) (by decide) ?_
    refine o_name (fun y2 ey2 => ?_)
    replace h := h y2 ey2
    refine o_istore_n (k := 3) (L' := [(3, .int y2), (7, .int y1), (0, .ref 345), (1, .int v1), (2, .int v2), (4, .int v4), (5, .int v5), (6, .int v6)]) (by decide +kernel) (by decide) rfl ?_
    refine o_aload_n (k := 0) 2 (by decide +kernel) rfl ?_
    refine o_iload (k := 7) 1 (by decide +kernel) rfl ?_
    refine f_callVI (μ' := mX12_isHouse) (i := 117) (vs := [.int y1]) (by decide +kernel) lk_1515 (vok_mX12_isHouse) sh_345 rfl rfl rfl rfl (Nat.le_of_ble_eq_true rfl) ?_
    refine x_CI.mono h (fun t3 a4 h => ?_)
    refine o_if_eq (off := 13) 99 (by decide +kernel) (by decide) (fun q => ?_) (fun q => ?_)
    · replace h := h.1 q
      refine o_iconst (n := -1) (v := (-1)) (by decide +kernel) (by decide) ?_
      exact f_iret (ty := .int) rfl rfl (by decide +kernel) rfl h
    · replace h := h.2 q
      refine o_iload (k := 4) 5 (by decide +kernel) rfl ?_
      refine o_iload (k := 7) 1 (by decide +kernel) rfl ?_
      refine f_callSI (μ' := mX12_has) (i := 470) (vs := [.int v4, .int y1]) (by decide +kernel) lk_1919 (cok_mX12_has) rfl (stt_mX12_has) rfl rfl (Nat.le_of_ble_eq_true rfl) ?_
      refine x_CI.mono h (fun t5 a6 h => ?_)
      refine o_if_eq (off := 5) 101 (by decide +kernel) (by decide) (fun q => ?_) (fun q => ?_)
      · replace h := h.1 q
        refine o_iload (k := 4) 5 (by decide +kernel) rfl ?_
        refine o_iconst (n := 1) (v := 1) (by decide +kernel) (by decide) ?_
        refine o_iload (k := 7) 1 (by decide +kernel) rfl ?_
        refine o_ishl (by decide +kernel) ?_
        refine o_ior (by decide +kernel) ?_
        refine o_name (fun y7 ey7 => ?_)
        replace h := h y7 ey7
        refine o_istore (k := 4) (L' := [(4, .int y7), (3, .int y2), (7, .int y1), (0, .ref 345), (1, .int v1), (2, .int v2), (5, .int v5), (6, .int v6)]) (by decide +kernel) (by decide) rfl ?_
        refine o_iload (k := 5) 6 (by decide +kernel) rfl ?_
        refine o_iconst (n := -1) (v := (-1)) (by decide +kernel) (by decide) ?_
        refine o_icmp_eq (off := 14) 127 (by decide +kernel) (by decide) (fun q => ?_) (fun q => ?_)
        · replace h := h.1 q
          refine o_sub [3, 4, 5, 1, 0, 7, 2] rfl ?_
          exact h
        · replace h := h.2 q
          refine o_aload_n (k := 0) 3 (by decide +kernel) rfl ?_
          refine o_iload (k := 7) 2 (by decide +kernel) rfl ?_
          refine o_iload (k := 5) 6 (by decide +kernel) rfl ?_
          refine f_callVI (μ' := mX12_doesBeat) (i := 467) (vs := [.int y1, .int v5]) (by decide +kernel) lk_1911 (vok_mX12_doesBeat) sh_345 rfl rfl rfl rfl (Nat.le_of_ble_eq_true rfl) ?_
          refine x_CI.mono h (fun t8 a9 h => ?_)
          refine o_if_eq (off := 8) 132 (by decide +kernel) (by decide) (fun q => ?_) (fun q => ?_)
          · replace h := h.1 q
            refine o_iload (k := 5) 6 (by decide +kernel) rfl ?_
            refine o_sub [3, 4, 5, 1, 0, 7] rfl ?_
            exact h
          · replace h := h.2 q
            refine o_sub [3, 4, 5, 1, 0, 7, 2] rfl ?_
            exact h
      · replace h := h.2 q
        refine o_iconst (n := -1) (v := (-1)) (by decide +kernel) (by decide) ?_
        exact f_iret (ty := .int) rfl rfl (by decide +kernel) rfl h
set_option maxRecDepth 20000 in
theorem k_X12_agenda_127 {d : Nat} {K : x_T → Int32 → Prop} {v1 : Int32} {v2 : Int32} {v3 : Int32} {v4 : Int32} {v6 : Int32} {v7 : Int32} {τ : x_T} (h : x_WI (d + 1) mX12_agenda K 134 [(0, .ref 345), (1, .int v1), (2, .int v2), (3, .int v3), (4, .int v4), (6, .int v6)] [.int v7] τ) : x_WI (d + 1) mX12_agenda K 127 [(0, .ref 345), (1, .int v1), (2, .int v2), (3, .int v3), (4, .int v4), (6, .int v6), (7, .int v7)] [] τ := by
  refine o_iload (k := 7) 6 (by decide +kernel) rfl ?_
  refine o_goto (off := 5) 134 (by decide +kernel) (by decide) ?_
  refine o_sub [0, 1, 2, 3, 4, 5] rfl ?_
  exact h
set_option maxRecDepth 20000 in
theorem k_X12_agenda_134 {d : Nat} {K : x_T → Int32 → Prop} {v1 : Int32} {v2 : Int32} {v3 : Int32} {v4 : Int32} {v6 : Int32} {s0 : Int32} {τ : x_T} (h : ∀ y1, y1 = v6 + 1 → (x_WI (d + 1) mX12_agenda K 61 [(0, .ref 345), (1, .int v1), (2, .int v2), (3, .int v3), (4, .int v4), (5, .int s0), (6, .int y1)] [] τ)) : x_WI (d + 1) mX12_agenda K 134 [(0, .ref 345), (1, .int v1), (2, .int v2), (3, .int v3), (4, .int v4), (6, .int v6)] [.int s0] τ := by
  refine o_istore (k := 5) (L' := [(5, .int s0), (0, .ref 345), (1, .int v1), (2, .int v2), (3, .int v3), (4, .int v4), (6, .int v6)]) (by decide +kernel) (by decide) rfl ?_
  obtain ⟨y1, ey1⟩ : ∃ y : Int32, y = v6 + 1 := ⟨_, rfl⟩
  replace h := h y1 ey1
  refine o_iinc (i := 6) (n := 1) (v := y1) (L' := [(6, .int y1), (5, .int s0), (0, .ref 345), (1, .int v1), (2, .int v2), (3, .int v3), (4, .int v4)]) 6 (by decide +kernel) rfl (by rw [ey1]; rfl) (by decide) rfl ?_
  refine o_goto (off := -78) 61 (by decide +kernel) (by decide) ?_
  refine o_sub [2, 3, 4, 5, 6, 1, 0] rfl ?_
  exact h
set_option maxRecDepth 20000 in
theorem e_X12_weight {d : Nat} {K : x_T → Int32 → Prop} {v1 : Int32} {v2 : Int32} {τ : x_T} (h : x_CI d mX12_isHouse [.ref 345, .int v1] τ (fun t1 a2 => (a2 = 0 → K t1 0) ∧ (¬ a2 = 0 → x_CI d mX12_in [.int v2, .int 1, .int 9] t1 (fun t3 a4 => (¬ a4 = 0 → vp_in (22 + v1) 3670 ∧ (∀ t5, t5 = x_w1 t3 346 ((22 + v1).toNatClampNeg) v2 → (K t5 1))) ∧ (a4 = 0 → K t3 0))))) : x_CI (d + 1) mX12_weight [.ref 345, .int v1, .int v2] τ K := by
  refine x_CI_of (by decide) (Nat.le_of_ble_eq_true rfl) ?_
  show x_WI (d + 1) mX12_weight K 0 [(0, .ref 345), (1, .int v1), (2, .int v2)] [] τ
  refine o_aload_n (k := 0) 0 (by decide +kernel) rfl ?_
  refine o_iload_n (k := 1) 1 (by decide +kernel) rfl ?_
  refine f_callVI (μ' := mX12_isHouse) (i := 117) (vs := [.int v1]) (by decide +kernel) lk_1515 (vok_mX12_isHouse) sh_345 rfl rfl rfl rfl (Nat.le_of_ble_eq_true rfl) ?_
  refine x_CI.mono h (fun t1 a2 h => ?_)
  refine o_if_eq (off := 13) 18 (by decide +kernel) (by decide) (fun q => ?_) (fun q => ?_)
  · replace h := h.1 q
    refine o_iconst (n := 0) (v := 0) (by decide +kernel) (by decide) ?_
    exact f_iret (ty := .boolean) rfl (by decide) (by decide +kernel) rfl h
  · replace h := h.2 q
    refine o_iload_n (k := 2) 2 (by decide +kernel) rfl ?_
    refine o_iconst (n := 1) (v := 1) (by decide +kernel) (by decide) ?_
    refine o_bipush (n := 9) (v := 9) (by decide +kernel) (by decide) ?_
    refine f_callSI (μ' := mX12_in) (i := 113) (vs := [.int v2, .int 1, .int 9]) (by decide +kernel) lk_1508 (cok_mX12_in) rfl (stt_mX12_in) rfl rfl (Nat.le_of_ble_eq_true rfl) ?_
    refine x_CI.mono h (fun t3 a4 h => ?_)
    refine o_if_ne (off := 5) 20 (by decide +kernel) (by decide) (fun q => ?_) (fun q => ?_)
    · replace h := h.1 q
      refine o_aload_n (k := 0) 0 (by decide +kernel) rfl ?_
      refine f_getR (r := 346) (t := 12) (k := 0) (i := 7) (by decide +kernel) sh_345 rfl (by decide) lk_1361 (by simp [x_ty, tyX12]) (gr_12_0 sh_345) ?_
      refine o_bipush (n := 22) (v := 22) (by decide +kernel) (by decide) ?_
      refine o_iload_n (k := 1) 1 (by decide +kernel) rfl ?_
      refine o_iadd (by decide +kernel) ?_
      refine o_iload_n (k := 2) 2 (by decide +kernel) rfl ?_
      obtain ⟨hi, h⟩ := h
      refine f_iast (by decide +kernel) sh_346 hi rfl ?_
      refine f_name (fun t5 et5 => ?_)
      replace h := h t5 et5
      refine o_iconst (n := 1) (v := 1) (by decide +kernel) (by decide) ?_
      exact f_iret (ty := .boolean) rfl (by decide) (by decide +kernel) rfl h
    · replace h := h.2 q
      refine o_iconst (n := 0) (v := 0) (by decide +kernel) (by decide) ?_
      exact f_iret (ty := .boolean) rfl (by decide) (by decide +kernel) rfl h
set_option maxRecDepth 20000 in
theorem e_X12_isAhead {d : Nat} {K : x_T → Int32 → Prop} {v1 : Int32} {v2 : Int32} {τ : x_T} (h : vp_in v2 8 ∧ (vp_in (22 + v1) 3670 ∧ (vp_in v1 8 ∧ (vp_in (22 + v2) 3670 ∧ (∀ y1, y1 = ((τ.1 375 v2.toNatClampNeg) * (τ.1 346 (22 + v1).toNatClampNeg)) - ((τ.1 375 v1.toNatClampNeg) * (τ.1 346 (22 + v2).toNatClampNeg)) → ((0 < y1 → K τ 1) ∧ (¬ 0 < y1 → (¬ y1 = 0 → K τ 0) ∧ (y1 = 0 → vp_in (22 + v1) 3670 ∧ (vp_in (22 + v2) 3670 ∧ ((τ.1 346 (22 + v1).toNatClampNeg ≤ τ.1 346 (22 + v2).toNatClampNeg → K τ 0) ∧ (¬ τ.1 346 (22 + v1).toNatClampNeg ≤ τ.1 346 (22 + v2).toNatClampNeg → K τ 1))))))))))) : x_CI d mX12_isAhead [.ref 345, .int v1, .int v2] τ K := by
  refine x_CI_of (by decide) (Nat.le_of_ble_eq_true rfl) ?_
  show x_WI d mX12_isAhead K 0 [(0, .ref 345), (1, .int v1), (2, .int v2)] [] τ
  refine o_aload_n (k := 0) 0 (by decide +kernel) rfl ?_
  refine f_getR (r := 375) (t := 12) (k := 46) (i := 106) (by decide +kernel) sh_345 rfl (by decide) lk_1407 (by simp [x_ty, tyX12]) (gr_12_46 sh_345) ?_
  refine o_iload_n (k := 2) 2 (by decide +kernel) rfl ?_
  obtain ⟨hi, h⟩ := h
  refine f_iald (by decide +kernel) sh_375 hi rfl ?_
  refine o_aload_n (k := 0) 0 (by decide +kernel) rfl ?_
  refine f_getR (r := 346) (t := 12) (k := 0) (i := 7) (by decide +kernel) sh_345 rfl (by decide) lk_1361 (by simp [x_ty, tyX12]) (gr_12_0 sh_345) ?_
  refine o_bipush (n := 22) (v := 22) (by decide +kernel) (by decide) ?_
  refine o_iload_n (k := 1) 1 (by decide +kernel) rfl ?_
  refine o_iadd (by decide +kernel) ?_
  obtain ⟨hi, h⟩ := h
  refine f_iald (by decide +kernel) sh_346 hi rfl ?_
  refine o_imul (by decide +kernel) ?_
  refine o_aload_n (k := 0) 0 (by decide +kernel) rfl ?_
  refine f_getR (r := 375) (t := 12) (k := 46) (i := 106) (by decide +kernel) sh_345 rfl (by decide) lk_1407 (by simp [x_ty, tyX12]) (gr_12_46 sh_345) ?_
  refine o_iload_n (k := 1) 1 (by decide +kernel) rfl ?_
  obtain ⟨hi, h⟩ := h
  refine f_iald (by decide +kernel) sh_375 hi rfl ?_
  refine o_aload_n (k := 0) 0 (by decide +kernel) rfl ?_
  refine f_getR (r := 346) (t := 12) (k := 0) (i := 7) (by decide +kernel) sh_345 rfl (by decide) lk_1361 (by simp [x_ty, tyX12]) (gr_12_0 sh_345) ?_
  refine o_bipush (n := 22) (v := 22) (by decide +kernel) (by decide) ?_
  refine o_iload_n (k := 2) 2 (by decide +kernel) rfl ?_
  refine o_iadd (by decide +kernel) ?_
  obtain ⟨hi, h⟩ := h
  refine f_iald (by decide +kernel) sh_346 hi rfl ?_
  refine o_imul (by decide +kernel) ?_
  refine o_isub (by decide +kernel) ?_
  refine o_name (fun y1 ey1 => ?_)
  replace h := h y1 ey1
  refine o_istore_n (k := 3) (L' := [(3, .int y1), (0, .ref 345), (1, .int v1), (2, .int v2)]) (by decide +kernel) (by decide) rfl ?_
  refine o_iload_n (k := 3) 0 (by decide +kernel) rfl ?_
  refine o_if_gt (off := 28) 63 (by decide +kernel) (by decide) (fun q => ?_) (fun q => ?_)
  · replace h := h.1 q
    refine o_iconst (n := 1) (v := 1) (by decide +kernel) (by decide) ?_
    refine o_goto (off := 4) 68 (by decide +kernel) (by decide) ?_
    exact f_iret (ty := .boolean) rfl (by decide) (by decide +kernel) rfl h
  · replace h := h.2 q
    refine o_iload_n (k := 3) 0 (by decide +kernel) rfl ?_
    refine o_if_ne (off := 28) 67 (by decide +kernel) (by decide) (fun q => ?_) (fun q => ?_)
    · replace h := h.1 q
      refine o_iconst (n := 0) (v := 0) (by decide +kernel) (by decide) ?_
      exact f_iret (ty := .boolean) rfl (by decide) (by decide +kernel) rfl h
    · replace h := h.2 q
      refine o_aload_n (k := 0) 1 (by decide +kernel) rfl ?_
      refine f_getR (r := 346) (t := 12) (k := 0) (i := 7) (by decide +kernel) sh_345 rfl (by decide) lk_1361 (by simp [x_ty, tyX12]) (gr_12_0 sh_345) ?_
      refine o_bipush (n := 22) (v := 22) (by decide +kernel) (by decide) ?_
      refine o_iload_n (k := 1) 2 (by decide +kernel) rfl ?_
      refine o_iadd (by decide +kernel) ?_
      obtain ⟨hi, h⟩ := h
      refine f_iald (by decide +kernel) sh_346 hi rfl ?_
      refine o_aload_n (k := 0) 1 (by decide +kernel) rfl ?_
      refine f_getR (r := 346) (t := 12) (k := 0) (i := 7) (by decide +kernel) sh_345 rfl (by decide) lk_1361 (by simp [x_ty, tyX12]) (gr_12_0 sh_345) ?_
      refine o_bipush (n := 22) (v := 22) (by decide +kernel) (by decide) ?_
      refine o_iload_n (k := 2) 3 (by decide +kernel) rfl ?_
      refine o_iadd (by decide +kernel) ?_
      obtain ⟨hi, h⟩ := h
      refine f_iald (by decide +kernel) sh_346 hi rfl ?_
      refine o_icmp_le (off := 7) 67 (by decide +kernel) (by decide) (fun q => ?_) (fun q => ?_)
      · replace h := h.1 q
        refine o_iconst (n := 0) (v := 0) (by decide +kernel) (by decide) ?_
        exact f_iret (ty := .boolean) rfl (by decide) (by decide +kernel) rfl h
      · replace h := h.2 q
        refine o_iconst (n := 1) (v := 1) (by decide +kernel) (by decide) ?_
        refine o_goto (off := 4) 68 (by decide +kernel) (by decide) ?_
        exact f_iret (ty := .boolean) rfl (by decide) (by decide +kernel) rfl h
set_option maxRecDepth 20000 in
theorem e_X12_fair {d : Nat} {K : x_T → Int32 → Prop} {v1 : Int32} {τ : x_T} (h : x_CI d mX12_in [.int v1, .int 1, .int 9] τ (fun t1 a2 => (a2 = 0 → K t1 (-1)) ∧ (¬ a2 = 0 → (¬ t1.1 346 0 = 0 → x_WI (d + 1) mX12_fair K 23 [(0, .ref 345), (1, .int v1), (2, .int 0)] [] t1) ∧ (t1.1 346 0 = 0 → K t1 (-1))))) : x_CI (d + 1) mX12_fair [.ref 345, .int v1] τ K := by
  refine x_CI_of (by decide) (Nat.le_of_ble_eq_true rfl) ?_
  show x_WI (d + 1) mX12_fair K 0 [(0, .ref 345), (1, .int v1)] [] τ
  refine o_iload_n (k := 1) 1 (by decide +kernel) rfl ?_
  refine o_iconst (n := 1) (v := 1) (by decide +kernel) (by decide) ?_
  refine o_bipush (n := 9) (v := 9) (by decide +kernel) (by decide) ?_
  refine f_callSI (μ' := mX12_in) (i := 113) (vs := [.int v1, .int 1, .int 9]) (by decide +kernel) lk_1508 (cok_mX12_in) rfl (stt_mX12_in) rfl rfl (Nat.le_of_ble_eq_true rfl) ?_
  refine x_CI.mono h (fun t1 a2 h => ?_)
  refine o_if_eq (off := 12) 19 (by decide +kernel) (by decide) (fun q => ?_) (fun q => ?_)
  · replace h := h.1 q
    refine o_iconst (n := -1) (v := (-1)) (by decide +kernel) (by decide) ?_
    exact f_iret (ty := .int) rfl rfl (by decide +kernel) rfl h
  · replace h := h.2 q
    refine o_aload_n (k := 0) 0 (by decide +kernel) rfl ?_
    refine f_getR (r := 346) (t := 12) (k := 0) (i := 7) (by decide +kernel) sh_345 rfl (by decide) lk_1361 (by simp [x_ty, tyX12]) (gr_12_0 sh_345) ?_
    refine o_iconst (n := 0) (v := 0) (by decide +kernel) (by decide) ?_
    refine f_iald (k := 0) (by decide +kernel) sh_346 (by unfold vp_in; decide) (by decide) ?_
    refine o_if_ne (off := 5) 21 (by decide +kernel) (by decide) (fun q => ?_) (fun q => ?_)
    · replace h := h.1 q
      refine o_iconst (n := 0) (v := 0) (by decide +kernel) (by decide) ?_
      refine o_istore_n (k := 2) (L' := [(2, .int 0), (0, .ref 345), (1, .int v1)]) (by decide +kernel) (by decide) rfl ?_
      refine o_sub [1, 2, 0] rfl ?_
      exact h
    · replace h := h.2 q
      refine o_iconst (n := -1) (v := (-1)) (by decide +kernel) (by decide) ?_
      exact f_iret (ty := .int) rfl rfl (by decide +kernel) rfl h
set_option maxRecDepth 20000 in
theorem k_X12_fair_23 {d : Nat} {K : x_T → Int32 → Prop} {v1 : Int32} {v2 : Int32} {τ : x_T} (h : (8 ≤ v2 → x_WI (d + 1) mX12_fair K 46 [(0, .ref 345), (1, .int v1), (2, .int 0), (3, .int 0)] [] τ) ∧ (¬ 8 ≤ v2 → vp_in v2 8 ∧ (∀ t1, t1 = x_w1 τ 375 v2.toNatClampNeg 0 → (∀ y2, y2 = v2 + 1 → (x_WI (d + 1) mX12_fair K 23 [(0, .ref 345), (1, .int v1), (2, .int y2)] [] t1))))) : x_WI (d + 1) mX12_fair K 23 [(0, .ref 345), (1, .int v1), (2, .int v2)] [] τ := by
  refine o_iload_n (k := 2) 2 (by decide +kernel) rfl ?_
  refine o_bipush (n := 8) (v := 8) (by decide +kernel) (by decide) ?_
  refine o_icmp_ge (off := 16) 42 (by decide +kernel) (by decide) (fun q => ?_) (fun q => ?_)
  · replace h := h.1 q
    refine o_iconst (n := 0) (v := 0) (by decide +kernel) (by decide) ?_
    refine o_istore_n (k := 2) (L' := [(2, .int 0), (0, .ref 345), (1, .int v1)]) (by decide +kernel) (by decide) rfl ?_
    refine o_iconst (n := 0) (v := 0) (by decide +kernel) (by decide) ?_
    refine o_istore_n (k := 3) (L' := [(3, .int 0), (2, .int 0), (0, .ref 345), (1, .int v1)]) (by decide +kernel) (by decide) rfl ?_
    refine o_sub [2, 3, 1, 0] rfl ?_
    exact h
  · replace h := h.2 q
    refine o_aload_n (k := 0) 0 (by decide +kernel) rfl ?_
    refine f_getR (r := 375) (t := 12) (k := 46) (i := 106) (by decide +kernel) sh_345 rfl (by decide) lk_1407 (by simp [x_ty, tyX12]) (gr_12_46 sh_345) ?_
    refine o_iload_n (k := 2) 2 (by decide +kernel) rfl ?_
    refine o_iconst (n := 0) (v := 0) (by decide +kernel) (by decide) ?_
    obtain ⟨hi, h⟩ := h
    refine f_iast (by decide +kernel) sh_375 hi rfl ?_
    refine f_name (fun t1 et1 => ?_)
    replace h := h t1 et1
    obtain ⟨y2, ey2⟩ : ∃ y : Int32, y = v2 + 1 := ⟨_, rfl⟩
    replace h := h y2 ey2
    refine o_iinc (i := 2) (n := 1) (v := y2) (L' := [(2, .int y2), (0, .ref 345), (1, .int v1)]) 2 (by decide +kernel) rfl (by rw [ey2]; rfl) (by decide) rfl ?_
    refine o_goto (off := -16) 23 (by decide +kernel) (by decide) ?_
    refine o_sub [1, 2, 0] rfl ?_
    exact h
set_option maxRecDepth 20000 in
theorem k_X12_fair_46 {d : Nat} {K : x_T → Int32 → Prop} {v1 : Int32} {v2 : Int32} {v3 : Int32} {τ : x_T} (h : (v1 ≤ v3 → K τ v2) ∧ (¬ v1 ≤ v3 → x_WI (d + 1) mX12_fair K 56 [(0, .ref 345), (1, .int v1), (2, .int 0), (3, .int v3), (4, .int 1)] [] τ)) : x_WI (d + 1) mX12_fair K 46 [(0, .ref 345), (1, .int v1), (2, .int v2), (3, .int v3)] [] τ := by
  refine o_iload_n (k := 3) 3 (by decide +kernel) rfl ?_
  refine o_iload_n (k := 1) 1 (by decide +kernel) rfl ?_
  refine o_icmp_ge (off := 58) 106 (by decide +kernel) (by decide) (fun q => ?_) (fun q => ?_)
  · replace h := h.1 q
    refine o_iload_n (k := 2) 2 (by decide +kernel) rfl ?_
    exact f_iret (ty := .int) rfl rfl (by decide +kernel) rfl h
  · replace h := h.2 q
    refine o_iconst (n := 0) (v := 0) (by decide +kernel) (by decide) ?_
    refine o_istore_n (k := 2) (L' := [(2, .int 0), (0, .ref 345), (1, .int v1), (3, .int v3)]) (by decide +kernel) (by decide) rfl ?_
    refine o_iconst (n := 1) (v := 1) (by decide +kernel) (by decide) ?_
    refine o_istore (k := 4) (L' := [(4, .int 1), (2, .int 0), (0, .ref 345), (1, .int v1), (3, .int v3)]) (by decide +kernel) (by decide) rfl ?_
    refine o_sub [2, 3, 1, 4, 0] rfl ?_
    exact h
set_option maxRecDepth 20000 in
theorem k_X12_fair_56 {d : Nat} {K : x_T → Int32 → Prop} {v1 : Int32} {v2 : Int32} {v3 : Int32} {v4 : Int32} {τ : x_T} (h : (τ.1 346 0 ≤ v4 → vp_in v2 8 ∧ (vp_in v2 8 ∧ (∀ t1, t1 = x_w1 τ 375 v2.toNatClampNeg ((τ.1 375 v2.toNatClampNeg) + 1) → (∀ y2, y2 = v3 + 1 → (x_WI (d + 1) mX12_fair K 46 [(0, .ref 345), (1, .int v1), (2, .int v2), (3, .int y2)] [] t1))))) ∧ (¬ τ.1 346 0 ≤ v4 → x_CI d mX12_isAhead [.ref 345, .int v4, .int v2] τ (fun t3 a4 => (a4 = 0 → x_WI (d + 1) mX12_fair K 83 [(0, .ref 345), (1, .int v1), (3, .int v3), (4, .int v4)] [.int v2] t3) ∧ (¬ a4 = 0 → x_WI (d + 1) mX12_fair K 83 [(0, .ref 345), (1, .int v1), (3, .int v3), (4, .int v4)] [.int v4] t3)))) : x_WI (d + 1) mX12_fair K 56 [(0, .ref 345), (1, .int v1), (2, .int v2), (3, .int v3), (4, .int v4)] [] τ := by
  refine o_iload (k := 4) 4 (by decide +kernel) rfl ?_
  refine o_aload_n (k := 0) 0 (by decide +kernel) rfl ?_
  refine f_getR (r := 346) (t := 12) (k := 0) (i := 7) (by decide +kernel) sh_345 rfl (by decide) lk_1361 (by simp [x_ty, tyX12]) (gr_12_0 sh_345) ?_
  refine o_iconst (n := 0) (v := 0) (by decide +kernel) (by decide) ?_
  refine f_iald (k := 0) (by decide +kernel) sh_346 (by unfold vp_in; decide) (by decide) ?_
  refine o_icmp_ge (off := 26) 90 (by decide +kernel) (by decide) (fun q => ?_) (fun q => ?_)
  · replace h := h.1 q
    refine o_aload_n (k := 0) 0 (by decide +kernel) rfl ?_
    refine f_getR (r := 375) (t := 12) (k := 46) (i := 106) (by decide +kernel) sh_345 rfl (by decide) lk_1407 (by simp [x_ty, tyX12]) (gr_12_46 sh_345) ?_
    refine o_iload_n (k := 2) 2 (by decide +kernel) rfl ?_
    refine o_dup2 (by decide +kernel) rfl rfl ?_
    obtain ⟨hi, h⟩ := h
    refine f_iald (by decide +kernel) sh_375 hi rfl ?_
    refine o_iconst (n := 1) (v := 1) (by decide +kernel) (by decide) ?_
    refine o_iadd (by decide +kernel) ?_
    obtain ⟨hi, h⟩ := h
    refine f_iast (by decide +kernel) sh_375 hi rfl ?_
    refine f_name (fun t1 et1 => ?_)
    replace h := h t1 et1
    obtain ⟨y2, ey2⟩ : ∃ y : Int32, y = v3 + 1 := ⟨_, rfl⟩
    replace h := h y2 ey2
    refine o_iinc (i := 3) (n := 1) (v := y2) (L' := [(3, .int y2), (0, .ref 345), (1, .int v1), (2, .int v2), (4, .int v4)]) 3 (by decide +kernel) rfl (by rw [ey2]; rfl) (by decide) rfl ?_
    refine o_goto (off := -57) 46 (by decide +kernel) (by decide) ?_
    refine o_sub [1, 2, 3, 0] rfl ?_
    exact h
  · replace h := h.2 q
    refine o_aload_n (k := 0) 0 (by decide +kernel) rfl ?_
    refine o_iload (k := 4) 4 (by decide +kernel) rfl ?_
    refine o_iload_n (k := 2) 2 (by decide +kernel) rfl ?_
    refine f_callVI (μ' := mX12_isAhead) (i := 473) (vs := [.int v4, .int v2]) (by decide +kernel) lk_1930 (vok_mX12_isAhead) sh_345 rfl rfl rfl rfl (Nat.le_of_ble_eq_true rfl) ?_
    refine x_CI.mono h (fun t3 a4 h => ?_)
    refine o_if_eq (off := 8) 82 (by decide +kernel) (by decide) (fun q => ?_) (fun q => ?_)
    · replace h := h.1 q
      refine o_iload_n (k := 2) 2 (by decide +kernel) rfl ?_
      refine o_sub [0, 1, 3, 4] rfl ?_
      exact h
    · replace h := h.2 q
      refine o_iload (k := 4) 4 (by decide +kernel) rfl ?_
      refine o_goto (off := 4) 83 (by decide +kernel) (by decide) ?_
      refine o_sub [0, 1, 3, 4] rfl ?_
      exact h
set_option maxRecDepth 20000 in
theorem k_X12_fair_83 {d : Nat} {K : x_T → Int32 → Prop} {v1 : Int32} {v3 : Int32} {v4 : Int32} {s0 : Int32} {τ : x_T} (h : ∀ y1, y1 = v4 + 1 → (x_WI (d + 1) mX12_fair K 56 [(0, .ref 345), (1, .int v1), (2, .int s0), (3, .int v3), (4, .int y1)] [] τ)) : x_WI (d + 1) mX12_fair K 83 [(0, .ref 345), (1, .int v1), (3, .int v3), (4, .int v4)] [.int s0] τ := by
  refine o_istore_n (k := 2) (L' := [(2, .int s0), (0, .ref 345), (1, .int v1), (3, .int v3), (4, .int v4)]) (by decide +kernel) (by decide) rfl ?_
  obtain ⟨y1, ey1⟩ : ∃ y : Int32, y = v4 + 1 := ⟨_, rfl⟩
  replace h := h y1 ey1
  refine o_iinc (i := 4) (n := 1) (v := y1) (L' := [(4, .int y1), (2, .int s0), (0, .ref 345), (1, .int v1), (3, .int v3)]) 4 (by decide +kernel) rfl (by rw [ey1]; rfl) (by decide) rfl ?_
  refine o_goto (off := -31) 56 (by decide +kernel) (by decide) ?_
  refine o_sub [2, 3, 1, 4, 0] rfl ?_
  exact h
set_option maxRecDepth 20000 in
theorem e_X12_feel {d : Nat} {K : x_T → Int32 → Prop} {v1 : Int32} {v2 : Int32} {τ : x_T} (h : (¬ v1 = (-1) → x_CI d mX12_isHouse [.ref 345, .int v1] τ (fun t1 a2 => (a2 = 0 → K t1 (-2)) ∧ (¬ a2 = 0 → x_CI d mX12_in [.int v2, .int 0, .int 99] t1 (fun t3 a4 => (a4 = 0 → K t3 (-2)) ∧ (¬ a4 = 0 → (¬ t3.1 346 6 = 8 → vp_in (110 + (2 * (t3.1 346 6))) 3670 ∧ (∀ t5, t5 = x_w1 t3 346 ((110 + (2 * (t3.1 346 6))).toNatClampNeg) v1 → (vp_in ((110 + (2 * (t5.1 346 6))) + 1) 3670 ∧ (∀ t6, t6 = x_w1 t5 346 (((110 + (2 * (t5.1 346 6))) + 1).toNatClampNeg) v2 → (∀ t7, t7 = x_w1 t6 346 6 ((t6.1 346 6) + 1) → (K t7 (t7.1 346 6))))))) ∧ (t3.1 346 6 = 8 → K t3 (-2))))))) ∧ (v1 = (-1) → ∀ t8, t8 = x_w1 τ 346 6 0 → (K t8 0))) : x_CI (d + 1) mX12_feel [.ref 345, .int v1, .int v2] τ K := by
  refine x_CI_of (by decide) (Nat.le_of_ble_eq_true rfl) ?_
  show x_WI (d + 1) mX12_feel K 0 [(0, .ref 345), (1, .int v1), (2, .int v2)] [] τ
  refine o_iload_n (k := 1) 1 (by decide +kernel) rfl ?_
  refine o_iconst (n := -1) (v := (-1)) (by decide +kernel) (by decide) ?_
  refine o_icmp_ne (off := 13) 15 (by decide +kernel) (by decide) (fun q => ?_) (fun q => ?_)
  · replace h := h.1 q
    refine o_aload_n (k := 0) 0 (by decide +kernel) rfl ?_
    refine o_iload_n (k := 1) 1 (by decide +kernel) rfl ?_
    refine f_callVI (μ' := mX12_isHouse) (i := 117) (vs := [.int v1]) (by decide +kernel) lk_1515 (vok_mX12_isHouse) sh_345 rfl rfl rfl rfl (Nat.le_of_ble_eq_true rfl) ?_
    refine x_CI.mono h (fun t1 a2 h => ?_)
    refine o_if_eq (off := 25) 45 (by decide +kernel) (by decide) (fun q => ?_) (fun q => ?_)
    · replace h := h.1 q
      refine o_bipush (n := -2) (v := (-2)) (by decide +kernel) (by decide) ?_
      exact f_iret (ty := .int) rfl rfl (by decide +kernel) rfl h
    · replace h := h.2 q
      refine o_iload_n (k := 2) 2 (by decide +kernel) rfl ?_
      refine o_iconst (n := 0) (v := 0) (by decide +kernel) (by decide) ?_
      refine o_bipush (n := 99) (v := 99) (by decide +kernel) (by decide) ?_
      refine f_callSI (μ' := mX12_in) (i := 113) (vs := [.int v2, .int 0, .int 99]) (by decide +kernel) lk_1508 (cok_mX12_in) rfl (stt_mX12_in) rfl rfl (Nat.le_of_ble_eq_true rfl) ?_
      refine x_CI.mono h (fun t3 a4 h => ?_)
      refine o_if_eq (off := 15) 45 (by decide +kernel) (by decide) (fun q => ?_) (fun q => ?_)
      · replace h := h.1 q
        refine o_bipush (n := -2) (v := (-2)) (by decide +kernel) (by decide) ?_
        exact f_iret (ty := .int) rfl rfl (by decide +kernel) rfl h
      · replace h := h.2 q
        refine o_aload_n (k := 0) 0 (by decide +kernel) rfl ?_
        refine f_getR (r := 346) (t := 12) (k := 0) (i := 7) (by decide +kernel) sh_345 rfl (by decide) lk_1361 (by simp [x_ty, tyX12]) (gr_12_0 sh_345) ?_
        refine o_bipush (n := 6) (v := 6) (by decide +kernel) (by decide) ?_
        refine f_iald (k := 6) (by decide +kernel) sh_346 (by unfold vp_in; decide) (by decide) ?_
        refine o_bipush (n := 8) (v := 8) (by decide +kernel) (by decide) ?_
        refine o_icmp_ne (off := 6) 48 (by decide +kernel) (by decide) (fun q => ?_) (fun q => ?_)
        · replace h := h.1 q
          refine o_aload_n (k := 0) 0 (by decide +kernel) rfl ?_
          refine f_getR (r := 346) (t := 12) (k := 0) (i := 7) (by decide +kernel) sh_345 rfl (by decide) lk_1361 (by simp [x_ty, tyX12]) (gr_12_0 sh_345) ?_
          refine o_bipush (n := 110) (v := 110) (by decide +kernel) (by decide) ?_
          refine o_iconst (n := 2) (v := 2) (by decide +kernel) (by decide) ?_
          refine o_aload_n (k := 0) 0 (by decide +kernel) rfl ?_
          refine f_getR (r := 346) (t := 12) (k := 0) (i := 7) (by decide +kernel) sh_345 rfl (by decide) lk_1361 (by simp [x_ty, tyX12]) (gr_12_0 sh_345) ?_
          refine o_bipush (n := 6) (v := 6) (by decide +kernel) (by decide) ?_
          refine f_iald (k := 6) (by decide +kernel) sh_346 (by unfold vp_in; decide) (by decide) ?_
          refine o_imul (by decide +kernel) ?_
          refine o_iadd (by decide +kernel) ?_
          refine o_iload_n (k := 1) 1 (by decide +kernel) rfl ?_
          obtain ⟨hi, h⟩ := h
          refine f_iast (by decide +kernel) sh_346 hi rfl ?_
          refine f_name (fun t5 et5 => ?_)
          replace h := h t5 et5
          refine o_aload_n (k := 0) 0 (by decide +kernel) rfl ?_
          refine f_getR (r := 346) (t := 12) (k := 0) (i := 7) (by decide +kernel) sh_345 rfl (by decide) lk_1361 (by simp [x_ty, tyX12]) (gr_12_0 sh_345) ?_
          refine o_bipush (n := 110) (v := 110) (by decide +kernel) (by decide) ?_
          refine o_iconst (n := 2) (v := 2) (by decide +kernel) (by decide) ?_
          refine o_aload_n (k := 0) 0 (by decide +kernel) rfl ?_
          refine f_getR (r := 346) (t := 12) (k := 0) (i := 7) (by decide +kernel) sh_345 rfl (by decide) lk_1361 (by simp [x_ty, tyX12]) (gr_12_0 sh_345) ?_
          refine o_bipush (n := 6) (v := 6) (by decide +kernel) (by decide) ?_
          refine f_iald (k := 6) (by decide +kernel) sh_346 (by unfold vp_in; decide) (by decide) ?_
          refine o_imul (by decide +kernel) ?_
          refine o_iadd (by decide +kernel) ?_
          refine o_iconst (n := 1) (v := 1) (by decide +kernel) (by decide) ?_
          refine o_iadd (by decide +kernel) ?_
          refine o_iload_n (k := 2) 2 (by decide +kernel) rfl ?_
          obtain ⟨hi, h⟩ := h
          refine f_iast (by decide +kernel) sh_346 hi rfl ?_
          refine f_name (fun t6 et6 => ?_)
          replace h := h t6 et6
          refine o_aload_n (k := 0) 0 (by decide +kernel) rfl ?_
          refine f_getR (r := 346) (t := 12) (k := 0) (i := 7) (by decide +kernel) sh_345 rfl (by decide) lk_1361 (by simp [x_ty, tyX12]) (gr_12_0 sh_345) ?_
          refine o_bipush (n := 6) (v := 6) (by decide +kernel) (by decide) ?_
          refine o_dup2 (by decide +kernel) rfl rfl ?_
          refine f_iald (k := 6) (by decide +kernel) sh_346 (by unfold vp_in; decide) (by decide) ?_
          refine o_iconst (n := 1) (v := 1) (by decide +kernel) (by decide) ?_
          refine o_iadd (by decide +kernel) ?_
          refine f_iast (k := 6) (by decide +kernel) sh_346 (by unfold vp_in; decide) (by decide) ?_
          refine f_name (fun t7 et7 => ?_)
          replace h := h t7 et7
          refine o_aload_n (k := 0) 0 (by decide +kernel) rfl ?_
          refine f_getR (r := 346) (t := 12) (k := 0) (i := 7) (by decide +kernel) sh_345 rfl (by decide) lk_1361 (by simp [x_ty, tyX12]) (gr_12_0 sh_345) ?_
          refine o_bipush (n := 6) (v := 6) (by decide +kernel) (by decide) ?_
          refine f_iald (k := 6) (by decide +kernel) sh_346 (by unfold vp_in; decide) (by decide) ?_
          exact f_iret (ty := .int) rfl rfl (by decide +kernel) rfl h
        · replace h := h.2 q
          refine o_bipush (n := -2) (v := (-2)) (by decide +kernel) (by decide) ?_
          exact f_iret (ty := .int) rfl rfl (by decide +kernel) rfl h
  · replace h := h.2 q
    refine o_aload_n (k := 0) 0 (by decide +kernel) rfl ?_
    refine f_getR (r := 346) (t := 12) (k := 0) (i := 7) (by decide +kernel) sh_345 rfl (by decide) lk_1361 (by simp [x_ty, tyX12]) (gr_12_0 sh_345) ?_
    refine o_bipush (n := 6) (v := 6) (by decide +kernel) (by decide) ?_
    refine o_iconst (n := 0) (v := 0) (by decide +kernel) (by decide) ?_
    refine f_iast (k := 6) (by decide +kernel) sh_346 (by unfold vp_in; decide) (by decide) ?_
    refine f_name (fun t8 et8 => ?_)
    replace h := h t8 et8
    refine o_iconst (n := 0) (v := 0) (by decide +kernel) (by decide) ?_
    exact f_iret (ty := .int) rfl rfl (by decide +kernel) rfl h
