set_option maxRecDepth 20000 in
theorem e_X12_lost {d : Nat} {K : x_T → Int32 → Prop}  {τ : x_T} (h : x_CV d mX12_laysNow [.ref 345] τ (fun t1 => x_WI (d + 1) mX12_lost K 8 [(0, .ref 345), (1, .int 0), (2, .int 0)] [] t1)) : x_CI (d + 1) mX12_lost [.ref 345] τ K := by
  refine x_CI_of (by decide) (Nat.le_of_ble_eq_true rfl) ?_
  show x_WI (d + 1) mX12_lost K 0 [(0, .ref 345)] [] τ
  refine o_aload_n (k := 0) 0 (by decide +kernel) rfl ?_
  refine f_callVV (μ' := mX12_laysNow) (i := 396) (vs := []) (by decide +kernel) lk_1704 (vok_mX12_laysNow) sh_345 rfl rfl rfl rfl (Nat.le_of_ble_eq_true rfl) ?_
  refine x_CV.mono h (fun t1 h => ?_)
  refine o_iconst (n := 0) (v := 0) (by decide +kernel) (by decide) ?_
  refine o_istore_n (k := 1) (L' := [(1, .int 0), (0, .ref 345)]) (by decide +kernel) (by decide) rfl ?_
  refine o_iconst (n := 0) (v := 0) (by decide +kernel) (by decide) ?_
  refine o_istore_n (k := 2) (L' := [(2, .int 0), (1, .int 0), (0, .ref 345)]) (by decide +kernel) (by decide) rfl ?_
  refine o_sub [2, 1, 0] rfl ?_
  exact h
set_option maxRecDepth 20000 in
theorem k_X12_lost_8 {d : Nat} {K : x_T → Int32 → Prop} {v1 : Int32} {v2 : Int32} {τ : x_T} (h : (τ.1 346 0 ≤ v2 → K τ v1) ∧ (¬ τ.1 346 0 ≤ v2 → x_WI (d + 1) mX12_lost K 23 [(0, .ref 345), (1, .int v1), (2, .int v2), (3, .int 1), (4, .int 0)] [] τ)) : x_WI (d + 1) mX12_lost K 8 [(0, .ref 345), (1, .int v1), (2, .int v2)] [] τ := by
  refine o_iload_n (k := 2) 2 (by decide +kernel) rfl ?_
  refine o_aload_n (k := 0) 0 (by decide +kernel) rfl ?_
  refine f_getR (r := 346) (t := 12) (k := 0) (i := 7) (by decide +kernel) sh_345 rfl (by decide) lk_1361 (by simp [x_ty, tyX12]) (gr_12_0 sh_345) ?_
  refine o_iconst (n := 0) (v := 0) (by decide +kernel) (by decide) ?_
  refine f_iald (k := 0) (by decide +kernel) sh_346 (by unfold vp_in; decide) (by decide) ?_
  refine o_icmp_ge (off := 90) 105 (by decide +kernel) (by decide) (fun q => ?_) (fun q => ?_)
  · replace h := h.1 q
    refine o_iload_n (k := 1) 1 (by decide +kernel) rfl ?_
    exact f_iret (ty := .int) rfl rfl (by decide +kernel) rfl h
  · replace h := h.2 q
    refine o_iconst (n := 1) (v := 1) (by decide +kernel) (by decide) ?_
    refine o_istore_n (k := 3) (L' := [(3, .int 1), (0, .ref 345), (1, .int v1), (2, .int v2)]) (by decide +kernel) (by decide) rfl ?_
    refine o_iconst (n := 0) (v := 0) (by decide +kernel) (by decide) ?_
    refine o_istore (k := 4) (L' := [(4, .int 0), (3, .int 1), (0, .ref 345), (1, .int v1), (2, .int v2)]) (by decide +kernel) (by decide) rfl ?_
    refine o_sub [2, 3, 4, 1, 0] rfl ?_
    exact h
set_option maxRecDepth 20000 in
theorem k_X12_lost_23 {d : Nat} {K : x_T → Int32 → Prop} {v1 : Int32} {v2 : Int32} {v3 : Int32} {v4 : Int32} {τ : x_T} (h : (τ.1 346 6 ≤ v4 → (v3 = 0 → x_WI (d + 1) mX12_lost K 97 [(0, .ref 345), (2, .int v2)] [.int 0, .int v1] τ) ∧ (¬ v3 = 0 → x_WI (d + 1) mX12_lost K 97 [(0, .ref 345), (2, .int v2)] [.int (1 <<< (v2 &&& 31)), .int v1] τ)) ∧ (¬ τ.1 346 6 ≤ v4 → (v3 = 0 → x_WI (d + 1) mX12_lost K 77 [(0, .ref 345), (1, .int v1), (2, .int v2), (4, .int v4)] [] τ) ∧ (¬ v3 = 0 → vp_in (110 + (2 * v4)) 3670 ∧ (x_CI d mX12_warmOf [.ref 345, .int (τ.1 346 (110 + (2 * v4)).toNatClampNeg), .int v2] τ (fun t1 a2 => vp_in ((110 + (2 * v4)) + 1) 3670 ∧ ((¬ a2 = t1.1 346 ((110 + (2 * v4)) + 1).toNatClampNeg → x_WI (d + 1) mX12_lost K 77 [(0, .ref 345), (1, .int v1), (2, .int v2), (4, .int v4)] [] t1) ∧ (a2 = t1.1 346 ((110 + (2 * v4)) + 1).toNatClampNeg → x_WI (d + 1) mX12_lost K 78 [(0, .ref 345), (1, .int v1), (2, .int v2), (4, .int v4)] [.int 1] t1))))))) : x_WI (d + 1) mX12_lost K 23 [(0, .ref 345), (1, .int v1), (2, .int v2), (3, .int v3), (4, .int v4)] [] τ := by
  refine o_iload (k := 4) 4 (by decide +kernel) rfl ?_
  refine o_aload_n (k := 0) 0 (by decide +kernel) rfl ?_
  refine f_getR (r := 346) (t := 12) (k := 0) (i := 7) (by decide +kernel) sh_345 rfl (by decide) lk_1361 (by simp [x_ty, tyX12]) (gr_12_0 sh_345) ?_
  refine o_bipush (n := 6) (v := 6) (by decide +kernel) (by decide) ?_
  refine f_iald (k := 6) (by decide +kernel) sh_346 (by unfold vp_in; decide) (by decide) ?_
  refine o_icmp_ge (off := 53) 85 (by decide +kernel) (by decide) (fun q => ?_) (fun q => ?_)
  · replace h := h.1 q
    refine o_iload_n (k := 1) 1 (by decide +kernel) rfl ?_
    refine o_iload_n (k := 3) 3 (by decide +kernel) rfl ?_
    refine o_if_eq (off := 9) 96 (by decide +kernel) (by decide) (fun q => ?_) (fun q => ?_)
    · replace h := h.1 q
      refine o_iconst (n := 0) (v := 0) (by decide +kernel) (by decide) ?_
      refine o_sub [0, 2] rfl ?_
      exact h
    · replace h := h.2 q
      refine o_iconst (n := 1) (v := 1) (by decide +kernel) (by decide) ?_
      refine o_iload_n (k := 2) 2 (by decide +kernel) rfl ?_
      refine o_ishl (by decide +kernel) ?_
      refine o_goto (off := 4) 97 (by decide +kernel) (by decide) ?_
      refine o_sub [0, 2] rfl ?_
      exact h
  · replace h := h.2 q
    refine o_iload_n (k := 3) 3 (by decide +kernel) rfl ?_
    refine o_if_eq (off := 41) 77 (by decide +kernel) (by decide) (fun q => ?_) (fun q => ?_)
    · replace h := h.1 q
      refine o_sub [0, 1, 2, 4] rfl ?_
      exact h
    · replace h := h.2 q
      refine o_aload_n (k := 0) 0 (by decide +kernel) rfl ?_
      refine o_aload_n (k := 0) 0 (by decide +kernel) rfl ?_
      refine f_getR (r := 346) (t := 12) (k := 0) (i := 7) (by decide +kernel) sh_345 rfl (by decide) lk_1361 (by simp [x_ty, tyX12]) (gr_12_0 sh_345) ?_
      refine o_bipush (n := 110) (v := 110) (by decide +kernel) (by decide) ?_
      refine o_iconst (n := 2) (v := 2) (by decide +kernel) (by decide) ?_
      refine o_iload (k := 4) 4 (by decide +kernel) rfl ?_
      refine o_imul (by decide +kernel) ?_
      refine o_iadd (by decide +kernel) ?_
      obtain ⟨hi, h⟩ := h
      refine f_iald (by decide +kernel) sh_346 hi rfl ?_
      refine o_iload_n (k := 2) 2 (by decide +kernel) rfl ?_
      refine f_callVI (μ' := mX12_warmOf) (i := 451) (vs := [.int (τ.1 346 (110 + (2 * v4)).toNatClampNeg), .int v2]) (by decide +kernel) lk_1850 (vok_mX12_warmOf) sh_345 rfl rfl rfl rfl (Nat.le_of_ble_eq_true rfl) ?_
      refine x_CI.mono h (fun t1 a2 h => ?_)
      refine o_aload_n (k := 0) 0 (by decide +kernel) rfl ?_
      refine f_getR (r := 346) (t := 12) (k := 0) (i := 7) (by decide +kernel) sh_345 rfl (by decide) lk_1361 (by simp [x_ty, tyX12]) (gr_12_0 sh_345) ?_
      refine o_bipush (n := 110) (v := 110) (by decide +kernel) (by decide) ?_
      refine o_iconst (n := 2) (v := 2) (by decide +kernel) (by decide) ?_
      refine o_iload (k := 4) 4 (by decide +kernel) rfl ?_
      refine o_imul (by decide +kernel) ?_
      refine o_iadd (by decide +kernel) ?_
      refine o_iconst (n := 1) (v := 1) (by decide +kernel) (by decide) ?_
      refine o_iadd (by decide +kernel) ?_
      obtain ⟨hi, h⟩ := h
      refine f_iald (by decide +kernel) sh_346 hi rfl ?_
      refine o_icmp_ne (off := 7) 77 (by decide +kernel) (by decide) (fun q => ?_) (fun q => ?_)
      · replace h := h.1 q
        refine o_sub [0, 1, 2, 4] rfl ?_
        exact h
      · replace h := h.2 q
        refine o_iconst (n := 1) (v := 1) (by decide +kernel) (by decide) ?_
        refine o_goto (off := 4) 78 (by decide +kernel) (by decide) ?_
        refine o_sub [0, 1, 2, 4] rfl ?_
        exact h
set_option maxRecDepth 20000 in
theorem k_X12_lost_77 {d : Nat} {K : x_T → Int32 → Prop} {v1 : Int32} {v2 : Int32} {v4 : Int32} {τ : x_T} (h : x_WI (d + 1) mX12_lost K 78 [(0, .ref 345), (1, .int v1), (2, .int v2), (4, .int v4)] [.int 0] τ) : x_WI (d + 1) mX12_lost K 77 [(0, .ref 345), (1, .int v1), (2, .int v2), (4, .int v4)] [] τ := by
  refine o_iconst (n := 0) (v := 0) (by decide +kernel) (by decide) ?_
  exact h
set_option maxRecDepth 20000 in
theorem k_X12_lost_78 {d : Nat} {K : x_T → Int32 → Prop} {v1 : Int32} {v2 : Int32} {v4 : Int32} {s0 : Int32} {τ : x_T} (h : ∀ y1, y1 = v4 + 1 → (x_WI (d + 1) mX12_lost K 23 [(0, .ref 345), (1, .int v1), (2, .int v2), (3, .int s0), (4, .int y1)] [] τ)) : x_WI (d + 1) mX12_lost K 78 [(0, .ref 345), (1, .int v1), (2, .int v2), (4, .int v4)] [.int s0] τ := by
  refine o_istore_n (k := 3) (L' := [(3, .int s0), (0, .ref 345), (1, .int v1), (2, .int v2), (4, .int v4)]) (by decide +kernel) (by decide) rfl ?_
  obtain ⟨y1, ey1⟩ : ∃ y : Int32, y = v4 + 1 := ⟨_, rfl⟩
  replace h := h y1 ey1
  refine o_iinc (i := 4) (n := 1) (v := y1) (L' := [(4, .int y1), (3, .int s0), (0, .ref 345), (1, .int v1), (2, .int v2)]) 4 (by decide +kernel) rfl (by rw [ey1]; rfl) (by decide) rfl ?_
  refine o_goto (off := -59) 23 (by decide +kernel) (by decide) ?_
  refine o_sub [2, 3, 4, 1, 0] rfl ?_
  exact h
set_option maxRecDepth 20000 in
theorem k_X12_lost_97 {d : Nat} {K : x_T → Int32 → Prop} {v2 : Int32} {s0 : Int32} {s1 : Int32} {τ : x_T} (h : ∀ y1, y1 = s1 ||| s0 → (∀ y2, y2 = v2 + 1 → (x_WI (d + 1) mX12_lost K 8 [(0, .ref 345), (1, .int y1), (2, .int y2)] [] τ))) : x_WI (d + 1) mX12_lost K 97 [(0, .ref 345), (2, .int v2)] [.int s0, .int s1] τ := by
  refine o_ior (by decide +kernel) ?_
  refine o_name (fun y1 ey1 => ?_)
  replace h := h y1 ey1
  refine o_istore_n (k := 1) (L' := [(1, .int y1), (0, .ref 345), (2, .int v2)]) (by decide +kernel) (by decide) rfl ?_
  obtain ⟨y2, ey2⟩ : ∃ y : Int32, y = v2 + 1 := ⟨_, rfl⟩
  replace h := h y2 ey2
  refine o_iinc (i := 2) (n := 1) (v := y2) (L' := [(2, .int y2), (1, .int y1), (0, .ref 345)]) 2 (by decide +kernel) rfl (by rw [ey2]; rfl) (by decide) rfl ?_
  refine o_goto (off := -94) 8 (by decide +kernel) (by decide) ?_
  refine o_sub [2, 1, 0] rfl ?_
  exact h
set_option maxRecDepth 20000 in
theorem e_X12_answersAt {d : Nat} {K : x_T → Int32 → Prop} {v1 : Int32} {v2 : Int32} {τ : x_T} (h : x_WI (d + 1) mX12_answersAt K 5 [(0, .ref 345), (1, .int v1), (2, .int v2), (3, .int 0), (4, .int 0)] [] τ) : x_CI (d + 1) mX12_answersAt [.ref 345, .int v1, .int v2] τ K := by
  refine x_CI_of (by decide) (Nat.le_of_ble_eq_true rfl) ?_
  show x_WI (d + 1) mX12_answersAt K 0 [(0, .ref 345), (1, .int v1), (2, .int v2)] [] τ
  refine o_iconst (n := 0) (v := 0) (by decide +kernel) (by decide) ?_
  refine o_istore_n (k := 3) (L' := [(3, .int 0), (0, .ref 345), (1, .int v1), (2, .int v2)]) (by decide +kernel) (by decide) rfl ?_
  refine o_iconst (n := 0) (v := 0) (by decide +kernel) (by decide) ?_
  refine o_istore (k := 4) (L' := [(4, .int 0), (3, .int 0), (0, .ref 345), (1, .int v1), (2, .int v2)]) (by decide +kernel) (by decide) rfl ?_
  refine o_sub [2, 3, 4, 1, 0] rfl ?_
  exact h
set_option maxRecDepth 20000 in
theorem k_X12_answersAt_5 {d : Nat} {K : x_T → Int32 → Prop} {v1 : Int32} {v2 : Int32} {v3 : Int32} {v4 : Int32} {τ : x_T} (h : (τ.1 346 0 ≤ v4 → K τ v3) ∧ (¬ τ.1 346 0 ≤ v4 → x_CI d mX12_has [.int v2, .int v4] τ (fun t1 a2 => x_WI (d + 1) mX12_answersAt K 27 [(0, .ref 345), (1, .int v1), (2, .int v2), (3, .int v3), (4, .int v4), (5, .int a2), (6, .int 0)] [] t1))) : x_WI (d + 1) mX12_answersAt K 5 [(0, .ref 345), (1, .int v1), (2, .int v2), (3, .int v3), (4, .int v4)] [] τ := by
  refine o_iload (k := 4) 4 (by decide +kernel) rfl ?_
  refine o_aload_n (k := 0) 0 (by decide +kernel) rfl ?_
  refine f_getR (r := 346) (t := 12) (k := 0) (i := 7) (by decide +kernel) sh_345 rfl (by decide) lk_1361 (by simp [x_ty, tyX12]) (gr_12_0 sh_345) ?_
  refine o_iconst (n := 0) (v := 0) (by decide +kernel) (by decide) ?_
  refine f_iald (k := 0) (by decide +kernel) sh_346 (by unfold vp_in; decide) (by decide) ?_
  refine o_icmp_ge (off := 84) 97 (by decide +kernel) (by decide) (fun q => ?_) (fun q => ?_)
  · replace h := h.1 q
    refine o_iload_n (k := 3) 3 (by decide +kernel) rfl ?_
    exact f_iret (ty := .int) rfl rfl (by decide +kernel) rfl h
  · replace h := h.2 q
    refine o_iload_n (k := 2) 2 (by decide +kernel) rfl ?_
    refine o_iload (k := 4) 4 (by decide +kernel) rfl ?_
    refine f_callSI (μ' := mX12_has) (i := 470) (vs := [.int v2, .int v4]) (by decide +kernel) lk_1919 (cok_mX12_has) rfl (stt_mX12_has) rfl rfl (Nat.le_of_ble_eq_true rfl) ?_
    refine x_CI.mono h (fun t1 a2 h => ?_)
    refine o_istore (k := 5) (L' := [(5, .int a2), (0, .ref 345), (1, .int v1), (2, .int v2), (3, .int v3), (4, .int v4)]) (by decide +kernel) (by decide) rfl ?_
    refine o_iconst (n := 0) (v := 0) (by decide +kernel) (by decide) ?_
    refine o_istore (k := 6) (L' := [(6, .int 0), (5, .int a2), (0, .ref 345), (1, .int v1), (2, .int v2), (3, .int v3), (4, .int v4)]) (by decide +kernel) (by decide) rfl ?_
    refine o_sub [2, 3, 4, 5, 6, 1, 0] rfl ?_
    exact h
set_option maxRecDepth 20000 in
theorem k_X12_answersAt_27 {d : Nat} {K : x_T → Int32 → Prop} {v1 : Int32} {v2 : Int32} {v3 : Int32} {v4 : Int32} {v5 : Int32} {v6 : Int32} {τ : x_T} (h : (v4 ≤ v6 → (v5 = 0 → x_WI (d + 1) mX12_answersAt K 89 [(0, .ref 345), (1, .int v1), (2, .int v2), (4, .int v4)] [.int 0, .int v3] τ) ∧ (¬ v5 = 0 → x_WI (d + 1) mX12_answersAt K 89 [(0, .ref 345), (1, .int v1), (2, .int v2), (4, .int v4)] [.int 1, .int v3] τ)) ∧ (¬ v4 ≤ v6 → (v5 = 0 → x_WI (d + 1) mX12_answersAt K 69 [(0, .ref 345), (1, .int v1), (2, .int v2), (3, .int v3), (4, .int v4), (6, .int v6)] [] τ) ∧ (¬ v5 = 0 → x_CI d mX12_has [.int v2, .int v6] τ (fun t1 a2 => (a2 = 0 → x_WI (d + 1) mX12_answersAt K 65 [(0, .ref 345), (1, .int v1), (2, .int v2), (3, .int v3), (4, .int v4), (6, .int v6)] [] t1) ∧ (¬ a2 = 0 → x_CI d mX12_warmOf [.ref 345, .int v1, .int v6] t1 (fun t3 a4 => x_CI d mX12_warmOf [.ref 345, .int v1, .int v4] t3 (fun t5 a6 => (a4 = a6 → x_WI (d + 1) mX12_answersAt K 69 [(0, .ref 345), (1, .int v1), (2, .int v2), (3, .int v3), (4, .int v4), (6, .int v6)] [] t5) ∧ (¬ a4 = a6 → x_WI (d + 1) mX12_answersAt K 65 [(0, .ref 345), (1, .int v1), (2, .int v2), (3, .int v3), (4, .int v4), (6, .int v6)] [] t5)))))))) : x_WI (d + 1) mX12_answersAt K 27 [(0, .ref 345), (1, .int v1), (2, .int v2), (3, .int v3), (4, .int v4), (5, .int v5), (6, .int v6)] [] τ := by
  refine o_iload (k := 6) 6 (by decide +kernel) rfl ?_
  refine o_iload (k := 4) 4 (by decide +kernel) rfl ?_
  refine o_icmp_ge (off := 47) 78 (by decide +kernel) (by decide) (fun q => ?_) (fun q => ?_)
  · replace h := h.1 q
    refine o_iload_n (k := 3) 3 (by decide +kernel) rfl ?_
    refine o_iload (k := 5) 5 (by decide +kernel) rfl ?_
    refine o_if_eq (off := 7) 88 (by decide +kernel) (by decide) (fun q => ?_) (fun q => ?_)
    · replace h := h.1 q
      refine o_iconst (n := 0) (v := 0) (by decide +kernel) (by decide) ?_
      refine o_sub [0, 1, 2, 4] rfl ?_
      exact h
    · replace h := h.2 q
      refine o_iconst (n := 1) (v := 1) (by decide +kernel) (by decide) ?_
      refine o_goto (off := 4) 89 (by decide +kernel) (by decide) ?_
      refine o_sub [0, 1, 2, 4] rfl ?_
      exact h
  · replace h := h.2 q
    refine o_iload (k := 5) 5 (by decide +kernel) rfl ?_
    refine o_if_eq (off := 33) 69 (by decide +kernel) (by decide) (fun q => ?_) (fun q => ?_)
    · replace h := h.1 q
      refine o_sub [0, 1, 2, 3, 4, 6] rfl ?_
      exact h
    · replace h := h.2 q
      refine o_iload_n (k := 2) 2 (by decide +kernel) rfl ?_
      refine o_iload (k := 6) 6 (by decide +kernel) rfl ?_
      refine f_callSI (μ' := mX12_has) (i := 470) (vs := [.int v2, .int v6]) (by decide +kernel) lk_1919 (cok_mX12_has) rfl (stt_mX12_has) rfl rfl (Nat.le_of_ble_eq_true rfl) ?_
      refine x_CI.mono h (fun t1 a2 h => ?_)
      refine o_if_eq (off := 20) 65 (by decide +kernel) (by decide) (fun q => ?_) (fun q => ?_)
      · replace h := h.1 q
        refine o_sub [0, 1, 2, 3, 4, 6] rfl ?_
        exact h
      · replace h := h.2 q
        refine o_aload_n (k := 0) 0 (by decide +kernel) rfl ?_
        refine o_iload_n (k := 1) 1 (by decide +kernel) rfl ?_
        refine o_iload (k := 6) 6 (by decide +kernel) rfl ?_
        refine f_callVI (μ' := mX12_warmOf) (i := 451) (vs := [.int v1, .int v6]) (by decide +kernel) lk_1850 (vok_mX12_warmOf) sh_345 rfl rfl rfl rfl (Nat.le_of_ble_eq_true rfl) ?_
        refine x_CI.mono h (fun t3 a4 h => ?_)
        refine o_aload_n (k := 0) 0 (by decide +kernel) rfl ?_
        refine o_iload_n (k := 1) 1 (by decide +kernel) rfl ?_
        refine o_iload (k := 4) 4 (by decide +kernel) rfl ?_
        refine f_callVI (μ' := mX12_warmOf) (i := 451) (vs := [.int v1, .int v4]) (by decide +kernel) lk_1850 (vok_mX12_warmOf) sh_345 rfl rfl rfl rfl (Nat.le_of_ble_eq_true rfl) ?_
        refine x_CI.mono h (fun t5 a6 h => ?_)
        refine o_icmp_eq (off := 7) 69 (by decide +kernel) (by decide) (fun q => ?_) (fun q => ?_)
        · replace h := h.1 q
          refine o_sub [0, 1, 2, 3, 4, 6] rfl ?_
          exact h
        · replace h := h.2 q
          refine o_sub [0, 1, 2, 3, 4, 6] rfl ?_
          exact h
set_option maxRecDepth 20000 in
theorem k_X12_answersAt_65 {d : Nat} {K : x_T → Int32 → Prop} {v1 : Int32} {v2 : Int32} {v3 : Int32} {v4 : Int32} {v6 : Int32} {τ : x_T} (h : x_WI (d + 1) mX12_answersAt K 70 [(0, .ref 345), (1, .int v1), (2, .int v2), (3, .int v3), (4, .int v4), (6, .int v6)] [.int 1] τ) : x_WI (d + 1) mX12_answersAt K 65 [(0, .ref 345), (1, .int v1), (2, .int v2), (3, .int v3), (4, .int v4), (6, .int v6)] [] τ := by
  refine o_iconst (n := 1) (v := 1) (by decide +kernel) (by decide) ?_
  refine o_goto (off := 4) 70 (by decide +kernel) (by decide) ?_
  exact h
set_option maxRecDepth 20000 in
theorem k_X12_answersAt_69 {d : Nat} {K : x_T → Int32 → Prop} {v1 : Int32} {v2 : Int32} {v3 : Int32} {v4 : Int32} {v6 : Int32} {τ : x_T} (h : x_WI (d + 1) mX12_answersAt K 70 [(0, .ref 345), (1, .int v1), (2, .int v2), (3, .int v3), (4, .int v4), (6, .int v6)] [.int 0] τ) : x_WI (d + 1) mX12_answersAt K 69 [(0, .ref 345), (1, .int v1), (2, .int v2), (3, .int v3), (4, .int v4), (6, .int v6)] [] τ := by
  refine o_iconst (n := 0) (v := 0) (by decide +kernel) (by decide) ?_
  exact h
set_option maxRecDepth 20000 in
theorem k_X12_answersAt_70 {d : Nat} {K : x_T → Int32 → Prop} {v1 : Int32} {v2 : Int32} {v3 : Int32} {v4 : Int32} {v6 : Int32} {s0 : Int32} {τ : x_T} (h : ∀ y1, y1 = v6 + 1 → (x_WI (d + 1) mX12_answersAt K 27 [(0, .ref 345), (1, .int v1), (2, .int v2), (3, .int v3), (4, .int v4), (5, .int s0), (6, .int y1)] [] τ)) : x_WI (d + 1) mX12_answersAt K 70 [(0, .ref 345), (1, .int v1), (2, .int v2), (3, .int v3), (4, .int v4), (6, .int v6)] [.int s0] τ := by
  refine o_istore (k := 5) (L' := [(5, .int s0), (0, .ref 345), (1, .int v1), (2, .int v2), (3, .int v3), (4, .int v4), (6, .int v6)]) (by decide +kernel) (by decide) rfl ?_
  obtain ⟨y1, ey1⟩ : ∃ y : Int32, y = v6 + 1 := ⟨_, rfl⟩
  replace h := h y1 ey1
  refine o_iinc (i := 6) (n := 1) (v := y1) (L' := [(6, .int y1), (5, .int s0), (0, .ref 345), (1, .int v1), (2, .int v2), (3, .int v3), (4, .int v4)]) 6 (by decide +kernel) rfl (by rw [ey1]; rfl) (by decide) rfl ?_
  refine o_goto (off := -48) 27 (by decide +kernel) (by decide) ?_
  refine o_sub [2, 3, 4, 5, 6, 1, 0] rfl ?_
  exact h
set_option maxRecDepth 20000 in
theorem k_X12_answersAt_89 {d : Nat} {K : x_T → Int32 → Prop} {v1 : Int32} {v2 : Int32} {v4 : Int32} {s0 : Int32} {s1 : Int32} {τ : x_T} (h : ∀ y1, y1 = s1 + s0 → (∀ y2, y2 = v4 + 1 → (x_WI (d + 1) mX12_answersAt K 5 [(0, .ref 345), (1, .int v1), (2, .int v2), (3, .int y1), (4, .int y2)] [] τ))) : x_WI (d + 1) mX12_answersAt K 89 [(0, .ref 345), (1, .int v1), (2, .int v2), (4, .int v4)] [.int s0, .int s1] τ := by
  refine o_iadd (by decide +kernel) ?_
  refine o_name (fun y1 ey1 => ?_)
  replace h := h y1 ey1
  refine o_istore_n (k := 3) (L' := [(3, .int y1), (0, .ref 345), (1, .int v1), (2, .int v2), (4, .int v4)]) (by decide +kernel) (by decide) rfl ?_
  obtain ⟨y2, ey2⟩ : ∃ y : Int32, y = v4 + 1 := ⟨_, rfl⟩
  replace h := h y2 ey2
  refine o_iinc (i := 4) (n := 1) (v := y2) (L' := [(4, .int y2), (3, .int y1), (0, .ref 345), (1, .int v1), (2, .int v2)]) 4 (by decide +kernel) rfl (by rw [ey2]; rfl) (by decide) rfl ?_
  refine o_goto (off := -89) 5 (by decide +kernel) (by decide) ?_
  refine o_sub [2, 3, 4, 1, 0] rfl ?_
  exact h
set_option maxRecDepth 20000 in
theorem e_X12_yard {d : Nat} {K : x_T → Int32 → Prop}  {τ : x_T} (h : x_CI d mX12_lost [.ref 345] τ (fun t1 a2 => (¬ a2 = 0 → x_WI (d + 1) mX12_yard K 15 [(0, .ref 345), (1, .int a2), (2, .int 0), (3, .int 1)] [] t1) ∧ (a2 = 0 → K t1 (-1)))) : x_CI (d + 1) mX12_yard [.ref 345] τ K := by
  refine x_CI_of (by decide) (Nat.le_of_ble_eq_true rfl) ?_
  show x_WI (d + 1) mX12_yard K 0 [(0, .ref 345)] [] τ
  refine o_aload_n (k := 0) 0 (by decide +kernel) rfl ?_
  refine f_callVI (μ' := mX12_lost) (i := 476) (vs := []) (by decide +kernel) lk_1946 (vok_mX12_lost) sh_345 rfl rfl rfl rfl (Nat.le_of_ble_eq_true rfl) ?_
  refine x_CI.mono h (fun t1 a2 h => ?_)
  refine o_istore_n (k := 1) (L' := [(1, .int a2), (0, .ref 345)]) (by decide +kernel) (by decide) rfl ?_
  refine o_iload_n (k := 1) 0 (by decide +kernel) rfl ?_
  refine o_if_ne (off := 5) 11 (by decide +kernel) (by decide) (fun q => ?_) (fun q => ?_)
  · replace h := h.1 q
    refine o_iconst (n := 0) (v := 0) (by decide +kernel) (by decide) ?_
    refine o_istore_n (k := 2) (L' := [(2, .int 0), (1, .int a2), (0, .ref 345)]) (by decide +kernel) (by decide) rfl ?_
    refine o_iconst (n := 1) (v := 1) (by decide +kernel) (by decide) ?_
    refine o_istore_n (k := 3) (L' := [(3, .int 1), (2, .int 0), (1, .int a2), (0, .ref 345)]) (by decide +kernel) (by decide) rfl ?_
    refine o_sub [3, 2, 1, 0] rfl ?_
    exact h
  · replace h := h.2 q
    refine o_iconst (n := -1) (v := (-1)) (by decide +kernel) (by decide) ?_
    exact f_iret (ty := .int) rfl rfl (by decide +kernel) rfl h
set_option maxRecDepth 20000 in
theorem k_X12_yard_15 {d : Nat} {K : x_T → Int32 → Prop} {v1 : Int32} {v2 : Int32} {v3 : Int32} {τ : x_T} (h : (τ.1 346 0 ≤ v3 → K τ v2) ∧ (¬ τ.1 346 0 ≤ v3 → x_CI d mX12_answersAt [.ref 345, .int v3, .int v1] τ (fun t1 a2 => x_CI d mX12_answersAt [.ref 345, .int v2, .int v1] t1 (fun t3 a4 => (a2 ≤ a4 → x_WI (d + 1) mX12_yard K 45 [(0, .ref 345), (1, .int v1), (3, .int v3)] [.int v2] t3) ∧ (¬ a2 ≤ a4 → x_WI (d + 1) mX12_yard K 45 [(0, .ref 345), (1, .int v1), (3, .int v3)] [.int v3] t3))))) : x_WI (d + 1) mX12_yard K 15 [(0, .ref 345), (1, .int v1), (2, .int v2), (3, .int v3)] [] τ := by
  refine o_iload_n (k := 3) 3 (by decide +kernel) rfl ?_
  refine o_aload_n (k := 0) 0 (by decide +kernel) rfl ?_
  refine f_getR (r := 346) (t := 12) (k := 0) (i := 7) (by decide +kernel) sh_345 rfl (by decide) lk_1361 (by simp [x_ty, tyX12]) (gr_12_0 sh_345) ?_
  refine o_iconst (n := 0) (v := 0) (by decide +kernel) (by decide) ?_
  refine f_iald (k := 0) (by decide +kernel) sh_346 (by unfold vp_in; decide) (by decide) ?_
  refine o_icmp_ge (off := 30) 52 (by decide +kernel) (by decide) (fun q => ?_) (fun q => ?_)
  · replace h := h.1 q
    refine o_iload_n (k := 2) 2 (by decide +kernel) rfl ?_
    exact f_iret (ty := .int) rfl rfl (by decide +kernel) rfl h
  · replace h := h.2 q
    refine o_aload_n (k := 0) 0 (by decide +kernel) rfl ?_
    refine o_iload_n (k := 3) 3 (by decide +kernel) rfl ?_
    refine o_iload_n (k := 1) 1 (by decide +kernel) rfl ?_
    refine f_callVI (μ' := mX12_answersAt) (i := 479) (vs := [.int v3, .int v1]) (by decide +kernel) lk_1947 (vok_mX12_answersAt) sh_345 rfl rfl rfl rfl (Nat.le_of_ble_eq_true rfl) ?_
    refine x_CI.mono h (fun t1 a2 h => ?_)
    refine o_aload_n (k := 0) 0 (by decide +kernel) rfl ?_
    refine o_iload_n (k := 2) 2 (by decide +kernel) rfl ?_
    refine o_iload_n (k := 1) 1 (by decide +kernel) rfl ?_
    refine f_callVI (μ' := mX12_answersAt) (i := 479) (vs := [.int v2, .int v1]) (by decide +kernel) lk_1947 (vok_mX12_answersAt) sh_345 rfl rfl rfl rfl (Nat.le_of_ble_eq_true rfl) ?_
    refine x_CI.mono h (fun t3 a4 h => ?_)
    refine o_icmp_le (off := 7) 44 (by decide +kernel) (by decide) (fun q => ?_) (fun q => ?_)
    · replace h := h.1 q
      refine o_iload_n (k := 2) 2 (by decide +kernel) rfl ?_
      refine o_sub [0, 1, 3] rfl ?_
      exact h
    · replace h := h.2 q
      refine o_iload_n (k := 3) 3 (by decide +kernel) rfl ?_
      refine o_goto (off := 4) 45 (by decide +kernel) (by decide) ?_
      refine o_sub [0, 1, 3] rfl ?_
      exact h
set_option maxRecDepth 20000 in
theorem k_X12_yard_45 {d : Nat} {K : x_T → Int32 → Prop} {v1 : Int32} {v3 : Int32} {s0 : Int32} {τ : x_T} (h : ∀ y1, y1 = v3 + 1 → (x_WI (d + 1) mX12_yard K 15 [(0, .ref 345), (1, .int v1), (2, .int s0), (3, .int y1)] [] τ)) : x_WI (d + 1) mX12_yard K 45 [(0, .ref 345), (1, .int v1), (3, .int v3)] [.int s0] τ := by
  refine o_istore_n (k := 2) (L' := [(2, .int s0), (0, .ref 345), (1, .int v1), (3, .int v3)]) (by decide +kernel) (by decide) rfl ?_
  obtain ⟨y1, ey1⟩ : ∃ y : Int32, y = v3 + 1 := ⟨_, rfl⟩
  replace h := h y1 ey1
  refine o_iinc (i := 3) (n := 1) (v := y1) (L' := [(3, .int y1), (2, .int s0), (0, .ref 345), (1, .int v1)]) 3 (by decide +kernel) rfl (by rw [ey1]; rfl) (by decide) rfl ?_
  refine o_goto (off := -34) 15 (by decide +kernel) (by decide) ?_
  refine o_sub [2, 3, 1, 0] rfl ?_
  exact h
set_option maxRecDepth 20000 in
theorem e_X12_thieves {d : Nat} {K : x_T → Int32 → Prop}  {τ : x_T} (h : x_CV d mX12_laysNow [.ref 345] τ (fun t1 => x_WI (d + 1) mX12_thieves K 8 [(0, .ref 345), (1, .int (-1)), (2, .int 0)] [] t1)) : x_CI (d + 1) mX12_thieves [.ref 345] τ K := by
  refine x_CI_of (by decide) (Nat.le_of_ble_eq_true rfl) ?_
  show x_WI (d + 1) mX12_thieves K 0 [(0, .ref 345)] [] τ
  refine o_aload_n (k := 0) 0 (by decide +kernel) rfl ?_
  refine f_callVV (μ' := mX12_laysNow) (i := 396) (vs := []) (by decide +kernel) lk_1704 (vok_mX12_laysNow) sh_345 rfl rfl rfl rfl (Nat.le_of_ble_eq_true rfl) ?_
  refine x_CV.mono h (fun t1 h => ?_)
  refine o_iconst (n := -1) (v := (-1)) (by decide +kernel) (by decide) ?_
  refine o_istore_n (k := 1) (L' := [(1, .int (-1)), (0, .ref 345)]) (by decide +kernel) (by decide) rfl ?_
  refine o_iconst (n := 0) (v := 0) (by decide +kernel) (by decide) ?_
  refine o_istore_n (k := 2) (L' := [(2, .int 0), (1, .int (-1)), (0, .ref 345)]) (by decide +kernel) (by decide) rfl ?_
  refine o_sub [2, 1, 0] rfl ?_
  exact h
set_option maxRecDepth 20000 in
theorem k_X12_thieves_8 {d : Nat} {K : x_T → Int32 → Prop} {v1 : Int32} {v2 : Int32} {τ : x_T} (h : (τ.1 346 0 ≤ v2 → K τ v1) ∧ (¬ τ.1 346 0 ≤ v2 → (v1 = (-1) → x_WI (d + 1) mX12_thieves K 58 [(0, .ref 345), (2, .int v2)] [] τ) ∧ (¬ v1 = (-1) → x_CI d mX12_hourAt [.ref 345, .int v2, .int (τ.1 370 0)] τ (fun t1 a2 => x_CI d mX12_away [.int a2, .int 12] t1 (fun t3 a4 => x_CI d mX12_hourAt [.ref 345, .int v1, .int (t3.1 370 0)] t3 (fun t5 a6 => x_CI d mX12_away [.int a6, .int 12] t5 (fun t7 a8 => (a4 ≤ a8 → x_WI (d + 1) mX12_thieves K 63 [(0, .ref 345), (2, .int v2)] [.int v1] t7) ∧ (¬ a4 ≤ a8 → x_WI (d + 1) mX12_thieves K 58 [(0, .ref 345), (2, .int v2)] [] t7)))))))) : x_WI (d + 1) mX12_thieves K 8 [(0, .ref 345), (1, .int v1), (2, .int v2)] [] τ := by
  refine o_iload_n (k := 2) 2 (by decide +kernel) rfl ?_
  refine o_aload_n (k := 0) 0 (by decide +kernel) rfl ?_
  refine f_getR (r := 346) (t := 12) (k := 0) (i := 7) (by decide +kernel) sh_345 rfl (by decide) lk_1361 (by simp [x_ty, tyX12]) (gr_12_0 sh_345) ?_
  refine o_iconst (n := 0) (v := 0) (by decide +kernel) (by decide) ?_
  refine f_iald (k := 0) (by decide +kernel) sh_346 (by unfold vp_in; decide) (by decide) ?_
  refine o_icmp_ge (off := 55) 70 (by decide +kernel) (by decide) (fun q => ?_) (fun q => ?_)
  · replace h := h.1 q
    refine o_iload_n (k := 1) 1 (by decide +kernel) rfl ?_
    exact f_iret (ty := .int) rfl rfl (by decide +kernel) rfl h
  · replace h := h.2 q
    refine o_iload_n (k := 1) 1 (by decide +kernel) rfl ?_
    refine o_iconst (n := -1) (v := (-1)) (by decide +kernel) (by decide) ?_
    refine o_icmp_eq (off := 38) 58 (by decide +kernel) (by decide) (fun q => ?_) (fun q => ?_)
    · replace h := h.1 q
      refine o_sub [0, 2] rfl ?_
      exact h
    · replace h := h.2 q
      refine o_aload_n (k := 0) 0 (by decide +kernel) rfl ?_
      refine o_iload_n (k := 2) 2 (by decide +kernel) rfl ?_
      refine o_aload_n (k := 0) 0 (by decide +kernel) rfl ?_
      refine f_getR (r := 370) (t := 12) (k := 41) (i := 90) (by decide +kernel) sh_345 rfl (by decide) lk_1402 (by simp [x_ty, tyX12]) (gr_12_41 sh_345) ?_
      refine o_iconst (n := 0) (v := 0) (by decide +kernel) (by decide) ?_
      refine f_iald (k := 0) (by decide +kernel) sh_370 (by unfold vp_in; decide) (by decide) ?_
      refine f_callVI (μ' := mX12_hourAt) (i := 372) (vs := [.int v2, .int (τ.1 370 0)]) (by decide +kernel) lk_1797 (vok_mX12_hourAt) sh_345 rfl rfl rfl rfl (Nat.le_of_ble_eq_true rfl) ?_
      refine x_CI.mono h (fun t1 a2 h => ?_)
      refine o_bipush (n := 12) (v := 12) (by decide +kernel) (by decide) ?_
      refine f_callSI (μ' := mX12_away) (i := 375) (vs := [.int a2, .int 12]) (by decide +kernel) lk_1804 (cok_mX12_away) rfl (stt_mX12_away) rfl rfl (Nat.le_of_ble_eq_true rfl) ?_
      refine x_CI.mono h (fun t3 a4 h => ?_)
      refine o_aload_n (k := 0) 0 (by decide +kernel) rfl ?_
      refine o_iload_n (k := 1) 1 (by decide +kernel) rfl ?_
      refine o_aload_n (k := 0) 0 (by decide +kernel) rfl ?_
      refine f_getR (r := 370) (t := 12) (k := 41) (i := 90) (by decide +kernel) sh_345 rfl (by decide) lk_1402 (by simp [x_ty, tyX12]) (gr_12_41 sh_345) ?_
      refine o_iconst (n := 0) (v := 0) (by decide +kernel) (by decide) ?_
      refine f_iald (k := 0) (by decide +kernel) sh_370 (by unfold vp_in; decide) (by decide) ?_
      refine f_callVI (μ' := mX12_hourAt) (i := 372) (vs := [.int v1, .int (t3.1 370 0)]) (by decide +kernel) lk_1797 (vok_mX12_hourAt) sh_345 rfl rfl rfl rfl (Nat.le_of_ble_eq_true rfl) ?_
      refine x_CI.mono h (fun t5 a6 h => ?_)
      refine o_bipush (n := 12) (v := 12) (by decide +kernel) (by decide) ?_
      refine f_callSI (μ' := mX12_away) (i := 375) (vs := [.int a6, .int 12]) (by decide +kernel) lk_1804 (cok_mX12_away) rfl (stt_mX12_away) rfl rfl (Nat.le_of_ble_eq_true rfl) ?_
      refine x_CI.mono h (fun t7 a8 h => ?_)
      refine o_icmp_le (off := 7) 62 (by decide +kernel) (by decide) (fun q => ?_) (fun q => ?_)
      · replace h := h.1 q
        refine o_iload_n (k := 1) 1 (by decide +kernel) rfl ?_
        refine o_sub [0, 2] rfl ?_
        exact h
      · replace h := h.2 q
        refine o_sub [0, 2] rfl ?_
        exact h
set_option maxRecDepth 20000 in
theorem k_X12_thieves_58 {d : Nat} {K : x_T → Int32 → Prop} {v2 : Int32} {τ : x_T} (h : x_WI (d + 1) mX12_thieves K 63 [(0, .ref 345), (2, .int v2)] [.int v2] τ) : x_WI (d + 1) mX12_thieves K 58 [(0, .ref 345), (2, .int v2)] [] τ := by
  refine o_iload_n (k := 2) 1 (by decide +kernel) rfl ?_
  refine o_goto (off := 4) 63 (by decide +kernel) (by decide) ?_
  exact h
set_option maxRecDepth 20000 in
theorem k_X12_thieves_63 {d : Nat} {K : x_T → Int32 → Prop} {v2 : Int32} {s0 : Int32} {τ : x_T} (h : ∀ y1, y1 = v2 + 1 → (x_WI (d + 1) mX12_thieves K 8 [(0, .ref 345), (1, .int s0), (2, .int y1)] [] τ)) : x_WI (d + 1) mX12_thieves K 63 [(0, .ref 345), (2, .int v2)] [.int s0] τ := by
  refine o_istore_n (k := 1) (L' := [(1, .int s0), (0, .ref 345), (2, .int v2)]) (by decide +kernel) (by decide) rfl ?_
  obtain ⟨y1, ey1⟩ : ∃ y : Int32, y = v2 + 1 := ⟨_, rfl⟩
  replace h := h y1 ey1
  refine o_iinc (i := 2) (n := 1) (v := y1) (L' := [(2, .int y1), (1, .int s0), (0, .ref 345)]) 2 (by decide +kernel) rfl (by rw [ey1]; rfl) (by decide) rfl ?_
  refine o_goto (off := -59) 8 (by decide +kernel) (by decide) ?_
  refine o_sub [2, 1, 0] rfl ?_
  exact h
set_option maxRecDepth 20000 in
theorem e_X12_watchedBy {d : Nat} {K : x_T → Int32 → Prop} {v1 : Int32} {v2 : Int32} {τ : x_T} (h : x_WI (d + 1) mX12_watchedBy K 5 [(0, .ref 345), (1, .int v1), (2, .int v2), (3, .int 0), (4, .int 0)] [] τ) : x_CI (d + 1) mX12_watchedBy [.ref 345, .int v1, .int v2] τ K := by
  refine x_CI_of (by decide) (Nat.le_of_ble_eq_true rfl) ?_
  show x_WI (d + 1) mX12_watchedBy K 0 [(0, .ref 345), (1, .int v1), (2, .int v2)] [] τ
  refine o_iconst (n := 0) (v := 0) (by decide +kernel) (by decide) ?_
  refine o_istore_n (k := 3) (L' := [(3, .int 0), (0, .ref 345), (1, .int v1), (2, .int v2)]) (by decide +kernel) (by decide) rfl ?_
  refine o_iconst (n := 0) (v := 0) (by decide +kernel) (by decide) ?_
  refine o_istore (k := 4) (L' := [(4, .int 0), (3, .int 0), (0, .ref 345), (1, .int v1), (2, .int v2)]) (by decide +kernel) (by decide) rfl ?_
  refine o_sub [2, 3, 4, 1, 0] rfl ?_
  exact h
set_option maxRecDepth 20000 in
theorem k_X12_watchedBy_5 {d : Nat} {K : x_T → Int32 → Prop} {v1 : Int32} {v2 : Int32} {v3 : Int32} {v4 : Int32} {τ : x_T} (h : (τ.1 346 0 ≤ v4 → K τ v3) ∧ (¬ τ.1 346 0 ≤ v4 → x_WI (d + 1) mX12_watchedBy K 22 [(0, .ref 345), (1, .int v1), (2, .int v2), (3, .int v3), (4, .int v4), (5, .int 0), (6, .int 0)] [] τ)) : x_WI (d + 1) mX12_watchedBy K 5 [(0, .ref 345), (1, .int v1), (2, .int v2), (3, .int v3), (4, .int v4)] [] τ := by
  refine o_iload (k := 4) 4 (by decide +kernel) rfl ?_
  refine o_aload_n (k := 0) 0 (by decide +kernel) rfl ?_
  refine f_getR (r := 346) (t := 12) (k := 0) (i := 7) (by decide +kernel) sh_345 rfl (by decide) lk_1361 (by simp [x_ty, tyX12]) (gr_12_0 sh_345) ?_
  refine o_iconst (n := 0) (v := 0) (by decide +kernel) (by decide) ?_
  refine f_iald (k := 0) (by decide +kernel) sh_346 (by unfold vp_in; decide) (by decide) ?_
  refine o_icmp_ge (off := 83) 96 (by decide +kernel) (by decide) (fun q => ?_) (fun q => ?_)
  · replace h := h.1 q
    refine o_iload_n (k := 3) 3 (by decide +kernel) rfl ?_
    exact f_iret (ty := .int) rfl rfl (by decide +kernel) rfl h
  · replace h := h.2 q
    refine o_iconst (n := 0) (v := 0) (by decide +kernel) (by decide) ?_
    refine o_istore (k := 5) (L' := [(5, .int 0), (0, .ref 345), (1, .int v1), (2, .int v2), (3, .int v3), (4, .int v4)]) (by decide +kernel) (by decide) rfl ?_
    refine o_iconst (n := 0) (v := 0) (by decide +kernel) (by decide) ?_
    refine o_istore (k := 6) (L' := [(6, .int 0), (5, .int 0), (0, .ref 345), (1, .int v1), (2, .int v2), (3, .int v3), (4, .int v4)]) (by decide +kernel) (by decide) rfl ?_
    refine o_sub [2, 3, 4, 5, 6, 1, 0] rfl ?_
    exact h
set_option maxRecDepth 20000 in
theorem k_X12_watchedBy_22 {d : Nat} {K : x_T → Int32 → Prop} {v1 : Int32} {v2 : Int32} {v3 : Int32} {v4 : Int32} {v5 : Int32} {v6 : Int32} {τ : x_T} (h : (τ.1 346 0 ≤ v6 → (v5 = 0 → x_WI (d + 1) mX12_watchedBy K 88 [(0, .ref 345), (1, .int v1), (2, .int v2), (4, .int v4)] [.int 0, .int v3] τ) ∧ (¬ v5 = 0 → x_WI (d + 1) mX12_watchedBy K 88 [(0, .ref 345), (1, .int v1), (2, .int v2), (4, .int v4)] [.int 1, .int v3] τ)) ∧ (¬ τ.1 346 0 ≤ v6 → (¬ v5 = 0 → x_WI (d + 1) mX12_watchedBy K 64 [(0, .ref 345), (1, .int v1), (2, .int v2), (3, .int v3), (4, .int v4), (6, .int v6)] [] τ) ∧ (v5 = 0 → x_CI d mX12_has [.int v1, .int v6] τ (fun t1 a2 => (a2 = 0 → x_WI (d + 1) mX12_watchedBy K 68 [(0, .ref 345), (1, .int v1), (2, .int v2), (3, .int v3), (4, .int v4), (6, .int v6)] [] t1) ∧ (¬ a2 = 0 → vp_in ((8 * v6) + v4) 64 ∧ ((v2 < t1.1 369 ((8 * v6) + v4).toNatClampNeg → x_WI (d + 1) mX12_watchedBy K 68 [(0, .ref 345), (1, .int v1), (2, .int v2), (3, .int v3), (4, .int v4), (6, .int v6)] [] t1) ∧ (¬ v2 < t1.1 369 ((8 * v6) + v4).toNatClampNeg → x_WI (d + 1) mX12_watchedBy K 64 [(0, .ref 345), (1, .int v1), (2, .int v2), (3, .int v3), (4, .int v4), (6, .int v6)] [] t1))))))) : x_WI (d + 1) mX12_watchedBy K 22 [(0, .ref 345), (1, .int v1), (2, .int v2), (3, .int v3), (4, .int v4), (5, .int v5), (6, .int v6)] [] τ := by
  refine o_iload (k := 6) 6 (by decide +kernel) rfl ?_
  refine o_aload_n (k := 0) 0 (by decide +kernel) rfl ?_
  refine f_getR (r := 346) (t := 12) (k := 0) (i := 7) (by decide +kernel) sh_345 rfl (by decide) lk_1361 (by simp [x_ty, tyX12]) (gr_12_0 sh_345) ?_
  refine o_iconst (n := 0) (v := 0) (by decide +kernel) (by decide) ?_
  refine f_iald (k := 0) (by decide +kernel) sh_346 (by unfold vp_in; decide) (by decide) ?_
  refine o_icmp_ge (off := 47) 77 (by decide +kernel) (by decide) (fun q => ?_) (fun q => ?_)
  · replace h := h.1 q
    refine o_iload_n (k := 3) 3 (by decide +kernel) rfl ?_
    refine o_iload (k := 5) 5 (by decide +kernel) rfl ?_
    refine o_if_eq (off := 7) 87 (by decide +kernel) (by decide) (fun q => ?_) (fun q => ?_)
    · replace h := h.1 q
      refine o_iconst (n := 0) (v := 0) (by decide +kernel) (by decide) ?_
      refine o_sub [0, 1, 2, 4] rfl ?_
      exact h
    · replace h := h.2 q
      refine o_iconst (n := 1) (v := 1) (by decide +kernel) (by decide) ?_
      refine o_goto (off := 4) 88 (by decide +kernel) (by decide) ?_
      refine o_sub [0, 1, 2, 4] rfl ?_
      exact h
  · replace h := h.2 q
    refine o_iload (k := 5) 5 (by decide +kernel) rfl ?_
    refine o_if_ne (off := 29) 64 (by decide +kernel) (by decide) (fun q => ?_) (fun q => ?_)
    · replace h := h.1 q
      refine o_sub [0, 1, 2, 3, 4, 6] rfl ?_
      exact h
    · replace h := h.2 q
      refine o_iload_n (k := 1) 1 (by decide +kernel) rfl ?_
      refine o_iload (k := 6) 6 (by decide +kernel) rfl ?_
      refine f_callSI (μ' := mX12_has) (i := 470) (vs := [.int v1, .int v6]) (by decide +kernel) lk_1919 (cok_mX12_has) rfl (stt_mX12_has) rfl rfl (Nat.le_of_ble_eq_true rfl) ?_
      refine x_CI.mono h (fun t1 a2 h => ?_)
      refine o_if_eq (off := 24) 68 (by decide +kernel) (by decide) (fun q => ?_) (fun q => ?_)
      · replace h := h.1 q
        refine o_sub [0, 1, 2, 3, 4, 6] rfl ?_
        exact h
      · replace h := h.2 q
        refine o_aload_n (k := 0) 0 (by decide +kernel) rfl ?_
        refine f_getR (r := 369) (t := 12) (k := 40) (i := 87) (by decide +kernel) sh_345 rfl (by decide) lk_1401 (by simp [x_ty, tyX12]) (gr_12_40 sh_345) ?_
        refine o_bipush (n := 8) (v := 8) (by decide +kernel) (by decide) ?_
        refine o_iload (k := 6) 6 (by decide +kernel) rfl ?_
        refine o_imul (by decide +kernel) ?_
        refine o_iload (k := 4) 4 (by decide +kernel) rfl ?_
        refine o_iadd (by decide +kernel) ?_
        obtain ⟨hi, h⟩ := h
        refine f_iald (by decide +kernel) sh_369 hi rfl ?_
        refine o_iload_n (k := 2) 2 (by decide +kernel) rfl ?_
        refine o_icmp_gt (off := 7) 68 (by decide +kernel) (by decide) (fun q => ?_) (fun q => ?_)
        · replace h := h.1 q
          refine o_sub [0, 1, 2, 3, 4, 6] rfl ?_
          exact h
        · replace h := h.2 q
          refine o_sub [0, 1, 2, 3, 4, 6] rfl ?_
          exact h
set_option maxRecDepth 20000 in
theorem k_X12_watchedBy_64 {d : Nat} {K : x_T → Int32 → Prop} {v1 : Int32} {v2 : Int32} {v3 : Int32} {v4 : Int32} {v6 : Int32} {τ : x_T} (h : x_WI (d + 1) mX12_watchedBy K 69 [(0, .ref 345), (1, .int v1), (2, .int v2), (3, .int v3), (4, .int v4), (6, .int v6)] [.int 1] τ) : x_WI (d + 1) mX12_watchedBy K 64 [(0, .ref 345), (1, .int v1), (2, .int v2), (3, .int v3), (4, .int v4), (6, .int v6)] [] τ := by
  refine o_iconst (n := 1) (v := 1) (by decide +kernel) (by decide) ?_
  refine o_goto (off := 4) 69 (by decide +kernel) (by decide) ?_
  exact h
set_option maxRecDepth 20000 in
theorem k_X12_watchedBy_68 {d : Nat} {K : x_T → Int32 → Prop} {v1 : Int32} {v2 : Int32} {v3 : Int32} {v4 : Int32} {v6 : Int32} {τ : x_T} (h : x_WI (d + 1) mX12_watchedBy K 69 [(0, .ref 345), (1, .int v1), (2, .int v2), (3, .int v3), (4, .int v4), (6, .int v6)] [.int 0] τ) : x_WI (d + 1) mX12_watchedBy K 68 [(0, .ref 345), (1, .int v1), (2, .int v2), (3, .int v3), (4, .int v4), (6, .int v6)] [] τ := by
  refine o_iconst (n := 0) (v := 0) (by decide +kernel) (by decide) ?_
  exact h
set_option maxRecDepth 20000 in
theorem k_X12_watchedBy_69 {d : Nat} {K : x_T → Int32 → Prop} {v1 : Int32} {v2 : Int32} {v3 : Int32} {v4 : Int32} {v6 : Int32} {s0 : Int32} {τ : x_T} (h : ∀ y1, y1 = v6 + 1 → (x_WI (d + 1) mX12_watchedBy K 22 [(0, .ref 345), (1, .int v1), (2, .int v2), (3, .int v3), (4, .int v4), (5, .int s0), (6, .int y1)] [] τ)) : x_WI (d + 1) mX12_watchedBy K 69 [(0, .ref 345), (1, .int v1), (2, .int v2), (3, .int v3), (4, .int v4), (6, .int v6)] [.int s0] τ := by
  refine o_istore (k := 5) (L' := [(5, .int s0), (0, .ref 345), (1, .int v1), (2, .int v2), (3, .int v3), (4, .int v4), (6, .int v6)]) (by decide +kernel) (by decide) rfl ?_
  obtain ⟨y1, ey1⟩ : ∃ y : Int32, y = v6 + 1 := ⟨_, rfl⟩
  replace h := h y1 ey1
  refine o_iinc (i := 6) (n := 1) (v := y1) (L' := [(6, .int y1), (5, .int s0), (0, .ref 345), (1, .int v1), (2, .int v2), (3, .int v3), (4, .int v4)]) 6 (by decide +kernel) rfl (by rw [ey1]; rfl) (by decide) rfl ?_
  refine o_goto (off := -52) 22 (by decide +kernel) (by decide) ?_
  refine o_sub [2, 3, 4, 5, 6, 1, 0] rfl ?_
  exact h
set_option maxRecDepth 20000 in
theorem k_X12_watchedBy_88 {d : Nat} {K : x_T → Int32 → Prop} {v1 : Int32} {v2 : Int32} {v4 : Int32} {s0 : Int32} {s1 : Int32} {τ : x_T} (h : ∀ y1, y1 = s1 + s0 → (∀ y2, y2 = v4 + 1 → (x_WI (d + 1) mX12_watchedBy K 5 [(0, .ref 345), (1, .int v1), (2, .int v2), (3, .int y1), (4, .int y2)] [] τ))) : x_WI (d + 1) mX12_watchedBy K 88 [(0, .ref 345), (1, .int v1), (2, .int v2), (4, .int v4)] [.int s0, .int s1] τ := by
  refine o_iadd (by decide +kernel) ?_
  refine o_name (fun y1 ey1 => ?_)
  replace h := h y1 ey1
  refine o_istore_n (k := 3) (L' := [(3, .int y1), (0, .ref 345), (1, .int v1), (2, .int v2), (4, .int v4)]) (by decide +kernel) (by decide) rfl ?_
  obtain ⟨y2, ey2⟩ : ∃ y : Int32, y = v4 + 1 := ⟨_, rfl⟩
  replace h := h y2 ey2
  refine o_iinc (i := 4) (n := 1) (v := y2) (L' := [(4, .int y2), (3, .int y1), (0, .ref 345), (1, .int v1), (2, .int v2)]) 4 (by decide +kernel) rfl (by rw [ey2]; rfl) (by decide) rfl ?_
  refine o_goto (off := -88) 5 (by decide +kernel) (by decide) ?_
  refine o_sub [2, 3, 4, 1, 0] rfl ?_
  exact h
set_option maxRecDepth 20000 in
theorem e_X12_watch {d : Nat} {K : x_T → Int32 → Prop} {v1 : Int32} {v2 : Int32} {τ : x_T} (h : x_CI d mX12_in [.int v1, .int 1, .int 3] τ (fun t1 a2 => (a2 = 0 → K t1 (-1)) ∧ (¬ a2 = 0 → x_CI d mX12_in [.int v2, .int 0, .int 9] t1 (fun t3 a4 => (a4 = 0 → K t3 (-1)) ∧ (¬ a4 = 0 → (v1 ≤ t3.1 346 0 → x_CV d mX12_laysNow [.ref 345] t3 (fun t5 => x_WI (d + 1) mX12_watch K 40 [(0, .ref 345), (1, .int v1), (2, .int v2), (3, .int (-1)), (4, .int 1)] [] t5)) ∧ (¬ v1 ≤ t3.1 346 0 → K t3 (-1))))))) : x_CI (d + 1) mX12_watch [.ref 345, .int v1, .int v2] τ K := by
  refine x_CI_of (by decide) (Nat.le_of_ble_eq_true rfl) ?_
  show x_WI (d + 1) mX12_watch K 0 [(0, .ref 345), (1, .int v1), (2, .int v2)] [] τ
  refine o_iload_n (k := 1) 1 (by decide +kernel) rfl ?_
  refine o_iconst (n := 1) (v := 1) (by decide +kernel) (by decide) ?_
  refine o_iconst (n := 3) (v := 3) (by decide +kernel) (by decide) ?_
  refine f_callSI (μ' := mX12_in) (i := 113) (vs := [.int v1, .int 1, .int 3]) (by decide +kernel) lk_1508 (cok_mX12_in) rfl (stt_mX12_in) rfl rfl (Nat.le_of_ble_eq_true rfl) ?_
  refine x_CI.mono h (fun t1 a2 h => ?_)
  refine o_if_eq (off := 23) 29 (by decide +kernel) (by decide) (fun q => ?_) (fun q => ?_)
  · replace h := h.1 q
    refine o_iconst (n := -1) (v := (-1)) (by decide +kernel) (by decide) ?_
    exact f_iret (ty := .int) rfl rfl (by decide +kernel) rfl h
  · replace h := h.2 q
    refine o_iload_n (k := 2) 2 (by decide +kernel) rfl ?_
    refine o_iconst (n := 0) (v := 0) (by decide +kernel) (by decide) ?_
    refine o_bipush (n := 9) (v := 9) (by decide +kernel) (by decide) ?_
    refine f_callSI (μ' := mX12_in) (i := 113) (vs := [.int v2, .int 0, .int 9]) (by decide +kernel) lk_1508 (cok_mX12_in) rfl (stt_mX12_in) rfl rfl (Nat.le_of_ble_eq_true rfl) ?_
    refine x_CI.mono h (fun t3 a4 h => ?_)
    refine o_if_eq (off := 13) 29 (by decide +kernel) (by decide) (fun q => ?_) (fun q => ?_)
    · replace h := h.1 q
      refine o_iconst (n := -1) (v := (-1)) (by decide +kernel) (by decide) ?_
      exact f_iret (ty := .int) rfl rfl (by decide +kernel) rfl h
    · replace h := h.2 q
      refine o_iload_n (k := 1) 1 (by decide +kernel) rfl ?_
      refine o_aload_n (k := 0) 0 (by decide +kernel) rfl ?_
      refine f_getR (r := 346) (t := 12) (k := 0) (i := 7) (by decide +kernel) sh_345 rfl (by decide) lk_1361 (by simp [x_ty, tyX12]) (gr_12_0 sh_345) ?_
      refine o_iconst (n := 0) (v := 0) (by decide +kernel) (by decide) ?_
      refine f_iald (k := 0) (by decide +kernel) sh_346 (by unfold vp_in; decide) (by decide) ?_
      refine o_icmp_le (off := 5) 31 (by decide +kernel) (by decide) (fun q => ?_) (fun q => ?_)
      · replace h := h.1 q
        refine o_aload_n (k := 0) 0 (by decide +kernel) rfl ?_
        refine f_callVV (μ' := mX12_laysNow) (i := 396) (vs := []) (by decide +kernel) lk_1704 (vok_mX12_laysNow) sh_345 rfl rfl rfl rfl (Nat.le_of_ble_eq_true rfl) ?_
        refine x_CV.mono h (fun t5 h => ?_)
        refine o_iconst (n := -1) (v := (-1)) (by decide +kernel) (by decide) ?_
        refine o_istore_n (k := 3) (L' := [(3, .int (-1)), (0, .ref 345), (1, .int v1), (2, .int v2)]) (by decide +kernel) (by decide) rfl ?_
        refine o_iconst (n := 1) (v := 1) (by decide +kernel) (by decide) ?_
        refine o_istore (k := 4) (L' := [(4, .int 1), (3, .int (-1)), (0, .ref 345), (1, .int v1), (2, .int v2)]) (by decide +kernel) (by decide) rfl ?_
        refine o_sub [2, 3, 4, 1, 0] rfl ?_
        exact h
      · replace h := h.2 q
        refine o_iconst (n := -1) (v := (-1)) (by decide +kernel) (by decide) ?_
        exact f_iret (ty := .int) rfl rfl (by decide +kernel) rfl h
set_option maxRecDepth 20000 in
theorem k_X12_watch_40 {d : Nat} {K : x_T → Int32 → Prop} {v1 : Int32} {v2 : Int32} {v3 : Int32} {v4 : Int32} {τ : x_T} (h : (1 <<< ((τ.1 346 0) &&& 31) ≤ v4 → K τ v3) ∧ (¬ 1 <<< ((τ.1 346 0) &&& 31) ≤ v4 → x_CI d mX12_many [.int v4] τ (fun t1 a2 => (¬ a2 = v1 → x_WI (d + 1) mX12_watch K 86 [(0, .ref 345), (1, .int v1), (2, .int v2), (3, .int v3), (4, .int v4)] [] t1) ∧ (a2 = v1 → (v3 = (-1) → x_WI (d + 1) mX12_watch K 83 [(0, .ref 345), (1, .int v1), (2, .int v2), (4, .int v4)] [] t1) ∧ (¬ v3 = (-1) → x_CI d mX12_watchedBy [.ref 345, .int v4, .int v2] t1 (fun t3 a4 => x_CI d mX12_watchedBy [.ref 345, .int v3, .int v2] t3 (fun t5 a6 => (a4 ≤ a6 → x_WI (d + 1) mX12_watch K 86 [(0, .ref 345), (1, .int v1), (2, .int v2), (3, .int v3), (4, .int v4)] [] t5) ∧ (¬ a4 ≤ a6 → x_WI (d + 1) mX12_watch K 83 [(0, .ref 345), (1, .int v1), (2, .int v2), (4, .int v4)] [] t5)))))))) : x_WI (d + 1) mX12_watch K 40 [(0, .ref 345), (1, .int v1), (2, .int v2), (3, .int v3), (4, .int v4)] [] τ := by
  refine o_iload (k := 4) 4 (by decide +kernel) rfl ?_
  refine o_iconst (n := 1) (v := 1) (by decide +kernel) (by decide) ?_
  refine o_aload_n (k := 0) 0 (by decide +kernel) rfl ?_
  refine f_getR (r := 346) (t := 12) (k := 0) (i := 7) (by decide +kernel) sh_345 rfl (by decide) lk_1361 (by simp [x_ty, tyX12]) (gr_12_0 sh_345) ?_
  refine o_iconst (n := 0) (v := 0) (by decide +kernel) (by decide) ?_
  refine f_iald (k := 0) (by decide +kernel) sh_346 (by unfold vp_in; decide) (by decide) ?_
  refine o_ishl (by decide +kernel) ?_
  refine o_icmp_ge (off := 42) 92 (by decide +kernel) (by decide) (fun q => ?_) (fun q => ?_)
  · replace h := h.1 q
    refine o_iload_n (k := 3) 3 (by decide +kernel) rfl ?_
    exact f_iret (ty := .int) rfl rfl (by decide +kernel) rfl h
  · replace h := h.2 q
    refine o_iload (k := 4) 4 (by decide +kernel) rfl ?_
    refine f_callSI (μ' := mX12_many) (i := 482) (vs := [.int v4]) (by decide +kernel) lk_1959 (cok_mX12_many) rfl (stt_mX12_many) rfl rfl (Nat.le_of_ble_eq_true rfl) ?_
    refine x_CI.mono h (fun t1 a2 h => ?_)
    refine o_iload_n (k := 1) 1 (by decide +kernel) rfl ?_
    refine o_icmp_ne (off := 27) 86 (by decide +kernel) (by decide) (fun q => ?_) (fun q => ?_)
    · replace h := h.1 q
      exact h
    · replace h := h.2 q
      refine o_iload_n (k := 3) 3 (by decide +kernel) rfl ?_
      refine o_iconst (n := -1) (v := (-1)) (by decide +kernel) (by decide) ?_
      refine o_icmp_eq (off := 19) 83 (by decide +kernel) (by decide) (fun q => ?_) (fun q => ?_)
      · replace h := h.1 q
        refine o_sub [0, 1, 2, 4] rfl ?_
        exact h
      · replace h := h.2 q
        refine o_aload_n (k := 0) 0 (by decide +kernel) rfl ?_
        refine o_iload (k := 4) 4 (by decide +kernel) rfl ?_
        refine o_iload_n (k := 2) 2 (by decide +kernel) rfl ?_
        refine f_callVI (μ' := mX12_watchedBy) (i := 485) (vs := [.int v4, .int v2]) (by decide +kernel) lk_1962 (vok_mX12_watchedBy) sh_345 rfl rfl rfl rfl (Nat.le_of_ble_eq_true rfl) ?_
        refine x_CI.mono h (fun t3 a4 h => ?_)
        refine o_aload_n (k := 0) 0 (by decide +kernel) rfl ?_
        refine o_iload_n (k := 3) 3 (by decide +kernel) rfl ?_
        refine o_iload_n (k := 2) 2 (by decide +kernel) rfl ?_
        refine f_callVI (μ' := mX12_watchedBy) (i := 485) (vs := [.int v3, .int v2]) (by decide +kernel) lk_1962 (vok_mX12_watchedBy) sh_345 rfl rfl rfl rfl (Nat.le_of_ble_eq_true rfl) ?_
        refine x_CI.mono h (fun t5 a6 h => ?_)
        refine o_icmp_le (off := 6) 86 (by decide +kernel) (by decide) (fun q => ?_) (fun q => ?_)
        · replace h := h.1 q
          exact h
        · replace h := h.2 q
          refine o_sub [0, 1, 2, 4] rfl ?_
          exact h
set_option maxRecDepth 20000 in
theorem k_X12_watch_83 {d : Nat} {K : x_T → Int32 → Prop} {v1 : Int32} {v2 : Int32} {v4 : Int32} {τ : x_T} (h : x_WI (d + 1) mX12_watch K 86 [(0, .ref 345), (1, .int v1), (2, .int v2), (3, .int v4), (4, .int v4)] [] τ) : x_WI (d + 1) mX12_watch K 83 [(0, .ref 345), (1, .int v1), (2, .int v2), (4, .int v4)] [] τ := by
  refine o_iload (k := 4) 3 (by decide +kernel) rfl ?_
  refine o_istore_n (k := 3) (L' := [(3, .int v4), (0, .ref 345), (1, .int v1), (2, .int v2), (4, .int v4)]) (by decide +kernel) (by decide) rfl ?_
  refine o_sub [1, 2, 3, 0, 4] rfl ?_
  exact h
set_option maxRecDepth 20000 in
theorem k_X12_watch_86 {d : Nat} {K : x_T → Int32 → Prop} {v1 : Int32} {v2 : Int32} {v3 : Int32} {v4 : Int32} {τ : x_T} (h : ∀ y1, y1 = v4 + 1 → (x_WI (d + 1) mX12_watch K 40 [(0, .ref 345), (1, .int v1), (2, .int v2), (3, .int v3), (4, .int y1)] [] τ)) : x_WI (d + 1) mX12_watch K 86 [(0, .ref 345), (1, .int v1), (2, .int v2), (3, .int v3), (4, .int v4)] [] τ := by
  obtain ⟨y1, ey1⟩ : ∃ y : Int32, y = v4 + 1 := ⟨_, rfl⟩
  replace h := h y1 ey1
  refine o_iinc (i := 4) (n := 1) (v := y1) (L' := [(4, .int y1), (0, .ref 345), (1, .int v1), (2, .int v2), (3, .int v3)]) 4 (by decide +kernel) rfl (by rw [ey1]; rfl) (by decide) rfl ?_
  refine o_goto (off := -49) 40 (by decide +kernel) (by decide) ?_
  refine o_sub [1, 2, 3, 4, 0] rfl ?_
  exact h
set_option maxRecDepth 20000 in
theorem e_X12_image {d : Nat} {K : x_T → Int32 → Prop}  {τ : x_T} (h : x_CV d mX12_copies [.ref 345, .int 1] τ (fun t1 => K t1 (t1.1 346 135))) : x_CI (d + 1) mX12_image [.ref 345] τ K := by
  refine x_CI_of (by decide) (Nat.le_of_ble_eq_true rfl) ?_
  show x_WI (d + 1) mX12_image K 0 [(0, .ref 345)] [] τ
  refine o_aload_n (k := 0) 0 (by decide +kernel) rfl ?_
  refine o_iconst (n := 1) (v := 1) (by decide +kernel) (by decide) ?_
  refine f_callVV (μ' := mX12_copies) (i := 109) (vs := [.int 1]) (by decide +kernel) lk_1357 (vok_mX12_copies) sh_345 rfl rfl rfl rfl (Nat.le_of_ble_eq_true rfl) ?_
  refine x_CV.mono h (fun t1 h => ?_)
  refine o_aload_n (k := 0) 0 (by decide +kernel) rfl ?_
  refine f_getR (r := 346) (t := 12) (k := 0) (i := 7) (by decide +kernel) sh_345 rfl (by decide) lk_1361 (by simp [x_ty, tyX12]) (gr_12_0 sh_345) ?_
  refine o_sipush (n := 135) (v := 135) (by decide +kernel) (by decide) ?_
  refine f_iald (k := 135) (by decide +kernel) sh_346 (by unfold vp_in; decide) (by decide) ?_
  exact f_iret (ty := .int) rfl rfl (by decide +kernel) rfl h
set_option maxRecDepth 20000 in
theorem e_X12_back {d : Nat} {K : x_T → Int32 → Prop}  {τ : x_T} (h : x_CV d mX12_copies [.ref 345, .int 0] τ (fun t1 => K t1 (t1.1 346 135))) : x_CI (d + 1) mX12_back [.ref 345] τ K := by
  refine x_CI_of (by decide) (Nat.le_of_ble_eq_true rfl) ?_
  show x_WI (d + 1) mX12_back K 0 [(0, .ref 345)] [] τ
  refine o_aload_n (k := 0) 0 (by decide +kernel) rfl ?_
  refine o_iconst (n := 0) (v := 0) (by decide +kernel) (by decide) ?_
  refine f_callVV (μ' := mX12_copies) (i := 109) (vs := [.int 0]) (by decide +kernel) lk_1357 (vok_mX12_copies) sh_345 rfl rfl rfl rfl (Nat.le_of_ble_eq_true rfl) ?_
  refine x_CV.mono h (fun t1 h => ?_)
  refine o_aload_n (k := 0) 0 (by decide +kernel) rfl ?_
  refine f_getR (r := 346) (t := 12) (k := 0) (i := 7) (by decide +kernel) sh_345 rfl (by decide) lk_1361 (by simp [x_ty, tyX12]) (gr_12_0 sh_345) ?_
  refine o_sipush (n := 135) (v := 135) (by decide +kernel) (by decide) ?_
  refine f_iald (k := 135) (by decide +kernel) sh_346 (by unfold vp_in; decide) (by decide) ?_
  exact f_iret (ty := .int) rfl rfl (by decide +kernel) rfl h
theorem d_X12_about_1 : decode mX12_about.2.1 1 = .ok (.tableswitch (128) (0) (9) #[(55), (62), (69), (78), (87), (94), (101), (108), (115), (123)], 55) := by decide +kernel
set_option maxRecDepth 20000 in
theorem e_X12_about {d : Nat} {K : x_T → Int32 → Prop} {v1 : Int32} {τ : x_T} (h : ((v1 = 0 → K τ (τ.1 346 0)) ∧ (¬ v1 = 0 → (v1 = 1 → K τ (τ.1 346 1)) ∧ (¬ v1 = 1 → (v1 = 2 → K τ (τ.1 346 135)) ∧ (¬ v1 = 2 → (v1 = 3 → K τ (τ.1 346 136)) ∧ (¬ v1 = 3 → (v1 = 4 → K τ (τ.1 346 2)) ∧ (¬ v1 = 4 → (v1 = 5 → K τ (τ.1 346 3)) ∧ (¬ v1 = 5 → (v1 = 6 → K τ (τ.1 346 4)) ∧ (¬ v1 = 6 → (v1 = 7 → K τ (τ.1 346 5)) ∧ (¬ v1 = 7 → (v1 = 8 → K τ (τ.1 346 6)) ∧ (¬ v1 = 8 → (v1 = 9 → K τ (τ.1 345 3)) ∧ (¬ v1 = 9 → (K τ (-2)))))))))))))) : x_CI d mX12_about [.ref 345, .int v1] τ K := by
  refine x_CI_of (by decide) (Nat.le_of_ble_eq_true rfl) ?_
  show x_WI d mX12_about K 0 [(0, .ref 345), (1, .int v1)] [] τ
  refine o_iload_n (k := 1) 1 (by decide +kernel) rfl ?_
  by_cases c0 : v1 = 0
  · replace h := h.1 c0
    refine o_tableIn (off := 55) (tgt := 56) (d_X12_about_1) (by rw [c0]; decide) (by rw [c0]; decide) (by rw [c0]; rfl) (by decide) ?_
    refine o_aload_n (k := 0) 0 (by decide +kernel) rfl ?_
    refine f_getR (r := 346) (t := 12) (k := 0) (i := 7) (by decide +kernel) sh_345 rfl (by decide) lk_1361 (by simp [x_ty, tyX12]) (gr_12_0 sh_345) ?_
    refine o_iconst (n := 0) (v := 0) (by decide +kernel) (by decide) ?_
    refine f_iald (k := 0) (by decide +kernel) sh_346 (by unfold vp_in; decide) (by decide) ?_
    exact f_iret (ty := .int) rfl rfl (by decide +kernel) rfl h
  replace h := h.2 c0
  by_cases c1 : v1 = 1
  · replace h := h.1 c1
    refine o_tableIn (off := 62) (tgt := 63) (d_X12_about_1) (by rw [c1]; decide) (by rw [c1]; decide) (by rw [c1]; rfl) (by decide) ?_
    refine o_aload_n (k := 0) 0 (by decide +kernel) rfl ?_
    refine f_getR (r := 346) (t := 12) (k := 0) (i := 7) (by decide +kernel) sh_345 rfl (by decide) lk_1361 (by simp [x_ty, tyX12]) (gr_12_0 sh_345) ?_
    refine o_iconst (n := 1) (v := 1) (by decide +kernel) (by decide) ?_
    refine f_iald (k := 1) (by decide +kernel) sh_346 (by unfold vp_in; decide) (by decide) ?_
    exact f_iret (ty := .int) rfl rfl (by decide +kernel) rfl h
  replace h := h.2 c1
  by_cases c2 : v1 = 2
  · replace h := h.1 c2
    refine o_tableIn (off := 69) (tgt := 70) (d_X12_about_1) (by rw [c2]; decide) (by rw [c2]; decide) (by rw [c2]; rfl) (by decide) ?_
    refine o_aload_n (k := 0) 0 (by decide +kernel) rfl ?_
    refine f_getR (r := 346) (t := 12) (k := 0) (i := 7) (by decide +kernel) sh_345 rfl (by decide) lk_1361 (by simp [x_ty, tyX12]) (gr_12_0 sh_345) ?_
    refine o_sipush (n := 135) (v := 135) (by decide +kernel) (by decide) ?_
    refine f_iald (k := 135) (by decide +kernel) sh_346 (by unfold vp_in; decide) (by decide) ?_
    exact f_iret (ty := .int) rfl rfl (by decide +kernel) rfl h
  replace h := h.2 c2
  by_cases c3 : v1 = 3
  · replace h := h.1 c3
    refine o_tableIn (off := 78) (tgt := 79) (d_X12_about_1) (by rw [c3]; decide) (by rw [c3]; decide) (by rw [c3]; rfl) (by decide) ?_
    refine o_aload_n (k := 0) 0 (by decide +kernel) rfl ?_
    refine f_getR (r := 346) (t := 12) (k := 0) (i := 7) (by decide +kernel) sh_345 rfl (by decide) lk_1361 (by simp [x_ty, tyX12]) (gr_12_0 sh_345) ?_
    refine o_sipush (n := 136) (v := 136) (by decide +kernel) (by decide) ?_
    refine f_iald (k := 136) (by decide +kernel) sh_346 (by unfold vp_in; decide) (by decide) ?_
    exact f_iret (ty := .int) rfl rfl (by decide +kernel) rfl h
  replace h := h.2 c3
  by_cases c4 : v1 = 4
  · replace h := h.1 c4
    refine o_tableIn (off := 87) (tgt := 88) (d_X12_about_1) (by rw [c4]; decide) (by rw [c4]; decide) (by rw [c4]; rfl) (by decide) ?_
    refine o_aload_n (k := 0) 0 (by decide +kernel) rfl ?_
    refine f_getR (r := 346) (t := 12) (k := 0) (i := 7) (by decide +kernel) sh_345 rfl (by decide) lk_1361 (by simp [x_ty, tyX12]) (gr_12_0 sh_345) ?_
    refine o_iconst (n := 2) (v := 2) (by decide +kernel) (by decide) ?_
    refine f_iald (k := 2) (by decide +kernel) sh_346 (by unfold vp_in; decide) (by decide) ?_
    exact f_iret (ty := .int) rfl rfl (by decide +kernel) rfl h
  replace h := h.2 c4
  by_cases c5 : v1 = 5
  · replace h := h.1 c5
    refine o_tableIn (off := 94) (tgt := 95) (d_X12_about_1) (by rw [c5]; decide) (by rw [c5]; decide) (by rw [c5]; rfl) (by decide) ?_
    refine o_aload_n (k := 0) 0 (by decide +kernel) rfl ?_
    refine f_getR (r := 346) (t := 12) (k := 0) (i := 7) (by decide +kernel) sh_345 rfl (by decide) lk_1361 (by simp [x_ty, tyX12]) (gr_12_0 sh_345) ?_
    refine o_iconst (n := 3) (v := 3) (by decide +kernel) (by decide) ?_
    refine f_iald (k := 3) (by decide +kernel) sh_346 (by unfold vp_in; decide) (by decide) ?_
    exact f_iret (ty := .int) rfl rfl (by decide +kernel) rfl h
  replace h := h.2 c5
  by_cases c6 : v1 = 6
  · replace h := h.1 c6
    refine o_tableIn (off := 101) (tgt := 102) (d_X12_about_1) (by rw [c6]; decide) (by rw [c6]; decide) (by rw [c6]; rfl) (by decide) ?_
    refine o_aload_n (k := 0) 0 (by decide +kernel) rfl ?_
    refine f_getR (r := 346) (t := 12) (k := 0) (i := 7) (by decide +kernel) sh_345 rfl (by decide) lk_1361 (by simp [x_ty, tyX12]) (gr_12_0 sh_345) ?_
    refine o_iconst (n := 4) (v := 4) (by decide +kernel) (by decide) ?_
    refine f_iald (k := 4) (by decide +kernel) sh_346 (by unfold vp_in; decide) (by decide) ?_
    exact f_iret (ty := .int) rfl rfl (by decide +kernel) rfl h
  replace h := h.2 c6
  by_cases c7 : v1 = 7
  · replace h := h.1 c7
    refine o_tableIn (off := 108) (tgt := 109) (d_X12_about_1) (by rw [c7]; decide) (by rw [c7]; decide) (by rw [c7]; rfl) (by decide) ?_
    refine o_aload_n (k := 0) 0 (by decide +kernel) rfl ?_
    refine f_getR (r := 346) (t := 12) (k := 0) (i := 7) (by decide +kernel) sh_345 rfl (by decide) lk_1361 (by simp [x_ty, tyX12]) (gr_12_0 sh_345) ?_
    refine o_iconst (n := 5) (v := 5) (by decide +kernel) (by decide) ?_
    refine f_iald (k := 5) (by decide +kernel) sh_346 (by unfold vp_in; decide) (by decide) ?_
    exact f_iret (ty := .int) rfl rfl (by decide +kernel) rfl h
  replace h := h.2 c7
  by_cases c8 : v1 = 8
  · replace h := h.1 c8
    refine o_tableIn (off := 115) (tgt := 116) (d_X12_about_1) (by rw [c8]; decide) (by rw [c8]; decide) (by rw [c8]; rfl) (by decide) ?_
    refine o_aload_n (k := 0) 0 (by decide +kernel) rfl ?_
    refine f_getR (r := 346) (t := 12) (k := 0) (i := 7) (by decide +kernel) sh_345 rfl (by decide) lk_1361 (by simp [x_ty, tyX12]) (gr_12_0 sh_345) ?_
    refine o_bipush (n := 6) (v := 6) (by decide +kernel) (by decide) ?_
    refine f_iald (k := 6) (by decide +kernel) sh_346 (by unfold vp_in; decide) (by decide) ?_
    exact f_iret (ty := .int) rfl rfl (by decide +kernel) rfl h
  replace h := h.2 c8
  by_cases c9 : v1 = 9
  · replace h := h.1 c9
    refine o_tableIn (off := 123) (tgt := 124) (d_X12_about_1) (by rw [c9]; decide) (by rw [c9]; decide) (by rw [c9]; rfl) (by decide) ?_
    refine o_aload_n (k := 0) 0 (by decide +kernel) rfl ?_
    refine f_getI (t := 12) (k := 3) (i := 121) (by decide +kernel) sh_345 rfl (by decide) lk_1364 rfl ?_
    exact f_iret (ty := .int) rfl rfl (by decide +kernel) rfl h
  replace h := h.2 c9
  refine o_tableOut (tgt := 129) (d_X12_about_1) (by have := x_ne (z := 0) (by decide) c0; have := x_ne (z := 1) (by decide) c1; have := x_ne (z := 2) (by decide) c2; have := x_ne (z := 3) (by decide) c3; have := x_ne (z := 4) (by decide) c4; have := x_ne (z := 5) (by decide) c5; have := x_ne (z := 6) (by decide) c6; have := x_ne (z := 7) (by decide) c7; have := x_ne (z := 8) (by decide) c8; have := x_ne (z := 9) (by decide) c9; omega) (by decide) ?_
  refine o_bipush (n := -2) (v := (-2)) (by decide +kernel) (by decide) ?_
  exact f_iret (ty := .int) rfl rfl (by decide +kernel) rfl h
