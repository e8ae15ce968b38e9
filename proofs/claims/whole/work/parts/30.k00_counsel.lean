set_option maxRecDepth 20000 in
theorem e_X0_placesFitting {d : Nat} {K : x_T → Int32 → Prop}  {τ : x_T} (h : x_WI (d + 1) mX0_placesFitting K 4 [(0, .ref 339), (1, .int 0), (2, .int 0)] [] τ) : x_CI (d + 1) mX0_placesFitting [.ref 339] τ K := by
  refine x_CI_of (by decide) (Nat.le_of_ble_eq_true rfl) ?_
  show x_WI (d + 1) mX0_placesFitting K 0 [(0, .ref 339)] [] τ
  refine o_iconst (n := 0) (v := 0) (by decide +kernel) (by decide) ?_
  refine o_istore_n (k := 1) (L' := [(1, .int 0), (0, .ref 339)]) (by decide +kernel) (by decide) rfl ?_
  refine o_iconst (n := 0) (v := 0) (by decide +kernel) (by decide) ?_
  refine o_istore_n (k := 2) (L' := [(2, .int 0), (1, .int 0), (0, .ref 339)]) (by decide +kernel) (by decide) rfl ?_
  refine o_sub [2, 1, 0] rfl ?_
  exact h
set_option maxRecDepth 20000 in
theorem k_X0_placesFitting_4 {d : Nat} {K : x_T → Int32 → Prop} {v1 : Int32} {v2 : Int32} {τ : x_T} (h : (τ.1 1 0 ≤ v2 → K τ v1) ∧ (¬ τ.1 1 0 ≤ v2 → x_CI d mX0_fits [.ref 339, .int v2] τ (fun t1 a2 => (a2 = 0 → x_WI (d + 1) mX0_placesFitting K 29 [(0, .ref 339), (1, .int v1), (2, .int v2)] [] t1) ∧ (¬ a2 = 0 → ∀ y3, y3 = v1 ||| (1 <<< (v2 &&& 31)) → (x_WI (d + 1) mX0_placesFitting K 29 [(0, .ref 339), (1, .int y3), (2, .int v2)] [] t1))))) : x_WI (d + 1) mX0_placesFitting K 4 [(0, .ref 339), (1, .int v1), (2, .int v2)] [] τ := by
  refine o_iload_n (k := 2) 2 (by decide +kernel) rfl ?_
  refine o_aload_n (k := 0) 0 (by decide +kernel) rfl ?_
  refine f_getR (r := 1) (t := 0) (k := 0) (i := 15) (by decide +kernel) sh_339 rfl (by decide) lk_480 (by simp [x_ty, tyX0]) (gr_0_0 sh_339) ?_
  refine f_getI (t := 3) (k := 0) (i := 23) (by decide +kernel) sh_1 rfl (by decide) lk_178 rfl ?_
  refine o_icmp_ge (off := 23) 35 (by decide +kernel) (by decide) (fun q => ?_) (fun q => ?_)
  · replace h := h.1 q
    refine o_iload_n (k := 1) 1 (by decide +kernel) rfl ?_
    exact f_iret (ty := .int) rfl rfl (by decide +kernel) rfl h
  · replace h := h.2 q
    refine o_aload_n (k := 0) 0 (by decide +kernel) rfl ?_
    refine o_iload_n (k := 2) 2 (by decide +kernel) rfl ?_
    refine f_callVI (μ' := mX0_fits) (i := 29) (vs := [.int v2]) (by decide +kernel) lk_1146 (vok_mX0_fits) sh_339 rfl rfl rfl rfl (Nat.le_of_ble_eq_true rfl) ?_
    refine x_CI.mono h (fun t1 a2 h => ?_)
    refine o_if_eq (off := 9) 29 (by decide +kernel) (by decide) (fun q => ?_) (fun q => ?_)
    · replace h := h.1 q
      exact h
    · replace h := h.2 q
      refine o_iload_n (k := 1) 1 (by decide +kernel) rfl ?_
      refine o_iconst (n := 1) (v := 1) (by decide +kernel) (by decide) ?_
      refine o_iload_n (k := 2) 2 (by decide +kernel) rfl ?_
      refine o_ishl (by decide +kernel) ?_
      refine o_ior (by decide +kernel) ?_
      refine o_name (fun y3 ey3 => ?_)
      replace h := h y3 ey3
      refine o_istore_n (k := 1) (L' := [(1, .int y3), (0, .ref 339), (2, .int v2)]) (by decide +kernel) (by decide) rfl ?_
      refine o_sub [1, 0, 2] rfl ?_
      exact h
set_option maxRecDepth 20000 in
theorem k_X0_placesFitting_29 {d : Nat} {K : x_T → Int32 → Prop} {v1 : Int32} {v2 : Int32} {τ : x_T} (h : ∀ y1, y1 = v2 + 1 → (x_WI (d + 1) mX0_placesFitting K 4 [(0, .ref 339), (1, .int v1), (2, .int y1)] [] τ)) : x_WI (d + 1) mX0_placesFitting K 29 [(0, .ref 339), (1, .int v1), (2, .int v2)] [] τ := by
  obtain ⟨y1, ey1⟩ : ∃ y : Int32, y = v2 + 1 := ⟨_, rfl⟩
  replace h := h y1 ey1
  refine o_iinc (i := 2) (n := 1) (v := y1) (L' := [(2, .int y1), (0, .ref 339), (1, .int v1)]) 2 (by decide +kernel) rfl (by rw [ey1]; rfl) (by decide) rfl ?_
  refine o_goto (off := -28) 4 (by decide +kernel) (by decide) ?_
  refine o_sub [1, 2, 0] rfl ?_
  exact h
set_option maxRecDepth 20000 in
theorem e_X0_fits {d : Nat} {K : x_T → Int32 → Prop} {v1 : Int32} {τ : x_T} (h : x_WI (d + 1) mX0_fits K 10 [(0, .ref 339), (1, .int v1), (2, .ref 7), (3, .int 0)] [] τ) : x_CI (d + 1) mX0_fits [.ref 339, .int v1] τ K := by
  refine x_CI_of (by decide) (Nat.le_of_ble_eq_true rfl) ?_
  show x_WI (d + 1) mX0_fits K 0 [(0, .ref 339), (1, .int v1)] [] τ
  refine o_aload_n (k := 0) 0 (by decide +kernel) rfl ?_
  refine f_getR (r := 1) (t := 0) (k := 0) (i := 15) (by decide +kernel) sh_339 rfl (by decide) lk_480 (by simp [x_ty, tyX0]) (gr_0_0 sh_339) ?_
  refine f_getR (r := 7) (t := 3) (k := 7) (i := 33) (by decide +kernel) sh_1 rfl (by decide) lk_195 (by simp [x_ty, tyX3]) (gr_3_7 sh_1) ?_
  refine o_astore_n (k := 2) (L' := [(2, .ref 7), (0, .ref 339), (1, .int v1)]) (by decide +kernel) (by decide) rfl ?_
  refine o_iconst (n := 0) (v := 0) (by decide +kernel) (by decide) ?_
  refine o_istore_n (k := 3) (L' := [(3, .int 0), (2, .ref 7), (0, .ref 339), (1, .int v1)]) (by decide +kernel) (by decide) rfl ?_
  refine o_sub [2, 3, 1, 0] rfl ?_
  exact h
set_option maxRecDepth 20000 in
theorem k_X0_fits_10 {d : Nat} {K : x_T → Int32 → Prop} {v1 : Int32} {v3 : Int32} {τ : x_T} (h : (τ.1 7 2 ≤ v3 → K τ 1) ∧ (¬ τ.1 7 2 ≤ v3 → (8 ≤ v3 → K τ 1) ∧ (¬ 8 ≤ v3 → vp_in v3 8 ∧ (x_CI d mX3_hourBy [.ref 1, .int v1, .int (τ.1 8 v3.toNatClampNeg)] τ (fun t1 a2 => vp_in v3 8 ∧ ((a2 = t1.1 9 v3.toNatClampNeg → ∀ y3, y3 = v3 + 1 → (x_WI (d + 1) mX0_fits K 10 [(0, .ref 339), (1, .int v1), (2, .ref 7), (3, .int y3)] [] t1)) ∧ (¬ a2 = t1.1 9 v3.toNatClampNeg → K t1 0))))))) : x_WI (d + 1) mX0_fits K 10 [(0, .ref 339), (1, .int v1), (2, .ref 7), (3, .int v3)] [] τ := by
  refine o_iload_n (k := 3) 3 (by decide +kernel) rfl ?_
  refine o_aload_n (k := 2) 2 (by decide +kernel) rfl ?_
  refine f_getI (t := 5) (k := 2) (i := 37) (by decide +kernel) sh_7 rfl (by decide) lk_166 rfl ?_
  refine o_icmp_ge (off := 40) 55 (by decide +kernel) (by decide) (fun q => ?_) (fun q => ?_)
  · replace h := h.1 q
    refine o_iconst (n := 1) (v := 1) (by decide +kernel) (by decide) ?_
    exact f_iret (ty := .boolean) rfl (by decide) (by decide +kernel) rfl h
  · replace h := h.2 q
    refine o_iload_n (k := 3) 3 (by decide +kernel) rfl ?_
    refine o_bipush (n := 8) (v := 8) (by decide +kernel) (by decide) ?_
    refine o_icmp_ge (off := 34) 55 (by decide +kernel) (by decide) (fun q => ?_) (fun q => ?_)
    · replace h := h.1 q
      refine o_iconst (n := 1) (v := 1) (by decide +kernel) (by decide) ?_
      exact f_iret (ty := .boolean) rfl (by decide) (by decide +kernel) rfl h
    · replace h := h.2 q
      refine o_aload_n (k := 0) 0 (by decide +kernel) rfl ?_
      refine f_getR (r := 1) (t := 0) (k := 0) (i := 15) (by decide +kernel) sh_339 rfl (by decide) lk_480 (by simp [x_ty, tyX0]) (gr_0_0 sh_339) ?_
      refine o_iload_n (k := 1) 1 (by decide +kernel) rfl ?_
      refine o_aload_n (k := 2) 2 (by decide +kernel) rfl ?_
      refine f_getR (r := 8) (t := 5) (k := 0) (i := 42) (by decide +kernel) sh_7 rfl (by decide) lk_157 (by simp [x_ty, tyX5]) (gr_5_0 sh_7) ?_
      refine o_iload_n (k := 3) 3 (by decide +kernel) rfl ?_
      obtain ⟨hi, h⟩ := h
      refine f_iald (by decide +kernel) sh_8 hi rfl ?_
      refine f_callVI (μ' := mX3_hourBy) (i := 45) (vs := [.int v1, .int (τ.1 8 v3.toNatClampNeg)]) (by decide +kernel) lk_1150 (vok_mX3_hourBy) sh_1 rfl rfl rfl rfl (Nat.le_of_ble_eq_true rfl) ?_
      refine x_CI.mono h (fun t1 a2 h => ?_)
      refine o_aload_n (k := 2) 2 (by decide +kernel) rfl ?_
      refine f_getR (r := 9) (t := 5) (k := 1) (i := 49) (by decide +kernel) sh_7 rfl (by decide) lk_161 (by simp [x_ty, tyX5]) (gr_5_1 sh_7) ?_
      refine o_iload_n (k := 3) 3 (by decide +kernel) rfl ?_
      obtain ⟨hi, h⟩ := h
      refine f_iald (by decide +kernel) sh_9 hi rfl ?_
      refine o_icmp_eq (off := 5) 49 (by decide +kernel) (by decide) (fun q => ?_) (fun q => ?_)
      · replace h := h.1 q
        obtain ⟨y3, ey3⟩ : ∃ y : Int32, y = v3 + 1 := ⟨_, rfl⟩
        replace h := h y3 ey3
        refine o_iinc (i := 3) (n := 1) (v := y3) (L' := [(3, .int y3), (0, .ref 339), (1, .int v1), (2, .ref 7)]) 3 (by decide +kernel) rfl (by rw [ey3]; rfl) (by decide) rfl ?_
        refine o_goto (off := -42) 10 (by decide +kernel) (by decide) ?_
        refine o_sub [1, 2, 3, 0] rfl ?_
        exact h
      · replace h := h.2 q
        refine o_iconst (n := 0) (v := 0) (by decide +kernel) (by decide) ?_
        exact f_iret (ty := .boolean) rfl (by decide) (by decide +kernel) rfl h
set_option maxRecDepth 20000 in
theorem e_X0_voted {d : Nat} {K : x_T → Int32 → Prop}  {τ : x_T} (h : x_WI (d + 1) mX0_voted K 2 [(0, .ref 339), (1, .int 0)] [] τ) : x_CI (d + 1) mX0_voted [.ref 339] τ K := by
  refine x_CI_of (by decide) (Nat.le_of_ble_eq_true rfl) ?_
  show x_WI (d + 1) mX0_voted K 0 [(0, .ref 339)] [] τ
  refine o_iconst (n := 0) (v := 0) (by decide +kernel) (by decide) ?_
  refine o_istore_n (k := 1) (L' := [(1, .int 0), (0, .ref 339)]) (by decide +kernel) (by decide) rfl ?_
  refine o_sub [1, 0] rfl ?_
  exact h
set_option maxRecDepth 20000 in
theorem k_X0_voted_2 {d : Nat} {K : x_T → Int32 → Prop} {v1 : Int32} {τ : x_T} (h : (τ.1 1 0 ≤ v1 → K τ (-1)) ∧ (¬ τ.1 1 0 ≤ v1 → x_CI d mX0_beatsAll [.ref 339, .int v1] τ (fun t1 a2 => (a2 = 0 → ∀ y3, y3 = v1 + 1 → (x_WI (d + 1) mX0_voted K 2 [(0, .ref 339), (1, .int y3)] [] t1)) ∧ (¬ a2 = 0 → K t1 v1)))) : x_WI (d + 1) mX0_voted K 2 [(0, .ref 339), (1, .int v1)] [] τ := by
  refine o_iload_n (k := 1) 1 (by decide +kernel) rfl ?_
  refine o_aload_n (k := 0) 0 (by decide +kernel) rfl ?_
  refine f_getR (r := 1) (t := 0) (k := 0) (i := 15) (by decide +kernel) sh_339 rfl (by decide) lk_480 (by simp [x_ty, tyX0]) (gr_0_0 sh_339) ?_
  refine f_getI (t := 3) (k := 0) (i := 23) (by decide +kernel) sh_1 rfl (by decide) lk_178 rfl ?_
  refine o_icmp_ge (off := 19) 29 (by decide +kernel) (by decide) (fun q => ?_) (fun q => ?_)
  · replace h := h.1 q
    refine o_iconst (n := -1) (v := (-1)) (by decide +kernel) (by decide) ?_
    exact f_iret (ty := .int) rfl rfl (by decide +kernel) rfl h
  · replace h := h.2 q
    refine o_aload_n (k := 0) 0 (by decide +kernel) rfl ?_
    refine o_iload_n (k := 1) 1 (by decide +kernel) rfl ?_
    refine f_callVI (μ' := mX0_beatsAll) (i := 52) (vs := [.int v1]) (by decide +kernel) lk_1217 (vok_mX0_beatsAll) sh_339 rfl rfl rfl rfl (Nat.le_of_ble_eq_true rfl) ?_
    refine x_CI.mono h (fun t1 a2 h => ?_)
    refine o_if_eq (off := 5) 23 (by decide +kernel) (by decide) (fun q => ?_) (fun q => ?_)
    · replace h := h.1 q
      obtain ⟨y3, ey3⟩ : ∃ y : Int32, y = v1 + 1 := ⟨_, rfl⟩
      replace h := h y3 ey3
      refine o_iinc (i := 1) (n := 1) (v := y3) (L' := [(1, .int y3), (0, .ref 339)]) 1 (by decide +kernel) rfl (by rw [ey3]; rfl) (by decide) rfl ?_
      refine o_goto (off := -24) 2 (by decide +kernel) (by decide) ?_
      refine o_sub [1, 0] rfl ?_
      exact h
    · replace h := h.2 q
      refine o_iload_n (k := 1) 1 (by decide +kernel) rfl ?_
      exact f_iret (ty := .int) rfl rfl (by decide +kernel) rfl h
set_option maxRecDepth 20000 in
theorem e_X0_beatsAll {d : Nat} {K : x_T → Int32 → Prop} {v1 : Int32} {τ : x_T} (h : x_WI (d + 1) mX0_beatsAll K 2 [(0, .ref 339), (1, .int v1), (2, .int 0)] [] τ) : x_CI (d + 1) mX0_beatsAll [.ref 339, .int v1] τ K := by
  refine x_CI_of (by decide) (Nat.le_of_ble_eq_true rfl) ?_
  show x_WI (d + 1) mX0_beatsAll K 0 [(0, .ref 339), (1, .int v1)] [] τ
  refine o_iconst (n := 0) (v := 0) (by decide +kernel) (by decide) ?_
  refine o_istore_n (k := 2) (L' := [(2, .int 0), (0, .ref 339), (1, .int v1)]) (by decide +kernel) (by decide) rfl ?_
  refine o_sub [1, 2, 0] rfl ?_
  exact h
set_option maxRecDepth 20000 in
theorem k_X0_beatsAll_2 {d : Nat} {K : x_T → Int32 → Prop} {v1 : Int32} {v2 : Int32} {τ : x_T} (h : (τ.1 1 0 ≤ v2 → K τ 1) ∧ (¬ τ.1 1 0 ≤ v2 → (v2 = v1 → x_WI (d + 1) mX0_beatsAll K 29 [(0, .ref 339), (1, .int v1), (2, .int v2)] [] τ) ∧ (¬ v2 = v1 → x_CI d mX0_beats [.ref 339, .int v1, .int v2] τ (fun t1 a2 => (¬ a2 = 0 → x_WI (d + 1) mX0_beatsAll K 29 [(0, .ref 339), (1, .int v1), (2, .int v2)] [] t1) ∧ (a2 = 0 → K t1 0))))) : x_WI (d + 1) mX0_beatsAll K 2 [(0, .ref 339), (1, .int v1), (2, .int v2)] [] τ := by
  refine o_iload_n (k := 2) 2 (by decide +kernel) rfl ?_
  refine o_aload_n (k := 0) 0 (by decide +kernel) rfl ?_
  refine f_getR (r := 1) (t := 0) (k := 0) (i := 15) (by decide +kernel) sh_339 rfl (by decide) lk_480 (by simp [x_ty, tyX0]) (gr_0_0 sh_339) ?_
  refine f_getI (t := 3) (k := 0) (i := 23) (by decide +kernel) sh_1 rfl (by decide) lk_178 rfl ?_
  refine o_icmp_ge (off := 25) 35 (by decide +kernel) (by decide) (fun q => ?_) (fun q => ?_)
  · replace h := h.1 q
    refine o_iconst (n := 1) (v := 1) (by decide +kernel) (by decide) ?_
    exact f_iret (ty := .boolean) rfl (by decide) (by decide +kernel) rfl h
  · replace h := h.2 q
    refine o_iload_n (k := 2) 2 (by decide +kernel) rfl ?_
    refine o_iload_n (k := 1) 1 (by decide +kernel) rfl ?_
    refine o_icmp_eq (off := 14) 29 (by decide +kernel) (by decide) (fun q => ?_) (fun q => ?_)
    · replace h := h.1 q
      exact h
    · replace h := h.2 q
      refine o_aload_n (k := 0) 0 (by decide +kernel) rfl ?_
      refine o_iload_n (k := 1) 1 (by decide +kernel) rfl ?_
      refine o_iload_n (k := 2) 2 (by decide +kernel) rfl ?_
      refine f_callVI (μ' := mX0_beats) (i := 55) (vs := [.int v1, .int v2]) (by decide +kernel) lk_1221 (vok_mX0_beats) sh_339 rfl rfl rfl rfl (Nat.le_of_ble_eq_true rfl) ?_
      refine x_CI.mono h (fun t1 a2 h => ?_)
      refine o_if_ne (off := 5) 29 (by decide +kernel) (by decide) (fun q => ?_) (fun q => ?_)
      · replace h := h.1 q
        exact h
      · replace h := h.2 q
        refine o_iconst (n := 0) (v := 0) (by decide +kernel) (by decide) ?_
        exact f_iret (ty := .boolean) rfl (by decide) (by decide +kernel) rfl h
set_option maxRecDepth 20000 in
theorem k_X0_beatsAll_29 {d : Nat} {K : x_T → Int32 → Prop} {v1 : Int32} {v2 : Int32} {τ : x_T} (h : ∀ y1, y1 = v2 + 1 → (x_WI (d + 1) mX0_beatsAll K 2 [(0, .ref 339), (1, .int v1), (2, .int y1)] [] τ)) : x_WI (d + 1) mX0_beatsAll K 29 [(0, .ref 339), (1, .int v1), (2, .int v2)] [] τ := by
  obtain ⟨y1, ey1⟩ : ∃ y : Int32, y = v2 + 1 := ⟨_, rfl⟩
  replace h := h y1 ey1
  refine o_iinc (i := 2) (n := 1) (v := y1) (L' := [(2, .int y1), (0, .ref 339), (1, .int v1)]) 2 (by decide +kernel) rfl (by rw [ey1]; rfl) (by decide) rfl ?_
  refine o_goto (off := -30) 2 (by decide +kernel) (by decide) ?_
  refine o_sub [1, 2, 0] rfl ?_
  exact h
set_option maxRecDepth 20000 in
theorem e_X0_beats {d : Nat} {K : x_T → Int32 → Prop} {v1 : Int32} {v2 : Int32} {τ : x_T} (h : x_WI (d + 1) mX0_beats K 5 [(0, .ref 339), (1, .int v1), (2, .int v2), (3, .int 0), (4, .int 0)] [] τ) : x_CI (d + 1) mX0_beats [.ref 339, .int v1, .int v2] τ K := by
  refine x_CI_of (by decide) (Nat.le_of_ble_eq_true rfl) ?_
  show x_WI (d + 1) mX0_beats K 0 [(0, .ref 339), (1, .int v1), (2, .int v2)] [] τ
  refine o_iconst (n := 0) (v := 0) (by decide +kernel) (by decide) ?_
  refine o_istore_n (k := 3) (L' := [(3, .int 0), (0, .ref 339), (1, .int v1), (2, .int v2)]) (by decide +kernel) (by decide) rfl ?_
  refine o_iconst (n := 0) (v := 0) (by decide +kernel) (by decide) ?_
  refine o_istore (k := 4) (L' := [(4, .int 0), (3, .int 0), (0, .ref 339), (1, .int v1), (2, .int v2)]) (by decide +kernel) (by decide) rfl ?_
  refine o_sub [2, 3, 4, 1, 0] rfl ?_
  exact h
set_option maxRecDepth 20000 in
theorem k_X0_beats_5 {d : Nat} {K : x_T → Int32 → Prop} {v1 : Int32} {v2 : Int32} {v3 : Int32} {v4 : Int32} {τ : x_T} (h : (τ.1 1 0 ≤ v4 → (v3 ≤ 0 → K τ 0) ∧ (¬ v3 ≤ 0 → K τ 1)) ∧ (¬ τ.1 1 0 ≤ v4 → x_CI d mX3_wayBetween [.ref 1, .int v4, .int v1] τ (fun t1 a2 => x_CI d mX3_wayBetween [.ref 1, .int v4, .int v2] t1 (fun t3 a4 => (a2 < a4 → x_WI (d + 1) mX0_beats K 60 [(0, .ref 339), (1, .int v1), (2, .int v2), (3, .int v3), (4, .int v4)] [] t3) ∧ (¬ a2 < a4 → (¬ a2 = a4 → x_WI (d + 1) mX0_beats K 64 [(0, .ref 339), (1, .int v1), (2, .int v2), (3, .int v3), (4, .int v4)] [] t3) ∧ (a2 = a4 → (v2 ≤ v1 → x_WI (d + 1) mX0_beats K 64 [(0, .ref 339), (1, .int v1), (2, .int v2), (3, .int v3), (4, .int v4)] [] t3) ∧ (¬ v2 ≤ v1 → x_WI (d + 1) mX0_beats K 60 [(0, .ref 339), (1, .int v1), (2, .int v2), (3, .int v3), (4, .int v4)] [] t3))))))) : x_WI (d + 1) mX0_beats K 5 [(0, .ref 339), (1, .int v1), (2, .int v2), (3, .int v3), (4, .int v4)] [] τ := by
  refine o_iload (k := 4) 4 (by decide +kernel) rfl ?_
  refine o_aload_n (k := 0) 0 (by decide +kernel) rfl ?_
  refine f_getR (r := 1) (t := 0) (k := 0) (i := 15) (by decide +kernel) sh_339 rfl (by decide) lk_480 (by simp [x_ty, tyX0]) (gr_0_0 sh_339) ?_
  refine f_getI (t := 3) (k := 0) (i := 23) (by decide +kernel) sh_1 rfl (by decide) lk_178 rfl ?_
  refine o_icmp_ge (off := 72) 86 (by decide +kernel) (by decide) (fun q => ?_) (fun q => ?_)
  · replace h := h.1 q
    refine o_iload_n (k := 3) 3 (by decide +kernel) rfl ?_
    refine o_if_le (off := 7) 94 (by decide +kernel) (by decide) (fun q => ?_) (fun q => ?_)
    · replace h := h.1 q
      refine o_iconst (n := 0) (v := 0) (by decide +kernel) (by decide) ?_
      exact f_iret (ty := .boolean) rfl (by decide) (by decide +kernel) rfl h
    · replace h := h.2 q
      refine o_iconst (n := 1) (v := 1) (by decide +kernel) (by decide) ?_
      refine o_goto (off := 4) 95 (by decide +kernel) (by decide) ?_
      exact f_iret (ty := .boolean) rfl (by decide) (by decide +kernel) rfl h
  · replace h := h.2 q
    refine o_aload_n (k := 0) 0 (by decide +kernel) rfl ?_
    refine f_getR (r := 1) (t := 0) (k := 0) (i := 15) (by decide +kernel) sh_339 rfl (by decide) lk_480 (by simp [x_ty, tyX0]) (gr_0_0 sh_339) ?_
    refine o_iload (k := 4) 4 (by decide +kernel) rfl ?_
    refine o_iload_n (k := 1) 1 (by decide +kernel) rfl ?_
    refine f_callVI (μ' := mX3_wayBetween) (i := 59) (vs := [.int v4, .int v1]) (by decide +kernel) lk_1225 (vok_mX3_wayBetween) sh_1 rfl rfl rfl rfl (Nat.le_of_ble_eq_true rfl) ?_
    refine x_CI.mono h (fun t1 a2 h => ?_)
    refine o_istore (k := 5) (L' := [(5, .int a2), (0, .ref 339), (1, .int v1), (2, .int v2), (3, .int v3), (4, .int v4)]) (by decide +kernel) (by decide) rfl ?_
    refine o_aload_n (k := 0) 1 (by decide +kernel) rfl ?_
    refine f_getR (r := 1) (t := 0) (k := 0) (i := 15) (by decide +kernel) sh_339 rfl (by decide) lk_480 (by simp [x_ty, tyX0]) (gr_0_0 sh_339) ?_
    refine o_iload (k := 4) 5 (by decide +kernel) rfl ?_
    refine o_iload_n (k := 2) 3 (by decide +kernel) rfl ?_
    refine f_callVI (μ' := mX3_wayBetween) (i := 59) (vs := [.int v4, .int v2]) (by decide +kernel) lk_1225 (vok_mX3_wayBetween) sh_1 rfl rfl rfl rfl (Nat.le_of_ble_eq_true rfl) ?_
    refine x_CI.mono h (fun t3 a4 h => ?_)
    refine o_istore (k := 6) (L' := [(6, .int a4), (5, .int a2), (0, .ref 339), (1, .int v1), (2, .int v2), (3, .int v3), (4, .int v4)]) (by decide +kernel) (by decide) rfl ?_
    refine o_iload (k := 5) 1 (by decide +kernel) rfl ?_
    refine o_iload (k := 6) 0 (by decide +kernel) rfl ?_
    refine o_icmp_lt (off := 15) 60 (by decide +kernel) (by decide) (fun q => ?_) (fun q => ?_)
    · replace h := h.1 q
      refine o_sub [2, 3, 4, 5, 6] rfl ?_
      exact h
    · replace h := h.2 q
      refine o_iload (k := 5) 1 (by decide +kernel) rfl ?_
      refine o_iload (k := 6) 0 (by decide +kernel) rfl ?_
      refine o_icmp_ne (off := 12) 64 (by decide +kernel) (by decide) (fun q => ?_) (fun q => ?_)
      · replace h := h.1 q
        refine o_sub [2, 3, 4, 5, 6] rfl ?_
        exact h
      · replace h := h.2 q
        refine o_iload_n (k := 1) 3 (by decide +kernel) rfl ?_
        refine o_iload_n (k := 2) 4 (by decide +kernel) rfl ?_
        refine o_icmp_ge (off := 7) 64 (by decide +kernel) (by decide) (fun q => ?_) (fun q => ?_)
        · replace h := h.1 q
          refine o_sub [2, 3, 4, 5, 6] rfl ?_
          exact h
        · replace h := h.2 q
          refine o_sub [2, 3, 4, 5, 6] rfl ?_
          exact h
set_option maxRecDepth 20000 in
theorem k_X0_beats_60 {d : Nat} {K : x_T → Int32 → Prop} {v1 : Int32} {v2 : Int32} {v3 : Int32} {v4 : Int32} {τ : x_T} (h : x_WI (d + 1) mX0_beats K 65 [(0, .ref 339), (1, .int v1), (2, .int v2), (3, .int v3), (4, .int v4)] [.int 1] τ) : x_WI (d + 1) mX0_beats K 60 [(0, .ref 339), (1, .int v1), (2, .int v2), (3, .int v3), (4, .int v4)] [] τ := by
  refine o_iconst (n := 1) (v := 1) (by decide +kernel) (by decide) ?_
  refine o_goto (off := 4) 65 (by decide +kernel) (by decide) ?_
  exact h
set_option maxRecDepth 20000 in
theorem k_X0_beats_64 {d : Nat} {K : x_T → Int32 → Prop} {v1 : Int32} {v2 : Int32} {v3 : Int32} {v4 : Int32} {τ : x_T} (h : x_WI (d + 1) mX0_beats K 65 [(0, .ref 339), (1, .int v1), (2, .int v2), (3, .int v3), (4, .int v4)] [.int 0] τ) : x_WI (d + 1) mX0_beats K 64 [(0, .ref 339), (1, .int v1), (2, .int v2), (3, .int v3), (4, .int v4)] [] τ := by
  refine o_iconst (n := 0) (v := 0) (by decide +kernel) (by decide) ?_
  exact h
set_option maxRecDepth 20000 in
theorem k_X0_beats_65 {d : Nat} {K : x_T → Int32 → Prop} {v1 : Int32} {v2 : Int32} {v3 : Int32} {v4 : Int32} {s0 : Int32} {τ : x_T} (h : (s0 = 0 → x_WI (d + 1) mX0_beats K 78 [(0, .ref 339), (1, .int v1), (2, .int v2), (4, .int v4)] [.int (-1), .int v3] τ) ∧ (¬ s0 = 0 → x_WI (d + 1) mX0_beats K 78 [(0, .ref 339), (1, .int v1), (2, .int v2), (4, .int v4)] [.int 1, .int v3] τ)) : x_WI (d + 1) mX0_beats K 65 [(0, .ref 339), (1, .int v1), (2, .int v2), (3, .int v3), (4, .int v4)] [.int s0] τ := by
  refine o_istore (k := 7) (L' := [(7, .int s0), (0, .ref 339), (1, .int v1), (2, .int v2), (3, .int v3), (4, .int v4)]) (by decide +kernel) (by decide) rfl ?_
  refine o_iload_n (k := 3) 4 (by decide +kernel) rfl ?_
  refine o_iload (k := 7) 0 (by decide +kernel) rfl ?_
  refine o_if_eq (off := 7) 77 (by decide +kernel) (by decide) (fun q => ?_) (fun q => ?_)
  · replace h := h.1 q
    refine o_iconst (n := -1) (v := (-1)) (by decide +kernel) (by decide) ?_
    refine o_sub [1, 2, 3, 5] rfl ?_
    exact h
  · replace h := h.2 q
    refine o_iconst (n := 1) (v := 1) (by decide +kernel) (by decide) ?_
    refine o_goto (off := 4) 78 (by decide +kernel) (by decide) ?_
    refine o_sub [1, 2, 3, 5] rfl ?_
    exact h
set_option maxRecDepth 20000 in
theorem k_X0_beats_78 {d : Nat} {K : x_T → Int32 → Prop} {v1 : Int32} {v2 : Int32} {v4 : Int32} {s0 : Int32} {s1 : Int32} {τ : x_T} (h : ∀ y1, y1 = s1 + s0 → (∀ y2, y2 = v4 + 1 → (x_WI (d + 1) mX0_beats K 5 [(0, .ref 339), (1, .int v1), (2, .int v2), (3, .int y1), (4, .int y2)] [] τ))) : x_WI (d + 1) mX0_beats K 78 [(0, .ref 339), (1, .int v1), (2, .int v2), (4, .int v4)] [.int s0, .int s1] τ := by
  refine o_iadd (by decide +kernel) ?_
  refine o_name (fun y1 ey1 => ?_)
  replace h := h y1 ey1
  refine o_istore_n (k := 3) (L' := [(3, .int y1), (0, .ref 339), (1, .int v1), (2, .int v2), (4, .int v4)]) (by decide +kernel) (by decide) rfl ?_
  obtain ⟨y2, ey2⟩ : ∃ y : Int32, y = v4 + 1 := ⟨_, rfl⟩
  replace h := h y2 ey2
  refine o_iinc (i := 4) (n := 1) (v := y2) (L' := [(4, .int y2), (3, .int y1), (0, .ref 339), (1, .int v1), (2, .int v2)]) 4 (by decide +kernel) rfl (by rw [ey2]; rfl) (by decide) rfl ?_
  refine o_goto (off := -78) 5 (by decide +kernel) (by decide) ?_
  refine o_sub [2, 3, 4, 1, 0] rfl ?_
  exact h
set_option maxRecDepth 20000 in
theorem e_X0_leftOfRow {d : Nat} {K : x_T → Int32 → Prop} {v1 : Int32} {v2 : Int32} {τ : x_T} (h : (8 < v2 → K τ (-1)) ∧ (¬ 8 < v2 → x_CI d mX0_isRow [.ref 339, .int v1, .int v2] τ (fun t1 a2 => (¬ a2 = 0 → ∀ y3, y3 = t1.1 340 0 → (x_WI (d + 1) mX0_leftOfRow K 27 [(0, .ref 339), (2, .int v2), (3, .int y3), (4, .int 1)] [] t1)) ∧ (a2 = 0 → K t1 (-1))))) : x_CI (d + 1) mX0_leftOfRow [.ref 339, .int v1, .int v2] τ K := by
  refine x_CI_of (by decide) (Nat.le_of_ble_eq_true rfl) ?_
  show x_WI (d + 1) mX0_leftOfRow K 0 [(0, .ref 339), (1, .int v1), (2, .int v2)] [] τ
  refine o_iload_n (k := 2) 2 (by decide +kernel) rfl ?_
  refine o_bipush (n := 8) (v := 8) (by decide +kernel) (by decide) ?_
  refine o_icmp_gt (off := 12) 15 (by decide +kernel) (by decide) (fun q => ?_) (fun q => ?_)
  · replace h := h.1 q
    refine o_iconst (n := -1) (v := (-1)) (by decide +kernel) (by decide) ?_
    exact f_iret (ty := .int) rfl rfl (by decide +kernel) rfl h
  · replace h := h.2 q
    refine o_aload_n (k := 0) 0 (by decide +kernel) rfl ?_
    refine o_iload_n (k := 1) 1 (by decide +kernel) rfl ?_
    refine o_iload_n (k := 2) 2 (by decide +kernel) rfl ?_
    refine f_callVI (μ' := mX0_isRow) (i := 62) (vs := [.int v1, .int v2]) (by decide +kernel) lk_1234 (vok_mX0_isRow) sh_339 rfl rfl rfl rfl (Nat.le_of_ble_eq_true rfl) ?_
    refine x_CI.mono h (fun t1 a2 h => ?_)
    refine o_if_ne (off := 5) 17 (by decide +kernel) (by decide) (fun q => ?_) (fun q => ?_)
    · replace h := h.1 q
      refine o_aload_n (k := 0) 0 (by decide +kernel) rfl ?_
      refine f_getR (r := 340) (t := 0) (k := 2) (i := 9) (by decide +kernel) sh_339 rfl (by decide) lk_482 (by simp [x_ty, tyX0]) (gr_0_2 sh_339) ?_
      refine o_iconst (n := 0) (v := 0) (by decide +kernel) (by decide) ?_
      refine f_iald (k := 0) (by decide +kernel) sh_340 (by unfold vp_in; decide) (by decide) ?_
      refine o_name (fun y3 ey3 => ?_)
      replace h := h y3 ey3
      refine o_istore_n (k := 3) (L' := [(3, .int y3), (0, .ref 339), (1, .int v1), (2, .int v2)]) (by decide +kernel) (by decide) rfl ?_
      refine o_iconst (n := 1) (v := 1) (by decide +kernel) (by decide) ?_
      refine o_istore (k := 4) (L' := [(4, .int 1), (3, .int y3), (0, .ref 339), (1, .int v1), (2, .int v2)]) (by decide +kernel) (by decide) rfl ?_
      refine o_sub [2, 4, 1, 0] rfl ?_
      exact h
    · replace h := h.2 q
      refine o_iconst (n := -1) (v := (-1)) (by decide +kernel) (by decide) ?_
      exact f_iret (ty := .int) rfl rfl (by decide +kernel) rfl h
set_option maxRecDepth 20000 in
theorem k_X0_leftOfRow_27 {d : Nat} {K : x_T → Int32 → Prop} {v2 : Int32} {v3 : Int32} {v4 : Int32} {τ : x_T} (h : (v2 ≤ v4 → K τ v3) ∧ (¬ v2 ≤ v4 → vp_in v4 8 ∧ (x_CI d mX0_beats [.ref 339, .int (τ.1 340 v4.toNatClampNeg), .int v3] τ (fun t1 a2 => (a2 = 0 → x_WI (d + 1) mX0_leftOfRow K 56 [(0, .ref 339), (2, .int v2), (3, .int v3), (4, .int v4)] [] t1) ∧ (¬ a2 = 0 → vp_in v4 8 ∧ (∀ y3, y3 = t1.1 340 v4.toNatClampNeg → (x_WI (d + 1) mX0_leftOfRow K 56 [(0, .ref 339), (2, .int v2), (3, .int y3), (4, .int v4)] [] t1))))))) : x_WI (d + 1) mX0_leftOfRow K 27 [(0, .ref 339), (2, .int v2), (3, .int v3), (4, .int v4)] [] τ := by
  refine o_iload (k := 4) 3 (by decide +kernel) rfl ?_
  refine o_iload_n (k := 2) 1 (by decide +kernel) rfl ?_
  refine o_icmp_ge (off := 32) 62 (by decide +kernel) (by decide) (fun q => ?_) (fun q => ?_)
  · replace h := h.1 q
    refine o_iload_n (k := 3) 2 (by decide +kernel) rfl ?_
    exact f_iret (ty := .int) rfl rfl (by decide +kernel) rfl h
  · replace h := h.2 q
    refine o_aload_n (k := 0) 0 (by decide +kernel) rfl ?_
    refine o_aload_n (k := 0) 0 (by decide +kernel) rfl ?_
    refine f_getR (r := 340) (t := 0) (k := 2) (i := 9) (by decide +kernel) sh_339 rfl (by decide) lk_482 (by simp [x_ty, tyX0]) (gr_0_2 sh_339) ?_
    refine o_iload (k := 4) 3 (by decide +kernel) rfl ?_
    obtain ⟨hi, h⟩ := h
    refine f_iald (by decide +kernel) sh_340 hi rfl ?_
    refine o_iload_n (k := 3) 2 (by decide +kernel) rfl ?_
    refine f_callVI (μ' := mX0_beats) (i := 55) (vs := [.int (τ.1 340 v4.toNatClampNeg), .int v3]) (by decide +kernel) lk_1221 (vok_mX0_beats) sh_339 rfl rfl rfl rfl (Nat.le_of_ble_eq_true rfl) ?_
    refine x_CI.mono h (fun t1 a2 h => ?_)
    refine o_if_eq (off := 11) 56 (by decide +kernel) (by decide) (fun q => ?_) (fun q => ?_)
    · replace h := h.1 q
      exact h
    · replace h := h.2 q
      refine o_aload_n (k := 0) 0 (by decide +kernel) rfl ?_
      refine f_getR (r := 340) (t := 0) (k := 2) (i := 9) (by decide +kernel) sh_339 rfl (by decide) lk_482 (by simp [x_ty, tyX0]) (gr_0_2 sh_339) ?_
      refine o_iload (k := 4) 3 (by decide +kernel) rfl ?_
      obtain ⟨hi, h⟩ := h
      refine f_iald (by decide +kernel) sh_340 hi rfl ?_
      refine o_name (fun y3 ey3 => ?_)
      replace h := h y3 ey3
      refine o_istore_n (k := 3) (L' := [(3, .int y3), (0, .ref 339), (2, .int v2), (4, .int v4)]) (by decide +kernel) (by decide) rfl ?_
      refine o_sub [1, 2, 0, 3] rfl ?_
      exact h
set_option maxRecDepth 20000 in
theorem k_X0_leftOfRow_56 {d : Nat} {K : x_T → Int32 → Prop} {v2 : Int32} {v3 : Int32} {v4 : Int32} {τ : x_T} (h : ∀ y1, y1 = v4 + 1 → (x_WI (d + 1) mX0_leftOfRow K 27 [(0, .ref 339), (2, .int v2), (3, .int v3), (4, .int y1)] [] τ)) : x_WI (d + 1) mX0_leftOfRow K 56 [(0, .ref 339), (2, .int v2), (3, .int v3), (4, .int v4)] [] τ := by
  obtain ⟨y1, ey1⟩ : ∃ y : Int32, y = v4 + 1 := ⟨_, rfl⟩
  replace h := h y1 ey1
  refine o_iinc (i := 4) (n := 1) (v := y1) (L' := [(4, .int y1), (0, .ref 339), (2, .int v2), (3, .int v3)]) 3 (by decide +kernel) rfl (by rw [ey1]; rfl) (by decide) rfl ?_
  refine o_goto (off := -32) 27 (by decide +kernel) (by decide) ?_
  refine o_sub [1, 2, 3, 0] rfl ?_
  exact h
set_option maxRecDepth 20000 in
theorem e_X0_isRow {d : Nat} {K : x_T → Int32 → Prop} {v1 : Int32} {v2 : Int32} {τ : x_T} (h : ∀ y1, y1 = (if 8 < v2 then 8 else v2) → (∀ y2, y2 = y1 - 1 → (x_WI (d + 1) mX0_isRow K 15 [(0, .ref 339), (3, .int v1), (4, .int 0), (5, .int y2)] [] τ))) : x_CI (d + 1) mX0_isRow [.ref 339, .int v1, .int v2] τ K := by
  refine x_CI_of (by decide) (Nat.le_of_ble_eq_true rfl) ?_
  show x_WI (d + 1) mX0_isRow K 0 [(0, .ref 339), (1, .int v1), (2, .int v2)] [] τ
  refine o_iload_n (k := 1) 1 (by decide +kernel) rfl ?_
  refine o_istore_n (k := 3) (L' := [(3, .int v1), (0, .ref 339), (1, .int v1), (2, .int v2)]) (by decide +kernel) (by decide) rfl ?_
  refine o_iconst (n := 0) (v := 0) (by decide +kernel) (by decide) ?_
  refine o_istore (k := 4) (L' := [(4, .int 0), (3, .int v1), (0, .ref 339), (1, .int v1), (2, .int v2)]) (by decide +kernel) (by decide) rfl ?_
  refine o_iload_n (k := 2) 4 (by decide +kernel) rfl ?_
  refine o_bipush (n := 8) (v := 8) (by decide +kernel) (by decide) ?_
  refine o_mmin (i := 65) (by decide +kernel) lk_1238 lm_min (Nat.le_of_ble_eq_true rfl) ?_
  refine o_name (fun y1 ey1 => ?_)
  replace h := h y1 ey1
  refine o_iconst (n := 1) (v := 1) (by decide +kernel) (by decide) ?_
  refine o_isub (by decide +kernel) ?_
  refine o_name (fun y2 ey2 => ?_)
  replace h := h y2 ey2
  refine o_istore (k := 5) (L' := [(5, .int y2), (4, .int 0), (3, .int v1), (0, .ref 339), (1, .int v1), (2, .int v2)]) (by decide +kernel) (by decide) rfl ?_
  refine o_sub [3, 2, 1, 0] rfl ?_
  exact h
set_option maxRecDepth 20000 in
theorem k_X0_isRow_15 {d : Nat} {K : x_T → Int32 → Prop} {v3 : Int32} {v4 : Int32} {v5 : Int32} {τ : x_T} (h : (v5 < 0 → (¬ v3 = 0 → K τ 0) ∧ (v3 = 0 → K τ 1)) ∧ (¬ v5 < 0 → ∀ y1, y1 = v3 - v3 / 10 * 10 → (∀ y2, y2 = v3 / 10 → (x_CI d mX3_isHouse [.ref 1, .int y1] τ (fun t3 a4 => (a4 = 0 → K t3 0) ∧ (¬ a4 = 0 → ((v4 >>> (y1 &&& 31)) &&& 1 = 0 → ∀ y5, y5 = v4 ||| (1 <<< (y1 &&& 31)) → (vp_in v5 8 ∧ (∀ t6, t6 = x_w1 t3 340 v5.toNatClampNeg y1 → (∀ y7, y7 = v5 + (-1) → (x_WI (d + 1) mX0_isRow K 15 [(0, .ref 339), (3, .int y2), (4, .int y5), (5, .int y7)] [] t6))))) ∧ (¬ (v4 >>> (y1 &&& 31)) &&& 1 = 0 → K t3 0))))))) : x_WI (d + 1) mX0_isRow K 15 [(0, .ref 339), (3, .int v3), (4, .int v4), (5, .int v5)] [] τ := by
  refine o_iload (k := 5) 3 (by decide +kernel) rfl ?_
  refine o_if_lt (off := 62) 79 (by decide +kernel) (by decide) (fun q => ?_) (fun q => ?_)
  · replace h := h.1 q
    refine o_iload_n (k := 3) 1 (by decide +kernel) rfl ?_
    refine o_if_ne (off := 7) 87 (by decide +kernel) (by decide) (fun q => ?_) (fun q => ?_)
    · replace h := h.1 q
      refine o_iconst (n := 0) (v := 0) (by decide +kernel) (by decide) ?_
      exact f_iret (ty := .boolean) rfl (by decide) (by decide +kernel) rfl h
    · replace h := h.2 q
      refine o_iconst (n := 1) (v := 1) (by decide +kernel) (by decide) ?_
      refine o_goto (off := 4) 88 (by decide +kernel) (by decide) ?_
      exact f_iret (ty := .boolean) rfl (by decide) (by decide +kernel) rfl h
  · replace h := h.2 q
    refine o_iload_n (k := 3) 1 (by decide +kernel) rfl ?_
    refine o_bipush (n := 10) (v := 10) (by decide +kernel) (by decide) ?_
    refine o_irem (by decide +kernel) (by decide) ?_
    refine o_name (fun y1 ey1 => ?_)
    replace h := h y1 ey1
    refine o_istore (k := 6) (L' := [(6, .int y1), (0, .ref 339), (3, .int v3), (4, .int v4), (5, .int v5)]) (by decide +kernel) (by decide) rfl ?_
    refine o_iload_n (k := 3) 2 (by decide +kernel) rfl ?_
    refine o_bipush (n := 10) (v := 10) (by decide +kernel) (by decide) ?_
    refine o_idiv (by decide +kernel) (by decide) ?_
    refine o_name (fun y2 ey2 => ?_)
    replace h := h y2 ey2
    refine o_istore_n (k := 3) (L' := [(3, .int y2), (6, .int y1), (0, .ref 339), (4, .int v4), (5, .int v5)]) (by decide +kernel) (by decide) rfl ?_
    refine o_aload_n (k := 0) 2 (by decide +kernel) rfl ?_
    refine f_getR (r := 1) (t := 0) (k := 0) (i := 15) (by decide +kernel) sh_339 rfl (by decide) lk_480 (by simp [x_ty, tyX0]) (gr_0_0 sh_339) ?_
    refine o_iload (k := 6) 1 (by decide +kernel) rfl ?_
    refine f_callVI (μ' := mX3_isHouse) (i := 70) (vs := [.int y1]) (by decide +kernel) lk_1239 (vok_mX3_isHouse) sh_1 rfl rfl rfl rfl (Nat.le_of_ble_eq_true rfl) ?_
    refine x_CI.mono h (fun t3 a4 h => ?_)
    refine o_if_eq (off := 13) 53 (by decide +kernel) (by decide) (fun q => ?_) (fun q => ?_)
    · replace h := h.1 q
      refine o_iconst (n := 0) (v := 0) (by decide +kernel) (by decide) ?_
      exact f_iret (ty := .boolean) rfl (by decide) (by decide +kernel) rfl h
    · replace h := h.2 q
      refine o_iload (k := 4) 3 (by decide +kernel) rfl ?_
      refine o_iload (k := 6) 1 (by decide +kernel) rfl ?_
      refine o_ishr (by decide +kernel) ?_
      refine o_iconst (n := 1) (v := 1) (by decide +kernel) (by decide) ?_
      refine o_iand (by decide +kernel) ?_
      refine o_if_eq (off := 5) 55 (by decide +kernel) (by decide) (fun q => ?_) (fun q => ?_)
      · replace h := h.1 q
        refine o_iload (k := 4) 3 (by decide +kernel) rfl ?_
        refine o_iconst (n := 1) (v := 1) (by decide +kernel) (by decide) ?_
        refine o_iload (k := 6) 1 (by decide +kernel) rfl ?_
        refine o_ishl (by decide +kernel) ?_
        refine o_ior (by decide +kernel) ?_
        refine o_name (fun y5 ey5 => ?_)
        replace h := h y5 ey5
        refine o_istore (k := 4) (L' := [(4, .int y5), (3, .int y2), (6, .int y1), (0, .ref 339), (5, .int v5)]) (by decide +kernel) (by decide) rfl ?_
        refine o_aload_n (k := 0) 3 (by decide +kernel) rfl ?_
        refine f_getR (r := 340) (t := 0) (k := 2) (i := 9) (by decide +kernel) sh_339 rfl (by decide) lk_482 (by simp [x_ty, tyX0]) (gr_0_2 sh_339) ?_
        refine o_iload (k := 5) 4 (by decide +kernel) rfl ?_
        refine o_iload (k := 6) 2 (by decide +kernel) rfl ?_
        obtain ⟨hi, h⟩ := h
        refine f_iast (by decide +kernel) sh_340 hi rfl ?_
        refine f_name (fun t6 et6 => ?_)
        replace h := h t6 et6
        obtain ⟨y7, ey7⟩ : ∃ y : Int32, y = v5 + (-1) := ⟨_, rfl⟩
        replace h := h y7 ey7
        refine o_iinc (i := 5) (n := -1) (v := y7) (L' := [(5, .int y7), (4, .int y5), (3, .int y2), (6, .int y1), (0, .ref 339)]) 4 (by decide +kernel) rfl (by rw [ey7]; rfl) (by decide) rfl ?_
        refine o_goto (off := -61) 15 (by decide +kernel) (by decide) ?_
        refine o_sub [4, 2, 1, 0] rfl ?_
        exact h
      · replace h := h.2 q
        refine o_iconst (n := 0) (v := 0) (by decide +kernel) (by decide) ?_
        exact f_iret (ty := .boolean) rfl (by decide) (by decide +kernel) rfl h
set_option maxRecDepth 20000 in
theorem e_X0_fairTurn {d : Nat} {K : x_T → Int32 → Prop} {v1 : Int32} {τ : x_T} (h : x_WI (d + 1) mX0_fairTurn K 2 [(0, .ref 339), (1, .int v1), (2, .int 0)] [] τ) : x_CI (d + 1) mX0_fairTurn [.ref 339, .int v1] τ K := by
  refine x_CI_of (by decide) (Nat.le_of_ble_eq_true rfl) ?_
  show x_WI (d + 1) mX0_fairTurn K 0 [(0, .ref 339), (1, .int v1)] [] τ
  refine o_iconst (n := 0) (v := 0) (by decide +kernel) (by decide) ?_
  refine o_istore_n (k := 2) (L' := [(2, .int 0), (0, .ref 339), (1, .int v1)]) (by decide +kernel) (by decide) rfl ?_
  refine o_sub [1, 2, 0] rfl ?_
  exact h
set_option maxRecDepth 20000 in
theorem k_X0_fairTurn_2 {d : Nat} {K : x_T → Int32 → Prop} {v1 : Int32} {v2 : Int32} {τ : x_T} (h : (8 ≤ v2 → x_WI (d + 1) mX0_fairTurn K 25 [(0, .ref 339), (1, .int v1), (2, .int (-1)), (3, .int 0)] [] τ) ∧ (¬ 8 ≤ v2 → vp_in v2 8 ∧ (∀ t1, t1 = x_w1 τ 340 v2.toNatClampNeg 0 → (∀ y2, y2 = v2 + 1 → (x_WI (d + 1) mX0_fairTurn K 2 [(0, .ref 339), (1, .int v1), (2, .int y2)] [] t1))))) : x_WI (d + 1) mX0_fairTurn K 2 [(0, .ref 339), (1, .int v1), (2, .int v2)] [] τ := by
  refine o_iload_n (k := 2) 2 (by decide +kernel) rfl ?_
  refine o_bipush (n := 8) (v := 8) (by decide +kernel) (by decide) ?_
  refine o_icmp_ge (off := 16) 21 (by decide +kernel) (by decide) (fun q => ?_) (fun q => ?_)
  · replace h := h.1 q
    refine o_iconst (n := -1) (v := (-1)) (by decide +kernel) (by decide) ?_
    refine o_istore_n (k := 2) (L' := [(2, .int (-1)), (0, .ref 339), (1, .int v1)]) (by decide +kernel) (by decide) rfl ?_
    refine o_iconst (n := 0) (v := 0) (by decide +kernel) (by decide) ?_
    refine o_istore_n (k := 3) (L' := [(3, .int 0), (2, .int (-1)), (0, .ref 339), (1, .int v1)]) (by decide +kernel) (by decide) rfl ?_
    refine o_sub [2, 3, 1, 0] rfl ?_
    exact h
  · replace h := h.2 q
    refine o_aload_n (k := 0) 0 (by decide +kernel) rfl ?_
    refine f_getR (r := 340) (t := 0) (k := 2) (i := 9) (by decide +kernel) sh_339 rfl (by decide) lk_482 (by simp [x_ty, tyX0]) (gr_0_2 sh_339) ?_
    refine o_iload_n (k := 2) 2 (by decide +kernel) rfl ?_
    refine o_iconst (n := 0) (v := 0) (by decide +kernel) (by decide) ?_
    obtain ⟨hi, h⟩ := h
    refine f_iast (by decide +kernel) sh_340 hi rfl ?_
    refine f_name (fun t1 et1 => ?_)
    replace h := h t1 et1
    obtain ⟨y2, ey2⟩ : ∃ y : Int32, y = v2 + 1 := ⟨_, rfl⟩
    replace h := h y2 ey2
    refine o_iinc (i := 2) (n := 1) (v := y2) (L' := [(2, .int y2), (0, .ref 339), (1, .int v1)]) 2 (by decide +kernel) rfl (by rw [ey2]; rfl) (by decide) rfl ?_
    refine o_goto (off := -16) 2 (by decide +kernel) (by decide) ?_
    refine o_sub [1, 2, 0] rfl ?_
    exact h
set_option maxRecDepth 20000 in
theorem k_X0_fairTurn_25 {d : Nat} {K : x_T → Int32 → Prop} {v1 : Int32} {v2 : Int32} {v3 : Int32} {τ : x_T} (h : (v1 ≤ v3 → K τ v2) ∧ (¬ v1 ≤ v3 → x_CI d mX0_leastServed [.ref 339] τ (fun t1 a2 => (a2 < 0 → x_WI (d + 1) mX0_fairTurn K 55 [(0, .ref 339), (1, .int v1), (2, .int a2), (3, .int v3)] [] t1) ∧ (¬ a2 < 0 → (8 ≤ a2 → x_WI (d + 1) mX0_fairTurn K 55 [(0, .ref 339), (1, .int v1), (2, .int a2), (3, .int v3)] [] t1) ∧ (¬ 8 ≤ a2 → vp_in a2 8 ∧ (vp_in a2 8 ∧ (∀ t3, t3 = x_w1 t1 340 a2.toNatClampNeg ((t1.1 340 a2.toNatClampNeg) + 1) → (x_WI (d + 1) mX0_fairTurn K 55 [(0, .ref 339), (1, .int v1), (2, .int a2), (3, .int v3)] [] t3)))))))) : x_WI (d + 1) mX0_fairTurn K 25 [(0, .ref 339), (1, .int v1), (2, .int v2), (3, .int v3)] [] τ := by
  refine o_iload_n (k := 3) 3 (by decide +kernel) rfl ?_
  refine o_iload_n (k := 1) 1 (by decide +kernel) rfl ?_
  refine o_icmp_ge (off := 34) 61 (by decide +kernel) (by decide) (fun q => ?_) (fun q => ?_)
  · replace h := h.1 q
    refine o_iload_n (k := 2) 2 (by decide +kernel) rfl ?_
    exact f_iret (ty := .int) rfl rfl (by decide +kernel) rfl h
  · replace h := h.2 q
    refine o_aload_n (k := 0) 0 (by decide +kernel) rfl ?_
    refine f_callVI (μ' := mX0_leastServed) (i := 73) (vs := []) (by decide +kernel) lk_1252 (vok_mX0_leastServed) sh_339 rfl rfl rfl rfl (Nat.le_of_ble_eq_true rfl) ?_
    refine x_CI.mono h (fun t1 a2 h => ?_)
    refine o_istore_n (k := 2) (L' := [(2, .int a2), (0, .ref 339), (1, .int v1), (3, .int v3)]) (by decide +kernel) (by decide) rfl ?_
    refine o_iload_n (k := 2) 0 (by decide +kernel) rfl ?_
    refine o_if_lt (off := 19) 55 (by decide +kernel) (by decide) (fun q => ?_) (fun q => ?_)
    · replace h := h.1 q
      refine o_sub [1, 2, 0, 3] rfl ?_
      exact h
    · replace h := h.2 q
      refine o_iload_n (k := 2) 0 (by decide +kernel) rfl ?_
      refine o_bipush (n := 8) (v := 8) (by decide +kernel) (by decide) ?_
      refine o_icmp_ge (off := 13) 55 (by decide +kernel) (by decide) (fun q => ?_) (fun q => ?_)
      · replace h := h.1 q
        refine o_sub [1, 2, 0, 3] rfl ?_
        exact h
      · replace h := h.2 q
        refine o_aload_n (k := 0) 1 (by decide +kernel) rfl ?_
        refine f_getR (r := 340) (t := 0) (k := 2) (i := 9) (by decide +kernel) sh_339 rfl (by decide) lk_482 (by simp [x_ty, tyX0]) (gr_0_2 sh_339) ?_
        refine o_iload_n (k := 2) 0 (by decide +kernel) rfl ?_
        refine o_dup2 (by decide +kernel) rfl rfl ?_
        obtain ⟨hi, h⟩ := h
        refine f_iald (by decide +kernel) sh_340 hi rfl ?_
        refine o_iconst (n := 1) (v := 1) (by decide +kernel) (by decide) ?_
        refine o_iadd (by decide +kernel) ?_
        obtain ⟨hi, h⟩ := h
        refine f_iast (by decide +kernel) sh_340 hi rfl ?_
        refine f_name (fun t3 et3 => ?_)
        replace h := h t3 et3
        refine o_sub [1, 2, 0, 3] rfl ?_
        exact h
set_option maxRecDepth 20000 in
theorem k_X0_fairTurn_55 {d : Nat} {K : x_T → Int32 → Prop} {v1 : Int32} {v2 : Int32} {v3 : Int32} {τ : x_T} (h : ∀ y1, y1 = v3 + 1 → (x_WI (d + 1) mX0_fairTurn K 25 [(0, .ref 339), (1, .int v1), (2, .int v2), (3, .int y1)] [] τ)) : x_WI (d + 1) mX0_fairTurn K 55 [(0, .ref 339), (1, .int v1), (2, .int v2), (3, .int v3)] [] τ := by
  obtain ⟨y1, ey1⟩ : ∃ y : Int32, y = v3 + 1 := ⟨_, rfl⟩
  replace h := h y1 ey1
  refine o_iinc (i := 3) (n := 1) (v := y1) (L' := [(3, .int y1), (0, .ref 339), (1, .int v1), (2, .int v2)]) 3 (by decide +kernel) rfl (by rw [ey1]; rfl) (by decide) rfl ?_
  refine o_goto (off := -33) 25 (by decide +kernel) (by decide) ?_
  refine o_sub [1, 2, 3, 0] rfl ?_
  exact h
set_option maxRecDepth 20000 in
theorem e_X0_leastServed {d : Nat} {K : x_T → Int32 → Prop}  {τ : x_T} (h : x_WI (d + 1) mX0_leastServed K 4 [(0, .ref 339), (1, .int (-1)), (2, .int 0)] [] τ) : x_CI (d + 1) mX0_leastServed [.ref 339] τ K := by
  refine x_CI_of (by decide) (Nat.le_of_ble_eq_true rfl) ?_
  show x_WI (d + 1) mX0_leastServed K 0 [(0, .ref 339)] [] τ
  refine o_iconst (n := -1) (v := (-1)) (by decide +kernel) (by decide) ?_
  refine o_istore_n (k := 1) (L' := [(1, .int (-1)), (0, .ref 339)]) (by decide +kernel) (by decide) rfl ?_
  refine o_iconst (n := 0) (v := 0) (by decide +kernel) (by decide) ?_
  refine o_istore_n (k := 2) (L' := [(2, .int 0), (1, .int (-1)), (0, .ref 339)]) (by decide +kernel) (by decide) rfl ?_
  refine o_sub [2, 1, 0] rfl ?_
  exact h
set_option maxRecDepth 20000 in
theorem k_X0_leastServed_4 {d : Nat} {K : x_T → Int32 → Prop} {v1 : Int32} {v2 : Int32} {τ : x_T} (h : (τ.1 1 0 ≤ v2 → K τ v1) ∧ (¬ τ.1 1 0 ≤ v2 → (8 ≤ v2 → K τ v1) ∧ (¬ 8 ≤ v2 → (v1 = (-1) → x_WI (d + 1) mX0_leastServed K 35 [(0, .ref 339), (2, .int v2)] [] τ) ∧ (¬ v1 = (-1) → x_CI d mX0_isServedLess [.ref 339, .int v2, .int v1] τ (fun t1 a2 => (a2 = 0 → x_WI (d + 1) mX0_leastServed K 37 [(0, .ref 339), (1, .int v1), (2, .int v2)] [] t1) ∧ (¬ a2 = 0 → x_WI (d + 1) mX0_leastServed K 35 [(0, .ref 339), (2, .int v2)] [] t1)))))) : x_WI (d + 1) mX0_leastServed K 4 [(0, .ref 339), (1, .int v1), (2, .int v2)] [] τ := by
  refine o_iload_n (k := 2) 2 (by decide +kernel) rfl ?_
  refine o_aload_n (k := 0) 0 (by decide +kernel) rfl ?_
  refine f_getR (r := 1) (t := 0) (k := 0) (i := 15) (by decide +kernel) sh_339 rfl (by decide) lk_480 (by simp [x_ty, tyX0]) (gr_0_0 sh_339) ?_
  refine f_getI (t := 3) (k := 0) (i := 23) (by decide +kernel) sh_1 rfl (by decide) lk_178 rfl ?_
  refine o_icmp_ge (off := 31) 43 (by decide +kernel) (by decide) (fun q => ?_) (fun q => ?_)
  · replace h := h.1 q
    refine o_iload_n (k := 1) 1 (by decide +kernel) rfl ?_
    exact f_iret (ty := .int) rfl rfl (by decide +kernel) rfl h
  · replace h := h.2 q
    refine o_iload_n (k := 2) 2 (by decide +kernel) rfl ?_
    refine o_bipush (n := 8) (v := 8) (by decide +kernel) (by decide) ?_
    refine o_icmp_ge (off := 25) 43 (by decide +kernel) (by decide) (fun q => ?_) (fun q => ?_)
    · replace h := h.1 q
      refine o_iload_n (k := 1) 1 (by decide +kernel) rfl ?_
      exact f_iret (ty := .int) rfl rfl (by decide +kernel) rfl h
    · replace h := h.2 q
      refine o_iload_n (k := 1) 1 (by decide +kernel) rfl ?_
      refine o_iconst (n := -1) (v := (-1)) (by decide +kernel) (by decide) ?_
      refine o_icmp_eq (off := 12) 35 (by decide +kernel) (by decide) (fun q => ?_) (fun q => ?_)
      · replace h := h.1 q
        refine o_sub [0, 2] rfl ?_
        exact h
      · replace h := h.2 q
        refine o_aload_n (k := 0) 0 (by decide +kernel) rfl ?_
        refine o_iload_n (k := 2) 2 (by decide +kernel) rfl ?_
        refine o_iload_n (k := 1) 1 (by decide +kernel) rfl ?_
        refine f_callVI (μ' := mX0_isServedLess) (i := 77) (vs := [.int v2, .int v1]) (by decide +kernel) lk_1256 (vok_mX0_isServedLess) sh_339 rfl rfl rfl rfl (Nat.le_of_ble_eq_true rfl) ?_
        refine x_CI.mono h (fun t1 a2 h => ?_)
        refine o_if_eq (off := 5) 37 (by decide +kernel) (by decide) (fun q => ?_) (fun q => ?_)
        · replace h := h.1 q
          exact h
        · replace h := h.2 q
          refine o_sub [0, 2] rfl ?_
          exact h
set_option maxRecDepth 20000 in
theorem k_X0_leastServed_35 {d : Nat} {K : x_T → Int32 → Prop} {v2 : Int32} {τ : x_T} (h : x_WI (d + 1) mX0_leastServed K 37 [(0, .ref 339), (1, .int v2), (2, .int v2)] [] τ) : x_WI (d + 1) mX0_leastServed K 35 [(0, .ref 339), (2, .int v2)] [] τ := by
  refine o_iload_n (k := 2) 1 (by decide +kernel) rfl ?_
  refine o_istore_n (k := 1) (L' := [(1, .int v2), (0, .ref 339), (2, .int v2)]) (by decide +kernel) (by decide) rfl ?_
  refine o_sub [1, 0, 2] rfl ?_
  exact h
set_option maxRecDepth 20000 in
theorem k_X0_leastServed_37 {d : Nat} {K : x_T → Int32 → Prop} {v1 : Int32} {v2 : Int32} {τ : x_T} (h : ∀ y1, y1 = v2 + 1 → (x_WI (d + 1) mX0_leastServed K 4 [(0, .ref 339), (1, .int v1), (2, .int y1)] [] τ)) : x_WI (d + 1) mX0_leastServed K 37 [(0, .ref 339), (1, .int v1), (2, .int v2)] [] τ := by
  obtain ⟨y1, ey1⟩ : ∃ y : Int32, y = v2 + 1 := ⟨_, rfl⟩
  replace h := h y1 ey1
  refine o_iinc (i := 2) (n := 1) (v := y1) (L' := [(2, .int y1), (0, .ref 339), (1, .int v1)]) 2 (by decide +kernel) rfl (by rw [ey1]; rfl) (by decide) rfl ?_
  refine o_goto (off := -36) 4 (by decide +kernel) (by decide) ?_
  refine o_sub [1, 2, 0] rfl ?_
  exact h
set_option maxRecDepth 20000 in
theorem e_X0_isServedLess {d : Nat} {K : x_T → Int32 → Prop} {v1 : Int32} {v2 : Int32} {τ : x_T} (h : x_CI d mX3_isHouse [.ref 1, .int v1] τ (fun t1 a2 => (a2 = 0 → K t1 0) ∧ (¬ a2 = 0 → x_CI d mX3_isHouse [.ref 1, .int v2] t1 (fun t3 a4 => (¬ a4 = 0 → vp_in v1 8 ∧ (vp_in v2 8 ∧ (∀ y5, y5 = (t3.1 340 v1.toNatClampNeg) * (t3.1 3 v2.toNatClampNeg) → (vp_in v2 8 ∧ (vp_in v1 8 ∧ (∀ y6, y6 = (t3.1 340 v2.toNatClampNeg) * (t3.1 3 v1.toNatClampNeg) → ((y5 < y6 → K t3 1) ∧ (¬ y5 < y6 → (¬ y5 = y6 → K t3 0) ∧ (y5 = y6 → vp_in v1 8 ∧ (vp_in v2 8 ∧ ((t3.1 3 v1.toNatClampNeg ≤ t3.1 3 v2.toNatClampNeg → K t3 0) ∧ (¬ t3.1 3 v1.toNatClampNeg ≤ t3.1 3 v2.toNatClampNeg → K t3 1)))))))))))) ∧ (a4 = 0 → K t3 0))))) : x_CI (d + 1) mX0_isServedLess [.ref 339, .int v1, .int v2] τ K := by
  refine x_CI_of (by decide) (Nat.le_of_ble_eq_true rfl) ?_
  show x_WI (d + 1) mX0_isServedLess K 0 [(0, .ref 339), (1, .int v1), (2, .int v2)] [] τ
  refine o_aload_n (k := 0) 0 (by decide +kernel) rfl ?_
  refine f_getR (r := 1) (t := 0) (k := 0) (i := 15) (by decide +kernel) sh_339 rfl (by decide) lk_480 (by simp [x_ty, tyX0]) (gr_0_0 sh_339) ?_
  refine o_iload_n (k := 1) 1 (by decide +kernel) rfl ?_
  refine f_callVI (μ' := mX3_isHouse) (i := 70) (vs := [.int v1]) (by decide +kernel) lk_1239 (vok_mX3_isHouse) sh_1 rfl rfl rfl rfl (Nat.le_of_ble_eq_true rfl) ?_
  refine x_CI.mono h (fun t1 a2 h => ?_)
  refine o_if_eq (off := 14) 22 (by decide +kernel) (by decide) (fun q => ?_) (fun q => ?_)
  · replace h := h.1 q
    refine o_iconst (n := 0) (v := 0) (by decide +kernel) (by decide) ?_
    exact f_iret (ty := .boolean) rfl (by decide) (by decide +kernel) rfl h
  · replace h := h.2 q
    refine o_aload_n (k := 0) 0 (by decide +kernel) rfl ?_
    refine f_getR (r := 1) (t := 0) (k := 0) (i := 15) (by decide +kernel) sh_339 rfl (by decide) lk_480 (by simp [x_ty, tyX0]) (gr_0_0 sh_339) ?_
    refine o_iload_n (k := 2) 2 (by decide +kernel) rfl ?_
    refine f_callVI (μ' := mX3_isHouse) (i := 70) (vs := [.int v2]) (by decide +kernel) lk_1239 (vok_mX3_isHouse) sh_1 rfl rfl rfl rfl (Nat.le_of_ble_eq_true rfl) ?_
    refine x_CI.mono h (fun t3 a4 h => ?_)
    refine o_if_ne (off := 5) 24 (by decide +kernel) (by decide) (fun q => ?_) (fun q => ?_)
    · replace h := h.1 q
      refine o_aload_n (k := 0) 0 (by decide +kernel) rfl ?_
      refine f_getR (r := 340) (t := 0) (k := 2) (i := 9) (by decide +kernel) sh_339 rfl (by decide) lk_482 (by simp [x_ty, tyX0]) (gr_0_2 sh_339) ?_
      refine o_iload_n (k := 1) 1 (by decide +kernel) rfl ?_
      obtain ⟨hi, h⟩ := h
      refine f_iald (by decide +kernel) sh_340 hi rfl ?_
      refine o_aload_n (k := 0) 0 (by decide +kernel) rfl ?_
      refine f_getR (r := 1) (t := 0) (k := 0) (i := 15) (by decide +kernel) sh_339 rfl (by decide) lk_480 (by simp [x_ty, tyX0]) (gr_0_0 sh_339) ?_
      refine f_getR (r := 3) (t := 3) (k := 3) (i := 80) (by decide +kernel) sh_1 rfl (by decide) lk_188 (by simp [x_ty, tyX3]) (gr_3_3 sh_1) ?_
      refine o_iload_n (k := 2) 2 (by decide +kernel) rfl ?_
      obtain ⟨hi, h⟩ := h
      refine f_iald (by decide +kernel) sh_3 hi rfl ?_
      refine o_imul (by decide +kernel) ?_
      refine o_name (fun y5 ey5 => ?_)
      replace h := h y5 ey5
      refine o_istore_n (k := 3) (L' := [(3, .int y5), (0, .ref 339), (1, .int v1), (2, .int v2)]) (by decide +kernel) (by decide) rfl ?_
      refine o_aload_n (k := 0) 1 (by decide +kernel) rfl ?_
      refine f_getR (r := 340) (t := 0) (k := 2) (i := 9) (by decide +kernel) sh_339 rfl (by decide) lk_482 (by simp [x_ty, tyX0]) (gr_0_2 sh_339) ?_
      refine o_iload_n (k := 2) 3 (by decide +kernel) rfl ?_
      obtain ⟨hi, h⟩ := h
      refine f_iald (by decide +kernel) sh_340 hi rfl ?_
      refine o_aload_n (k := 0) 1 (by decide +kernel) rfl ?_
      refine f_getR (r := 1) (t := 0) (k := 0) (i := 15) (by decide +kernel) sh_339 rfl (by decide) lk_480 (by simp [x_ty, tyX0]) (gr_0_0 sh_339) ?_
      refine f_getR (r := 3) (t := 3) (k := 3) (i := 80) (by decide +kernel) sh_1 rfl (by decide) lk_188 (by simp [x_ty, tyX3]) (gr_3_3 sh_1) ?_
      refine o_iload_n (k := 1) 2 (by decide +kernel) rfl ?_
      obtain ⟨hi, h⟩ := h
      refine f_iald (by decide +kernel) sh_3 hi rfl ?_
      refine o_imul (by decide +kernel) ?_
      refine o_name (fun y6 ey6 => ?_)
      replace h := h y6 ey6
      refine o_istore (k := 4) (L' := [(4, .int y6), (3, .int y5), (0, .ref 339), (1, .int v1), (2, .int v2)]) (by decide +kernel) (by decide) rfl ?_
      refine o_iload_n (k := 3) 1 (by decide +kernel) rfl ?_
      refine o_iload (k := 4) 0 (by decide +kernel) rfl ?_
      refine o_icmp_lt (off := 30) 92 (by decide +kernel) (by decide) (fun q => ?_) (fun q => ?_)
      · replace h := h.1 q
        refine o_iconst (n := 1) (v := 1) (by decide +kernel) (by decide) ?_
        refine o_goto (off := 4) 97 (by decide +kernel) (by decide) ?_
        exact f_iret (ty := .boolean) rfl (by decide) (by decide +kernel) rfl h
      · replace h := h.2 q
        refine o_iload_n (k := 3) 1 (by decide +kernel) rfl ?_
        refine o_iload (k := 4) 0 (by decide +kernel) rfl ?_
        refine o_icmp_ne (off := 28) 96 (by decide +kernel) (by decide) (fun q => ?_) (fun q => ?_)
        · replace h := h.1 q
          refine o_iconst (n := 0) (v := 0) (by decide +kernel) (by decide) ?_
          exact f_iret (ty := .boolean) rfl (by decide) (by decide +kernel) rfl h
        · replace h := h.2 q
          refine o_aload_n (k := 0) 2 (by decide +kernel) rfl ?_
          refine f_getR (r := 1) (t := 0) (k := 0) (i := 15) (by decide +kernel) sh_339 rfl (by decide) lk_480 (by simp [x_ty, tyX0]) (gr_0_0 sh_339) ?_
          refine f_getR (r := 3) (t := 3) (k := 3) (i := 80) (by decide +kernel) sh_1 rfl (by decide) lk_188 (by simp [x_ty, tyX3]) (gr_3_3 sh_1) ?_
          refine o_iload_n (k := 1) 3 (by decide +kernel) rfl ?_
          obtain ⟨hi, h⟩ := h
          refine f_iald (by decide +kernel) sh_3 hi rfl ?_
          refine o_aload_n (k := 0) 2 (by decide +kernel) rfl ?_
          refine f_getR (r := 1) (t := 0) (k := 0) (i := 15) (by decide +kernel) sh_339 rfl (by decide) lk_480 (by simp [x_ty, tyX0]) (gr_0_0 sh_339) ?_
          refine f_getR (r := 3) (t := 3) (k := 3) (i := 80) (by decide +kernel) sh_1 rfl (by decide) lk_188 (by simp [x_ty, tyX3]) (gr_3_3 sh_1) ?_
          refine o_iload_n (k := 2) 4 (by decide +kernel) rfl ?_
          obtain ⟨hi, h⟩ := h
          refine f_iald (by decide +kernel) sh_3 hi rfl ?_
          refine o_icmp_le (off := 7) 96 (by decide +kernel) (by decide) (fun q => ?_) (fun q => ?_)
          · replace h := h.1 q
            refine o_iconst (n := 0) (v := 0) (by decide +kernel) (by decide) ?_
            exact f_iret (ty := .boolean) rfl (by decide) (by decide +kernel) rfl h
          · replace h := h.2 q
            refine o_iconst (n := 1) (v := 1) (by decide +kernel) (by decide) ?_
            refine o_goto (off := 4) 97 (by decide +kernel) (by decide) ?_
            exact f_iret (ty := .boolean) rfl (by decide) (by decide +kernel) rfl h
    · replace h := h.2 q
      refine o_iconst (n := 0) (v := 0) (by decide +kernel) (by decide) ?_
      exact f_iret (ty := .boolean) rfl (by decide) (by decide +kernel) rfl h
set_option maxRecDepth 20000 in
theorem e_X0_placesInFog {d : Nat} {K : x_T → Int32 → Prop} {r1 : Nat} (h1 : x_sh r1 = (1, 11)) {τ : x_T} (h : x_WI (d + 1) mX0_placesInFog K 4 [(0, .ref 339), (1, .ref r1), (2, .int 0), (3, .int 0)] [] τ) : x_CI (d + 1) mX0_placesInFog [.ref 339, .ref r1] τ K := by
  refine x_CI_of (by decide) (Nat.le_of_ble_eq_true rfl) ?_
  show x_WI (d + 1) mX0_placesInFog K 0 [(0, .ref 339), (1, .ref r1)] [] τ
  refine o_iconst (n := 0) (v := 0) (by decide +kernel) (by decide) ?_
  refine o_istore_n (k := 2) (L' := [(2, .int 0), (0, .ref 339), (1, .ref r1)]) (by decide +kernel) (by decide) rfl ?_
  refine o_iconst (n := 0) (v := 0) (by decide +kernel) (by decide) ?_
  refine o_istore_n (k := 3) (L' := [(3, .int 0), (2, .int 0), (0, .ref 339), (1, .ref r1)]) (by decide +kernel) (by decide) rfl ?_
  refine o_sub [2, 3, 1, 0] rfl ?_
  exact h
set_option maxRecDepth 20000 in
theorem k_X0_placesInFog_4 {d : Nat} {K : x_T → Int32 → Prop} {r1 : Nat} (h1 : x_sh r1 = (1, 11)) {v2 : Int32} {v3 : Int32} {τ : x_T} (h : (τ.1 1 0 ≤ v3 → K τ v2) ∧ (¬ τ.1 1 0 ≤ v3 → x_CI d mX0_mayBeAt [.ref 339, .ref r1, .int v3] τ (fun t1 a2 => (a2 = 0 → x_WI (d + 1) mX0_placesInFog K 30 [(0, .ref 339), (1, .ref r1), (2, .int v2), (3, .int v3)] [] t1) ∧ (¬ a2 = 0 → ∀ y3, y3 = v2 ||| (1 <<< (v3 &&& 31)) → (x_WI (d + 1) mX0_placesInFog K 30 [(0, .ref 339), (1, .ref r1), (2, .int y3), (3, .int v3)] [] t1))))) : x_WI (d + 1) mX0_placesInFog K 4 [(0, .ref 339), (1, .ref r1), (2, .int v2), (3, .int v3)] [] τ := by
  refine o_iload_n (k := 3) 3 (by decide +kernel) rfl ?_
  refine o_aload_n (k := 0) 0 (by decide +kernel) rfl ?_
  refine f_getR (r := 1) (t := 0) (k := 0) (i := 15) (by decide +kernel) sh_339 rfl (by decide) lk_480 (by simp [x_ty, tyX0]) (gr_0_0 sh_339) ?_
  refine f_getI (t := 3) (k := 0) (i := 23) (by decide +kernel) sh_1 rfl (by decide) lk_178 rfl ?_
  refine o_icmp_ge (off := 24) 36 (by decide +kernel) (by decide) (fun q => ?_) (fun q => ?_)
  · replace h := h.1 q
    refine o_iload_n (k := 2) 2 (by decide +kernel) rfl ?_
    exact f_iret (ty := .int) rfl rfl (by decide +kernel) rfl h
  · replace h := h.2 q
    refine o_aload_n (k := 0) 0 (by decide +kernel) rfl ?_
    refine o_aload_n (k := 1) 1 (by decide +kernel) rfl ?_
    refine o_iload_n (k := 3) 3 (by decide +kernel) rfl ?_
    refine f_callVI (μ' := mX0_mayBeAt) (i := 83) (vs := [.ref r1, .int v3]) (by decide +kernel) lk_1272 (vok_mX0_mayBeAt) sh_339 rfl rfl rfl rfl (Nat.le_of_ble_eq_true rfl) ?_
    refine x_CI.mono h (fun t1 a2 h => ?_)
    refine o_if_eq (off := 9) 30 (by decide +kernel) (by decide) (fun q => ?_) (fun q => ?_)
    · replace h := h.1 q
      exact h
    · replace h := h.2 q
      refine o_iload_n (k := 2) 2 (by decide +kernel) rfl ?_
      refine o_iconst (n := 1) (v := 1) (by decide +kernel) (by decide) ?_
      refine o_iload_n (k := 3) 3 (by decide +kernel) rfl ?_
      refine o_ishl (by decide +kernel) ?_
      refine o_ior (by decide +kernel) ?_
      refine o_name (fun y3 ey3 => ?_)
      replace h := h y3 ey3
      refine o_istore_n (k := 2) (L' := [(2, .int y3), (0, .ref 339), (1, .ref r1), (3, .int v3)]) (by decide +kernel) (by decide) rfl ?_
      refine o_sub [1, 2, 0, 3] rfl ?_
      exact h
set_option maxRecDepth 20000 in
theorem k_X0_placesInFog_30 {d : Nat} {K : x_T → Int32 → Prop} {r1 : Nat} (h1 : x_sh r1 = (1, 11)) {v2 : Int32} {v3 : Int32} {τ : x_T} (h : ∀ y1, y1 = v3 + 1 → (x_WI (d + 1) mX0_placesInFog K 4 [(0, .ref 339), (1, .ref r1), (2, .int v2), (3, .int y1)] [] τ)) : x_WI (d + 1) mX0_placesInFog K 30 [(0, .ref 339), (1, .ref r1), (2, .int v2), (3, .int v3)] [] τ := by
  obtain ⟨y1, ey1⟩ : ∃ y : Int32, y = v3 + 1 := ⟨_, rfl⟩
  replace h := h y1 ey1
  refine o_iinc (i := 3) (n := 1) (v := y1) (L' := [(3, .int y1), (0, .ref 339), (1, .ref r1), (2, .int v2)]) 3 (by decide +kernel) rfl (by rw [ey1]; rfl) (by decide) rfl ?_
  refine o_goto (off := -29) 4 (by decide +kernel) (by decide) ?_
  refine o_sub [1, 2, 3, 0] rfl ?_
  exact h
set_option maxRecDepth 20000 in
theorem e_X0_mayBeAt {d : Nat} {K : x_T → Int32 → Prop} {r1 : Nat} (h1 : x_sh r1 = (1, 11)) {v2 : Int32} {τ : x_T} (h : x_WI (d + 1) mX0_mayBeAt K 11 [(0, .ref 339), (1, .ref r1), (2, .int v2), (3, .ref 10), (4, .int 0)] [] τ) : x_CI (d + 1) mX0_mayBeAt [.ref 339, .ref r1, .int v2] τ K := by
  refine x_CI_of (by decide) (Nat.le_of_ble_eq_true rfl) ?_
  show x_WI (d + 1) mX0_mayBeAt K 0 [(0, .ref 339), (1, .ref r1), (2, .int v2)] [] τ
  refine o_aload_n (k := 0) 0 (by decide +kernel) rfl ?_
  refine f_getR (r := 1) (t := 0) (k := 0) (i := 15) (by decide +kernel) sh_339 rfl (by decide) lk_480 (by simp [x_ty, tyX0]) (gr_0_0 sh_339) ?_
  refine f_getR (r := 10) (t := 3) (k := 8) (i := 87) (by decide +kernel) sh_1 rfl (by decide) lk_198 (by simp [x_ty, tyX3]) (gr_3_8 sh_1) ?_
  refine o_astore_n (k := 3) (L' := [(3, .ref 10), (0, .ref 339), (1, .ref r1), (2, .int v2)]) (by decide +kernel) (by decide) rfl ?_
  refine o_iconst (n := 0) (v := 0) (by decide +kernel) (by decide) ?_
  refine o_istore (k := 4) (L' := [(4, .int 0), (3, .ref 10), (0, .ref 339), (1, .ref r1), (2, .int v2)]) (by decide +kernel) (by decide) rfl ?_
  refine o_sub [2, 3, 4, 1, 0] rfl ?_
  exact h
set_option maxRecDepth 20000 in
theorem k_X0_mayBeAt_11 {d : Nat} {K : x_T → Int32 → Prop} {r1 : Nat} (h1 : x_sh r1 = (1, 11)) {v2 : Int32} {v4 : Int32} {τ : x_T} (h : (τ.1 10 2 ≤ v4 → K τ 1) ∧ (¬ τ.1 10 2 ≤ v4 → (8 ≤ v4 → K τ 1) ∧ (¬ 8 ≤ v4 → vp_in v4 8 ∧ (x_CI d mX4_warmth [.ref 329, .ref r1, .int (τ.1 11 v4.toNatClampNeg), .int v2] τ (fun t1 a2 => vp_in v4 8 ∧ ((a2 = t1.1 12 v4.toNatClampNeg → ∀ y3, y3 = v4 + 1 → (x_WI (d + 1) mX0_mayBeAt K 11 [(0, .ref 339), (1, .ref r1), (2, .int v2), (3, .ref 10), (4, .int y3)] [] t1)) ∧ (¬ a2 = t1.1 12 v4.toNatClampNeg → K t1 0))))))) : x_WI (d + 1) mX0_mayBeAt K 11 [(0, .ref 339), (1, .ref r1), (2, .int v2), (3, .ref 10), (4, .int v4)] [] τ := by
  refine o_iload (k := 4) 4 (by decide +kernel) rfl ?_
  refine o_aload_n (k := 3) 3 (by decide +kernel) rfl ?_
  refine f_getI (t := 5) (k := 2) (i := 37) (by decide +kernel) sh_10 rfl (by decide) lk_166 rfl ?_
  refine o_icmp_ge (off := 44) 61 (by decide +kernel) (by decide) (fun q => ?_) (fun q => ?_)
  · replace h := h.1 q
    refine o_iconst (n := 1) (v := 1) (by decide +kernel) (by decide) ?_
    exact f_iret (ty := .boolean) rfl (by decide) (by decide +kernel) rfl h
  · replace h := h.2 q
    refine o_iload (k := 4) 4 (by decide +kernel) rfl ?_
    refine o_bipush (n := 8) (v := 8) (by decide +kernel) (by decide) ?_
    refine o_icmp_ge (off := 37) 61 (by decide +kernel) (by decide) (fun q => ?_) (fun q => ?_)
    · replace h := h.1 q
      refine o_iconst (n := 1) (v := 1) (by decide +kernel) (by decide) ?_
      exact f_iret (ty := .boolean) rfl (by decide) (by decide +kernel) rfl h
    · replace h := h.2 q
      refine o_aload_n (k := 0) 0 (by decide +kernel) rfl ?_
      refine f_getR (r := 329) (t := 0) (k := 1) (i := 19) (by decide +kernel) sh_339 rfl (by decide) lk_481 (by simp [x_ty, tyX0]) (gr_0_1 sh_339) ?_
      refine o_aload_n (k := 1) 1 (by decide +kernel) rfl ?_
      refine o_aload_n (k := 3) 3 (by decide +kernel) rfl ?_
      refine f_getR (r := 11) (t := 5) (k := 0) (i := 42) (by decide +kernel) sh_10 rfl (by decide) lk_157 (by simp [x_ty, tyX5]) (gr_5_0 sh_10) ?_
      refine o_iload (k := 4) 4 (by decide +kernel) rfl ?_
      obtain ⟨hi, h⟩ := h
      refine f_iald (by decide +kernel) sh_11 hi rfl ?_
      refine o_iload_n (k := 2) 2 (by decide +kernel) rfl ?_
      refine f_callVI (μ' := mX4_warmth) (i := 90) (vs := [.ref r1, .int (τ.1 11 v4.toNatClampNeg), .int v2]) (by decide +kernel) lk_1276 (vok_mX4_warmth) sh_329 rfl rfl rfl rfl (Nat.le_of_ble_eq_true rfl) ?_
      refine x_CI.mono h (fun t1 a2 h => ?_)
      refine o_aload_n (k := 3) 3 (by decide +kernel) rfl ?_
      refine f_getR (r := 12) (t := 5) (k := 1) (i := 49) (by decide +kernel) sh_10 rfl (by decide) lk_161 (by simp [x_ty, tyX5]) (gr_5_1 sh_10) ?_
      refine o_iload (k := 4) 4 (by decide +kernel) rfl ?_
      obtain ⟨hi, h⟩ := h
      refine f_iald (by decide +kernel) sh_12 hi rfl ?_
      refine o_icmp_eq (off := 5) 55 (by decide +kernel) (by decide) (fun q => ?_) (fun q => ?_)
      · replace h := h.1 q
        obtain ⟨y3, ey3⟩ : ∃ y : Int32, y = v4 + 1 := ⟨_, rfl⟩
        replace h := h y3 ey3
        refine o_iinc (i := 4) (n := 1) (v := y3) (L' := [(4, .int y3), (0, .ref 339), (1, .ref r1), (2, .int v2), (3, .ref 10)]) 4 (by decide +kernel) rfl (by rw [ey3]; rfl) (by decide) rfl ?_
        refine o_goto (off := -47) 11 (by decide +kernel) (by decide) ?_
        refine o_sub [1, 2, 3, 4, 0] rfl ?_
        exact h
      · replace h := h.2 q
        refine o_iconst (n := 0) (v := 0) (by decide +kernel) (by decide) ?_
        exact f_iret (ty := .boolean) rfl (by decide) (by decide +kernel) rfl h
set_option maxRecDepth 20000 in
theorem e_X0_yardToFeel {d : Nat} {K : x_T → Int32 → Prop} {r1 : Nat} (h1 : x_sh r1 = (1, 11)) {τ : x_T} (h : x_CI d mX0_placesInFog [.ref 339, .ref r1] τ (fun t1 a2 => x_WI (d + 1) mX0_yardToFeel K 14 [(0, .ref 339), (1, .ref r1), (2, .int a2), (3, .int (-1)), (4, .int 0), (5, .int 0)] [] t1)) : x_CI (d + 1) mX0_yardToFeel [.ref 339, .ref r1] τ K := by
  refine x_CI_of (by decide) (Nat.le_of_ble_eq_true rfl) ?_
  show x_WI (d + 1) mX0_yardToFeel K 0 [(0, .ref 339), (1, .ref r1)] [] τ
  refine o_aload_n (k := 0) 0 (by decide +kernel) rfl ?_
  refine o_aload_n (k := 1) 1 (by decide +kernel) rfl ?_
  refine f_callVI (μ' := mX0_placesInFog) (i := 96) (vs := [.ref r1]) (by decide +kernel) lk_1285 (vok_mX0_placesInFog) sh_339 rfl rfl rfl rfl (Nat.le_of_ble_eq_true rfl) ?_
  refine x_CI.mono h (fun t1 a2 h => ?_)
  refine o_istore_n (k := 2) (L' := [(2, .int a2), (0, .ref 339), (1, .ref r1)]) (by decide +kernel) (by decide) rfl ?_
  refine o_iconst (n := -1) (v := (-1)) (by decide +kernel) (by decide) ?_
  refine o_istore_n (k := 3) (L' := [(3, .int (-1)), (2, .int a2), (0, .ref 339), (1, .ref r1)]) (by decide +kernel) (by decide) rfl ?_
  refine o_iconst (n := 0) (v := 0) (by decide +kernel) (by decide) ?_
  refine o_istore (k := 4) (L' := [(4, .int 0), (3, .int (-1)), (2, .int a2), (0, .ref 339), (1, .ref r1)]) (by decide +kernel) (by decide) rfl ?_
  refine o_iconst (n := 0) (v := 0) (by decide +kernel) (by decide) ?_
  refine o_istore (k := 5) (L' := [(5, .int 0), (4, .int 0), (3, .int (-1)), (2, .int a2), (0, .ref 339), (1, .ref r1)]) (by decide +kernel) (by decide) rfl ?_
  refine o_sub [4, 5, 3, 2, 1, 0] rfl ?_
  exact h
set_option maxRecDepth 20000 in
theorem k_X0_yardToFeel_14 {d : Nat} {K : x_T → Int32 → Prop} {r1 : Nat} (h1 : x_sh r1 = (1, 11)) {v2 : Int32} {v3 : Int32} {v4 : Int32} {v5 : Int32} {τ : x_T} (h : (τ.1 1 0 ≤ v5 → K τ v3) ∧ (¬ τ.1 1 0 ≤ v5 → x_CI d mX0_answersAt [.ref 339, .ref r1, .int v5, .int v2] τ (fun t1 a2 => (a2 ≤ v4 → x_WI (d + 1) mX0_yardToFeel K 50 [(0, .ref 339), (1, .ref r1), (2, .int v2), (3, .int v3), (4, .int v4), (5, .int v5)] [] t1) ∧ (¬ a2 ≤ v4 → x_WI (d + 1) mX0_yardToFeel K 50 [(0, .ref 339), (1, .ref r1), (2, .int v2), (3, .int v5), (4, .int a2), (5, .int v5)] [] t1)))) : x_WI (d + 1) mX0_yardToFeel K 14 [(0, .ref 339), (1, .ref r1), (2, .int v2), (3, .int v3), (4, .int v4), (5, .int v5)] [] τ := by
  refine o_iload (k := 5) 5 (by decide +kernel) rfl ?_
  refine o_aload_n (k := 0) 0 (by decide +kernel) rfl ?_
  refine f_getR (r := 1) (t := 0) (k := 0) (i := 15) (by decide +kernel) sh_339 rfl (by decide) lk_480 (by simp [x_ty, tyX0]) (gr_0_0 sh_339) ?_
  refine f_getI (t := 3) (k := 0) (i := 23) (by decide +kernel) sh_1 rfl (by decide) lk_178 rfl ?_
  refine o_icmp_ge (off := 33) 56 (by decide +kernel) (by decide) (fun q => ?_) (fun q => ?_)
  · replace h := h.1 q
    refine o_iload_n (k := 3) 3 (by decide +kernel) rfl ?_
    exact f_iret (ty := .int) rfl rfl (by decide +kernel) rfl h
  · replace h := h.2 q
    refine o_aload_n (k := 0) 0 (by decide +kernel) rfl ?_
    refine o_aload_n (k := 1) 1 (by decide +kernel) rfl ?_
    refine o_iload (k := 5) 5 (by decide +kernel) rfl ?_
    refine o_iload_n (k := 2) 2 (by decide +kernel) rfl ?_
    refine f_callVI (μ' := mX0_answersAt) (i := 100) (vs := [.ref r1, .int v5, .int v2]) (by decide +kernel) lk_1286 (vok_mX0_answersAt) sh_339 rfl rfl rfl rfl (Nat.le_of_ble_eq_true rfl) ?_
    refine x_CI.mono h (fun t1 a2 h => ?_)
    refine o_istore (k := 6) (L' := [(6, .int a2), (0, .ref 339), (1, .ref r1), (2, .int v2), (3, .int v3), (4, .int v4), (5, .int v5)]) (by decide +kernel) (by decide) rfl ?_
    refine o_iload (k := 6) 0 (by decide +kernel) rfl ?_
    refine o_iload (k := 4) 5 (by decide +kernel) rfl ?_
    refine o_icmp_le (off := 10) 50 (by decide +kernel) (by decide) (fun q => ?_) (fun q => ?_)
    · replace h := h.1 q
      refine o_sub [1, 2, 3, 4, 5, 6] rfl ?_
      exact h
    · replace h := h.2 q
      refine o_iload (k := 6) 0 (by decide +kernel) rfl ?_
      refine o_istore (k := 4) (L' := [(4, .int a2), (6, .int a2), (0, .ref 339), (1, .ref r1), (2, .int v2), (3, .int v3), (5, .int v5)]) (by decide +kernel) (by decide) rfl ?_
      refine o_iload (k := 5) 6 (by decide +kernel) rfl ?_
      refine o_istore_n (k := 3) (L' := [(3, .int v5), (4, .int a2), (6, .int a2), (0, .ref 339), (1, .ref r1), (2, .int v2), (5, .int v5)]) (by decide +kernel) (by decide) rfl ?_
      refine o_sub [3, 4, 5, 0, 1, 6] rfl ?_
      exact h
set_option maxRecDepth 20000 in
theorem k_X0_yardToFeel_50 {d : Nat} {K : x_T → Int32 → Prop} {r1 : Nat} (h1 : x_sh r1 = (1, 11)) {v2 : Int32} {v3 : Int32} {v4 : Int32} {v5 : Int32} {τ : x_T} (h : ∀ y1, y1 = v5 + 1 → (x_WI (d + 1) mX0_yardToFeel K 14 [(0, .ref 339), (1, .ref r1), (2, .int v2), (3, .int v3), (4, .int v4), (5, .int y1)] [] τ)) : x_WI (d + 1) mX0_yardToFeel K 50 [(0, .ref 339), (1, .ref r1), (2, .int v2), (3, .int v3), (4, .int v4), (5, .int v5)] [] τ := by
  obtain ⟨y1, ey1⟩ : ∃ y : Int32, y = v5 + 1 := ⟨_, rfl⟩
  replace h := h y1 ey1
  refine o_iinc (i := 5) (n := 1) (v := y1) (L' := [(5, .int y1), (0, .ref 339), (1, .ref r1), (2, .int v2), (3, .int v3), (4, .int v4)]) 5 (by decide +kernel) rfl (by rw [ey1]; rfl) (by decide) rfl ?_
  refine o_goto (off := -39) 14 (by decide +kernel) (by decide) ?_
  refine o_sub [1, 2, 3, 4, 5, 0] rfl ?_
  exact h
set_option maxRecDepth 20000 in
theorem e_X0_answersAt {d : Nat} {K : x_T → Int32 → Prop} {r1 : Nat} (h1 : x_sh r1 = (1, 11)) {v2 : Int32} {v3 : Int32} {τ : x_T} (h : x_WI (d + 1) mX0_answersAt K 6 [(0, .ref 339), (1, .ref r1), (2, .int v2), (3, .int v3), (4, .int 0), (5, .int 0)] [] τ) : x_CI (d + 1) mX0_answersAt [.ref 339, .ref r1, .int v2, .int v3] τ K := by
  refine x_CI_of (by decide) (Nat.le_of_ble_eq_true rfl) ?_
  show x_WI (d + 1) mX0_answersAt K 0 [(0, .ref 339), (1, .ref r1), (2, .int v2), (3, .int v3)] [] τ
  refine o_iconst (n := 0) (v := 0) (by decide +kernel) (by decide) ?_
  refine o_istore (k := 4) (L' := [(4, .int 0), (0, .ref 339), (1, .ref r1), (2, .int v2), (3, .int v3)]) (by decide +kernel) (by decide) rfl ?_
  refine o_iconst (n := 0) (v := 0) (by decide +kernel) (by decide) ?_
  refine o_istore (k := 5) (L' := [(5, .int 0), (4, .int 0), (0, .ref 339), (1, .ref r1), (2, .int v2), (3, .int v3)]) (by decide +kernel) (by decide) rfl ?_
  refine o_sub [2, 3, 4, 5, 1, 0] rfl ?_
  exact h
set_option maxRecDepth 20000 in
theorem k_X0_answersAt_6 {d : Nat} {K : x_T → Int32 → Prop} {r1 : Nat} (h1 : x_sh r1 = (1, 11)) {v2 : Int32} {v3 : Int32} {v4 : Int32} {v5 : Int32} {τ : x_T} (h : (τ.1 1 0 ≤ v5 → K τ v4) ∧ (¬ τ.1 1 0 ≤ v5 → ((v3 >>> (v5 &&& 31)) &&& 1 = 0 → x_WI (d + 1) mX0_answersAt K 46 [(0, .ref 339), (1, .ref r1), (2, .int v2), (3, .int v3), (4, .int v4), (5, .int v5)] [] τ) ∧ (¬ (v3 >>> (v5 &&& 31)) &&& 1 = 0 → x_CI d mX4_warmth [.ref 329, .ref r1, .int v2, .int v5] τ (fun t1 a2 => x_CI d mX0_withAnswer [.ref 339, .int a2, .int v4] t1 (fun t3 a4 => x_WI (d + 1) mX0_answersAt K 46 [(0, .ref 339), (1, .ref r1), (2, .int v2), (3, .int v3), (4, .int a4), (5, .int v5)] [] t3))))) : x_WI (d + 1) mX0_answersAt K 6 [(0, .ref 339), (1, .ref r1), (2, .int v2), (3, .int v3), (4, .int v4), (5, .int v5)] [] τ := by
  refine o_iload (k := 5) 5 (by decide +kernel) rfl ?_
  refine o_aload_n (k := 0) 0 (by decide +kernel) rfl ?_
  refine f_getR (r := 1) (t := 0) (k := 0) (i := 15) (by decide +kernel) sh_339 rfl (by decide) lk_480 (by simp [x_ty, tyX0]) (gr_0_0 sh_339) ?_
  refine f_getI (t := 3) (k := 0) (i := 23) (by decide +kernel) sh_1 rfl (by decide) lk_178 rfl ?_
  refine o_icmp_ge (off := 37) 52 (by decide +kernel) (by decide) (fun q => ?_) (fun q => ?_)
  · replace h := h.1 q
    refine o_iload (k := 4) 4 (by decide +kernel) rfl ?_
    exact f_iret (ty := .int) rfl rfl (by decide +kernel) rfl h
  · replace h := h.2 q
    refine o_iload_n (k := 3) 3 (by decide +kernel) rfl ?_
    refine o_iload (k := 5) 5 (by decide +kernel) rfl ?_
    refine o_ishr (by decide +kernel) ?_
    refine o_iconst (n := 1) (v := 1) (by decide +kernel) (by decide) ?_
    refine o_iand (by decide +kernel) ?_
    refine o_if_eq (off := 22) 46 (by decide +kernel) (by decide) (fun q => ?_) (fun q => ?_)
    · replace h := h.1 q
      exact h
    · replace h := h.2 q
      refine o_aload_n (k := 0) 0 (by decide +kernel) rfl ?_
      refine o_aload_n (k := 0) 0 (by decide +kernel) rfl ?_
      refine f_getR (r := 329) (t := 0) (k := 1) (i := 19) (by decide +kernel) sh_339 rfl (by decide) lk_481 (by simp [x_ty, tyX0]) (gr_0_1 sh_339) ?_
      refine o_aload_n (k := 1) 1 (by decide +kernel) rfl ?_
      refine o_iload_n (k := 2) 2 (by decide +kernel) rfl ?_
      refine o_iload (k := 5) 5 (by decide +kernel) rfl ?_
      refine f_callVI (μ' := mX4_warmth) (i := 90) (vs := [.ref r1, .int v2, .int v5]) (by decide +kernel) lk_1276 (vok_mX4_warmth) sh_329 rfl rfl rfl rfl (Nat.le_of_ble_eq_true rfl) ?_
      refine x_CI.mono h (fun t1 a2 h => ?_)
      refine o_iload (k := 4) 4 (by decide +kernel) rfl ?_
      refine f_callVI (μ' := mX0_withAnswer) (i := 103) (vs := [.int a2, .int v4]) (by decide +kernel) lk_1290 (vok_mX0_withAnswer) sh_339 rfl rfl rfl rfl (Nat.le_of_ble_eq_true rfl) ?_
      refine x_CI.mono h (fun t3 a4 h => ?_)
      refine o_istore (k := 4) (L' := [(4, .int a4), (0, .ref 339), (1, .ref r1), (2, .int v2), (3, .int v3), (5, .int v5)]) (by decide +kernel) (by decide) rfl ?_
      refine o_sub [1, 2, 3, 4, 0, 5] rfl ?_
      exact h
set_option maxRecDepth 20000 in
theorem k_X0_answersAt_46 {d : Nat} {K : x_T → Int32 → Prop} {r1 : Nat} (h1 : x_sh r1 = (1, 11)) {v2 : Int32} {v3 : Int32} {v4 : Int32} {v5 : Int32} {τ : x_T} (h : ∀ y1, y1 = v5 + 1 → (x_WI (d + 1) mX0_answersAt K 6 [(0, .ref 339), (1, .ref r1), (2, .int v2), (3, .int v3), (4, .int v4), (5, .int y1)] [] τ)) : x_WI (d + 1) mX0_answersAt K 46 [(0, .ref 339), (1, .ref r1), (2, .int v2), (3, .int v3), (4, .int v4), (5, .int v5)] [] τ := by
  obtain ⟨y1, ey1⟩ : ∃ y : Int32, y = v5 + 1 := ⟨_, rfl⟩
  replace h := h y1 ey1
  refine o_iinc (i := 5) (n := 1) (v := y1) (L' := [(5, .int y1), (0, .ref 339), (1, .ref r1), (2, .int v2), (3, .int v3), (4, .int v4)]) 5 (by decide +kernel) rfl (by rw [ey1]; rfl) (by decide) rfl ?_
  refine o_goto (off := -43) 6 (by decide +kernel) (by decide) ?_
  refine o_sub [1, 2, 3, 4, 5, 0] rfl ?_
  exact h
set_option maxRecDepth 20000 in
theorem e_X0_withAnswer {d : Nat} {K : x_T → Int32 → Prop} {v1 : Int32} {v2 : Int32} {τ : x_T} (h : x_WI d mX0_withAnswer K 2 [(0, .ref 339), (1, .int v1), (2, .int v2), (3, .int 0)] [] τ) : x_CI d mX0_withAnswer [.ref 339, .int v1, .int v2] τ K := by
  refine x_CI_of (by decide) (Nat.le_of_ble_eq_true rfl) ?_
  show x_WI d mX0_withAnswer K 0 [(0, .ref 339), (1, .int v1), (2, .int v2)] [] τ
  refine o_iconst (n := 0) (v := 0) (by decide +kernel) (by decide) ?_
  refine o_istore_n (k := 3) (L' := [(3, .int 0), (0, .ref 339), (1, .int v1), (2, .int v2)]) (by decide +kernel) (by decide) rfl ?_
  refine o_sub [1, 2, 3, 0] rfl ?_
  exact h
set_option maxRecDepth 20000 in
theorem k_X0_withAnswer_2 {d : Nat} {K : x_T → Int32 → Prop} {v1 : Int32} {v2 : Int32} {v3 : Int32} {τ : x_T} (h : (v2 ≤ v3 → x_WI d mX0_withAnswer K 31 [(0, .ref 339), (1, .int v1), (2, .int v2)] [] τ) ∧ (¬ v2 ≤ v3 → (8 ≤ v3 → x_WI d mX0_withAnswer K 31 [(0, .ref 339), (1, .int v1), (2, .int v2)] [] τ) ∧ (¬ 8 ≤ v3 → vp_in v3 8 ∧ ((¬ τ.1 340 v3.toNatClampNeg = v1 → ∀ y1, y1 = v3 + 1 → (x_WI d mX0_withAnswer K 2 [(0, .ref 339), (1, .int v1), (2, .int v2), (3, .int y1)] [] τ)) ∧ (τ.1 340 v3.toNatClampNeg = v1 → K τ v2))))) : x_WI d mX0_withAnswer K 2 [(0, .ref 339), (1, .int v1), (2, .int v2), (3, .int v3)] [] τ := by
  refine o_iload_n (k := 3) 3 (by decide +kernel) rfl ?_
  refine o_iload_n (k := 2) 2 (by decide +kernel) rfl ?_
  refine o_icmp_ge (off := 27) 31 (by decide +kernel) (by decide) (fun q => ?_) (fun q => ?_)
  · replace h := h.1 q
    refine o_sub [0, 1, 2] rfl ?_
    exact h
  · replace h := h.2 q
    refine o_iload_n (k := 3) 3 (by decide +kernel) rfl ?_
    refine o_bipush (n := 8) (v := 8) (by decide +kernel) (by decide) ?_
    refine o_icmp_ge (off := 21) 31 (by decide +kernel) (by decide) (fun q => ?_) (fun q => ?_)
    · replace h := h.1 q
      refine o_sub [0, 1, 2] rfl ?_
      exact h
    · replace h := h.2 q
      refine o_aload_n (k := 0) 0 (by decide +kernel) rfl ?_
      refine f_getR (r := 340) (t := 0) (k := 2) (i := 9) (by decide +kernel) sh_339 rfl (by decide) lk_482 (by simp [x_ty, tyX0]) (gr_0_2 sh_339) ?_
      refine o_iload_n (k := 3) 3 (by decide +kernel) rfl ?_
      obtain ⟨hi, h⟩ := h
      refine f_iald (by decide +kernel) sh_340 hi rfl ?_
      refine o_iload_n (k := 1) 1 (by decide +kernel) rfl ?_
      refine o_icmp_ne (off := 5) 25 (by decide +kernel) (by decide) (fun q => ?_) (fun q => ?_)
      · replace h := h.1 q
        obtain ⟨y1, ey1⟩ : ∃ y : Int32, y = v3 + 1 := ⟨_, rfl⟩
        replace h := h y1 ey1
        refine o_iinc (i := 3) (n := 1) (v := y1) (L' := [(3, .int y1), (0, .ref 339), (1, .int v1), (2, .int v2)]) 3 (by decide +kernel) rfl (by rw [ey1]; rfl) (by decide) rfl ?_
        refine o_goto (off := -26) 2 (by decide +kernel) (by decide) ?_
        refine o_sub [1, 2, 3, 0] rfl ?_
        exact h
      · replace h := h.2 q
        refine o_iload_n (k := 2) 2 (by decide +kernel) rfl ?_
        exact f_iret (ty := .int) rfl rfl (by decide +kernel) rfl h
set_option maxRecDepth 20000 in
theorem k_X0_withAnswer_31 {d : Nat} {K : x_T → Int32 → Prop} {v1 : Int32} {v2 : Int32} {τ : x_T} (h : (v2 < 0 → K τ v2) ∧ (¬ v2 < 0 → (v2 < 8 → vp_in v2 8 ∧ (∀ t1, t1 = x_w1 τ 340 v2.toNatClampNeg v1 → (K t1 (v2 + 1)))) ∧ (¬ v2 < 8 → K τ v2))) : x_WI d mX0_withAnswer K 31 [(0, .ref 339), (1, .int v1), (2, .int v2)] [] τ := by
  refine o_iload_n (k := 2) 2 (by decide +kernel) rfl ?_
  refine o_if_lt (off := 9) 41 (by decide +kernel) (by decide) (fun q => ?_) (fun q => ?_)
  · replace h := h.1 q
    refine o_iload_n (k := 2) 2 (by decide +kernel) rfl ?_
    exact f_iret (ty := .int) rfl rfl (by decide +kernel) rfl h
  · replace h := h.2 q
    refine o_iload_n (k := 2) 2 (by decide +kernel) rfl ?_
    refine o_bipush (n := 8) (v := 8) (by decide +kernel) (by decide) ?_
    refine o_icmp_lt (off := 5) 43 (by decide +kernel) (by decide) (fun q => ?_) (fun q => ?_)
    · replace h := h.1 q
      refine o_aload_n (k := 0) 0 (by decide +kernel) rfl ?_
      refine f_getR (r := 340) (t := 0) (k := 2) (i := 9) (by decide +kernel) sh_339 rfl (by decide) lk_482 (by simp [x_ty, tyX0]) (gr_0_2 sh_339) ?_
      refine o_iload_n (k := 2) 2 (by decide +kernel) rfl ?_
      refine o_iload_n (k := 1) 1 (by decide +kernel) rfl ?_
      obtain ⟨hi, h⟩ := h
      refine f_iast (by decide +kernel) sh_340 hi rfl ?_
      refine f_name (fun t1 et1 => ?_)
      replace h := h t1 et1
      refine o_iload_n (k := 2) 2 (by decide +kernel) rfl ?_
      refine o_iconst (n := 1) (v := 1) (by decide +kernel) (by decide) ?_
      refine o_iadd (by decide +kernel) ?_
      exact f_iret (ty := .int) rfl rfl (by decide +kernel) rfl h
    · replace h := h.2 q
      refine o_iload_n (k := 2) 2 (by decide +kernel) rfl ?_
      exact f_iret (ty := .int) rfl rfl (by decide +kernel) rfl h
set_option maxRecDepth 20000 in
theorem e_X0_farthestFromNoon {d : Nat} {K : x_T → Int32 → Prop} {v1 : Int32} {τ : x_T} (h : x_WI (d + 1) mX0_farthestFromNoon K 7 [(0, .ref 339), (1, .int v1), (2, .int (-1)), (3, .int (-1)), (4, .int 0)] [] τ) : x_CI (d + 1) mX0_farthestFromNoon [.ref 339, .int v1] τ K := by
  refine x_CI_of (by decide) (Nat.le_of_ble_eq_true rfl) ?_
  show x_WI (d + 1) mX0_farthestFromNoon K 0 [(0, .ref 339), (1, .int v1)] [] τ
  refine o_iconst (n := -1) (v := (-1)) (by decide +kernel) (by decide) ?_
  refine o_istore_n (k := 2) (L' := [(2, .int (-1)), (0, .ref 339), (1, .int v1)]) (by decide +kernel) (by decide) rfl ?_
  refine o_iconst (n := -1) (v := (-1)) (by decide +kernel) (by decide) ?_
  refine o_istore_n (k := 3) (L' := [(3, .int (-1)), (2, .int (-1)), (0, .ref 339), (1, .int v1)]) (by decide +kernel) (by decide) rfl ?_
  refine o_iconst (n := 0) (v := 0) (by decide +kernel) (by decide) ?_
  refine o_istore (k := 4) (L' := [(4, .int 0), (3, .int (-1)), (2, .int (-1)), (0, .ref 339), (1, .int v1)]) (by decide +kernel) (by decide) rfl ?_
  refine o_sub [3, 4, 2, 1, 0] rfl ?_
  exact h
set_option maxRecDepth 20000 in
theorem k_X0_farthestFromNoon_7 {d : Nat} {K : x_T → Int32 → Prop} {v1 : Int32} {v2 : Int32} {v3 : Int32} {v4 : Int32} {τ : x_T} (h : (τ.1 1 0 ≤ v4 → K τ v2) ∧ (¬ τ.1 1 0 ≤ v4 → x_CI d mX3_hourBy [.ref 1, .int v1, .int v4] τ (fun t1 a2 => ∀ y3, y3 = (if 0 ≤ a2 - 12 then a2 - 12 else 0 - (a2 - 12)) → ((y3 ≤ v3 → x_WI (d + 1) mX0_farthestFromNoon K 49 [(0, .ref 339), (1, .int v1), (2, .int v2), (3, .int v3), (4, .int v4)] [] t1) ∧ (¬ y3 ≤ v3 → x_WI (d + 1) mX0_farthestFromNoon K 49 [(0, .ref 339), (1, .int v1), (2, .int v4), (3, .int y3), (4, .int v4)] [] t1))))) : x_WI (d + 1) mX0_farthestFromNoon K 7 [(0, .ref 339), (1, .int v1), (2, .int v2), (3, .int v3), (4, .int v4)] [] τ := by
  refine o_iload (k := 4) 4 (by decide +kernel) rfl ?_
  refine o_aload_n (k := 0) 0 (by decide +kernel) rfl ?_
  refine f_getR (r := 1) (t := 0) (k := 0) (i := 15) (by decide +kernel) sh_339 rfl (by decide) lk_480 (by simp [x_ty, tyX0]) (gr_0_0 sh_339) ?_
  refine f_getI (t := 3) (k := 0) (i := 23) (by decide +kernel) sh_1 rfl (by decide) lk_178 rfl ?_
  refine o_icmp_ge (off := 39) 55 (by decide +kernel) (by decide) (fun q => ?_) (fun q => ?_)
  · replace h := h.1 q
    refine o_iload_n (k := 2) 2 (by decide +kernel) rfl ?_
    exact f_iret (ty := .int) rfl rfl (by decide +kernel) rfl h
  · replace h := h.2 q
    refine o_aload_n (k := 0) 0 (by decide +kernel) rfl ?_
    refine f_getR (r := 1) (t := 0) (k := 0) (i := 15) (by decide +kernel) sh_339 rfl (by decide) lk_480 (by simp [x_ty, tyX0]) (gr_0_0 sh_339) ?_
    refine o_iload_n (k := 1) 1 (by decide +kernel) rfl ?_
    refine o_iload (k := 4) 4 (by decide +kernel) rfl ?_
    refine f_callVI (μ' := mX3_hourBy) (i := 45) (vs := [.int v1, .int v4]) (by decide +kernel) lk_1150 (vok_mX3_hourBy) sh_1 rfl rfl rfl rfl (Nat.le_of_ble_eq_true rfl) ?_
    refine x_CI.mono h (fun t1 a2 h => ?_)
    refine o_bipush (n := 12) (v := 12) (by decide +kernel) (by decide) ?_
    refine o_isub (by decide +kernel) ?_
    refine o_mabs (i := 106) (by decide +kernel) lk_1302 lm_abs (Nat.le_of_ble_eq_true rfl) ?_
    refine o_name (fun y3 ey3 => ?_)
    replace h := h y3 ey3
    refine o_istore (k := 5) (L' := [(5, .int y3), (0, .ref 339), (1, .int v1), (2, .int v2), (3, .int v3), (4, .int v4)]) (by decide +kernel) (by decide) rfl ?_
    refine o_iload (k := 5) 0 (by decide +kernel) rfl ?_
    refine o_iload_n (k := 3) 4 (by decide +kernel) rfl ?_
    refine o_icmp_le (off := 9) 49 (by decide +kernel) (by decide) (fun q => ?_) (fun q => ?_)
    · replace h := h.1 q
      refine o_sub [1, 2, 3, 4, 5] rfl ?_
      exact h
    · replace h := h.2 q
      refine o_iload (k := 5) 0 (by decide +kernel) rfl ?_
      refine o_istore_n (k := 3) (L' := [(3, .int y3), (5, .int y3), (0, .ref 339), (1, .int v1), (2, .int v2), (4, .int v4)]) (by decide +kernel) (by decide) rfl ?_
      refine o_iload (k := 4) 5 (by decide +kernel) rfl ?_
      refine o_istore_n (k := 2) (L' := [(2, .int v4), (3, .int y3), (5, .int y3), (0, .ref 339), (1, .int v1), (4, .int v4)]) (by decide +kernel) (by decide) rfl ?_
      refine o_sub [3, 4, 0, 1, 5] rfl ?_
      exact h
set_option maxRecDepth 20000 in
theorem k_X0_farthestFromNoon_49 {d : Nat} {K : x_T → Int32 → Prop} {v1 : Int32} {v2 : Int32} {v3 : Int32} {v4 : Int32} {τ : x_T} (h : ∀ y1, y1 = v4 + 1 → (x_WI (d + 1) mX0_farthestFromNoon K 7 [(0, .ref 339), (1, .int v1), (2, .int v2), (3, .int v3), (4, .int y1)] [] τ)) : x_WI (d + 1) mX0_farthestFromNoon K 49 [(0, .ref 339), (1, .int v1), (2, .int v2), (3, .int v3), (4, .int v4)] [] τ := by
  obtain ⟨y1, ey1⟩ : ∃ y : Int32, y = v4 + 1 := ⟨_, rfl⟩
  replace h := h y1 ey1
  refine o_iinc (i := 4) (n := 1) (v := y1) (L' := [(4, .int y1), (0, .ref 339), (1, .int v1), (2, .int v2), (3, .int v3)]) 4 (by decide +kernel) rfl (by rw [ey1]; rfl) (by decide) rfl ?_
  refine o_goto (off := -45) 7 (by decide +kernel) (by decide) ?_
  refine o_sub [1, 2, 3, 4, 0] rfl ?_
  exact h
set_option maxRecDepth 20000 in
theorem e_X0_bestWatch {d : Nat} {K : x_T → Int32 → Prop} {v1 : Int32} {v2 : Int32} {τ : x_T} (h : x_WI (d + 1) mX0_bestWatch K 2 [(0, .ref 339), (1, .int v1), (2, .int v2), (3, .int 0)] [] τ) : x_CI (d + 1) mX0_bestWatch [.ref 339, .int v1, .int v2] τ K := by
  refine x_CI_of (by decide) (Nat.le_of_ble_eq_true rfl) ?_
  show x_WI (d + 1) mX0_bestWatch K 0 [(0, .ref 339), (1, .int v1), (2, .int v2)] [] τ
  refine o_iconst (n := 0) (v := 0) (by decide +kernel) (by decide) ?_
  refine o_istore_n (k := 3) (L' := [(3, .int 0), (0, .ref 339), (1, .int v1), (2, .int v2)]) (by decide +kernel) (by decide) rfl ?_
  refine o_sub [1, 2, 3, 0] rfl ?_
  exact h
set_option maxRecDepth 20000 in
theorem k_X0_bestWatch_2 {d : Nat} {K : x_T → Int32 → Prop} {v1 : Int32} {v2 : Int32} {v3 : Int32} {τ : x_T} (h : (8 ≤ v3 → x_WI (d + 1) mX0_bestWatch K 34 [(0, .ref 339), (1, .int v1), (3, .int (-1)), (4, .int (-1)), (5, .int 0)] [] τ) ∧ (¬ 8 ≤ v3 → x_CI d mX0_nearBits [.ref 339, .int v3, .int v2] τ (fun t1 a2 => vp_in v3 8 ∧ (∀ t3, t3 = x_w1 t1 340 v3.toNatClampNeg a2 → (∀ y4, y4 = v3 + 1 → (x_WI (d + 1) mX0_bestWatch K 2 [(0, .ref 339), (1, .int v1), (2, .int v2), (3, .int y4)] [] t3)))))) : x_WI (d + 1) mX0_bestWatch K 2 [(0, .ref 339), (1, .int v1), (2, .int v2), (3, .int v3)] [] τ := by
  refine o_iload_n (k := 3) 3 (by decide +kernel) rfl ?_
  refine o_bipush (n := 8) (v := 8) (by decide +kernel) (by decide) ?_
  refine o_icmp_ge (off := 21) 26 (by decide +kernel) (by decide) (fun q => ?_) (fun q => ?_)
  · replace h := h.1 q
    refine o_iconst (n := -1) (v := (-1)) (by decide +kernel) (by decide) ?_
    refine o_istore_n (k := 3) (L' := [(3, .int (-1)), (0, .ref 339), (1, .int v1), (2, .int v2)]) (by decide +kernel) (by decide) rfl ?_
    refine o_iconst (n := -1) (v := (-1)) (by decide +kernel) (by decide) ?_
    refine o_istore (k := 4) (L' := [(4, .int (-1)), (3, .int (-1)), (0, .ref 339), (1, .int v1), (2, .int v2)]) (by decide +kernel) (by decide) rfl ?_
    refine o_iconst (n := 0) (v := 0) (by decide +kernel) (by decide) ?_
    refine o_istore (k := 5) (L' := [(5, .int 0), (4, .int (-1)), (3, .int (-1)), (0, .ref 339), (1, .int v1), (2, .int v2)]) (by decide +kernel) (by decide) rfl ?_
    refine o_sub [3, 4, 2, 1, 0] rfl ?_
    exact h
  · replace h := h.2 q
    refine o_aload_n (k := 0) 0 (by decide +kernel) rfl ?_
    refine f_getR (r := 340) (t := 0) (k := 2) (i := 9) (by decide +kernel) sh_339 rfl (by decide) lk_482 (by simp [x_ty, tyX0]) (gr_0_2 sh_339) ?_
    refine o_iload_n (k := 3) 3 (by decide +kernel) rfl ?_
    refine o_aload_n (k := 0) 0 (by decide +kernel) rfl ?_
    refine o_iload_n (k := 3) 3 (by decide +kernel) rfl ?_
    refine o_iload_n (k := 2) 2 (by decide +kernel) rfl ?_
    refine f_callVI (μ' := mX0_nearBits) (i := 110) (vs := [.int v3, .int v2]) (by decide +kernel) lk_1311 (vok_mX0_nearBits) sh_339 rfl rfl rfl rfl (Nat.le_of_ble_eq_true rfl) ?_
    refine x_CI.mono h (fun t1 a2 h => ?_)
    obtain ⟨hi, h⟩ := h
    refine f_iast (by decide +kernel) sh_340 hi rfl ?_
    refine f_name (fun t3 et3 => ?_)
    replace h := h t3 et3
    obtain ⟨y4, ey4⟩ : ∃ y : Int32, y = v3 + 1 := ⟨_, rfl⟩
    replace h := h y4 ey4
    refine o_iinc (i := 3) (n := 1) (v := y4) (L' := [(3, .int y4), (0, .ref 339), (1, .int v1), (2, .int v2)]) 3 (by decide +kernel) rfl (by rw [ey4]; rfl) (by decide) rfl ?_
    refine o_goto (off := -21) 2 (by decide +kernel) (by decide) ?_
    refine o_sub [1, 2, 3, 0] rfl ?_
    exact h
set_option maxRecDepth 20000 in
theorem k_X0_bestWatch_34 {d : Nat} {K : x_T → Int32 → Prop} {v1 : Int32} {v3 : Int32} {v4 : Int32} {v5 : Int32} {τ : x_T} (h : (256 ≤ v5 → K τ v3) ∧ (¬ 256 ≤ v5 → x_CI d mJ6_bitCount_0f7a4 [.int v5] τ (fun t1 a2 => (¬ a2 = v1 → x_WI (d + 1) mX0_bestWatch K 89 [(0, .ref 339), (1, .int v1), (3, .int v3), (4, .int v4), (5, .int v5)] [] t1) ∧ (a2 = v1 → (¬ v5 >>> ((t1.1 1 0) &&& 31) = 0 → x_WI (d + 1) mX0_bestWatch K 89 [(0, .ref 339), (1, .int v1), (3, .int v3), (4, .int v4), (5, .int v5)] [] t1) ∧ (v5 >>> ((t1.1 1 0) &&& 31) = 0 → x_CI d mX0_watchedBy [.ref 339, .int v5] t1 (fun t3 a4 => x_CI d mJ6_bitCount_0f7a4 [.int a4] t3 (fun t5 a6 => (a6 ≤ v4 → x_WI (d + 1) mX0_bestWatch K 89 [(0, .ref 339), (1, .int v1), (3, .int v3), (4, .int v4), (5, .int v5)] [] t5) ∧ (¬ a6 ≤ v4 → x_WI (d + 1) mX0_bestWatch K 89 [(0, .ref 339), (1, .int v1), (3, .int v5), (4, .int a6), (5, .int v5)] [] t5)))))))) : x_WI (d + 1) mX0_bestWatch K 34 [(0, .ref 339), (1, .int v1), (3, .int v3), (4, .int v4), (5, .int v5)] [] τ := by
  refine o_iload (k := 5) 4 (by decide +kernel) rfl ?_
  refine o_sipush (n := 256) (v := 256) (by decide +kernel) (by decide) ?_
  refine o_icmp_ge (off := 56) 95 (by decide +kernel) (by decide) (fun q => ?_) (fun q => ?_)
  · replace h := h.1 q
    refine o_iload_n (k := 3) 2 (by decide +kernel) rfl ?_
    exact f_iret (ty := .int) rfl rfl (by decide +kernel) rfl h
  · replace h := h.2 q
    refine o_iload (k := 5) 4 (by decide +kernel) rfl ?_
    refine f_callSI (μ' := mJ6_bitCount_0f7a4) (i := 113) (vs := [.int v5]) (by decide +kernel) lk_1315 (cok_mJ6_bitCount_0f7a4) rfl (stt_mJ6_bitCount_0f7a4) rfl rfl (Nat.le_of_ble_eq_true rfl) ?_
    refine x_CI.mono h (fun t1 a2 h => ?_)
    refine o_iload_n (k := 1) 1 (by decide +kernel) rfl ?_
    refine o_icmp_ne (off := 41) 89 (by decide +kernel) (by decide) (fun q => ?_) (fun q => ?_)
    · replace h := h.1 q
      exact h
    · replace h := h.2 q
      refine o_iload (k := 5) 4 (by decide +kernel) rfl ?_
      refine o_aload_n (k := 0) 0 (by decide +kernel) rfl ?_
      refine f_getR (r := 1) (t := 0) (k := 0) (i := 15) (by decide +kernel) sh_339 rfl (by decide) lk_480 (by simp [x_ty, tyX0]) (gr_0_0 sh_339) ?_
      refine f_getI (t := 3) (k := 0) (i := 23) (by decide +kernel) sh_1 rfl (by decide) lk_178 rfl ?_
      refine o_ishr (by decide +kernel) ?_
      refine o_if_ne (off := 28) 89 (by decide +kernel) (by decide) (fun q => ?_) (fun q => ?_)
      · replace h := h.1 q
        exact h
      · replace h := h.2 q
        refine o_aload_n (k := 0) 0 (by decide +kernel) rfl ?_
        refine o_iload (k := 5) 4 (by decide +kernel) rfl ?_
        refine f_callVI (μ' := mX0_watchedBy) (i := 118) (vs := [.int v5]) (by decide +kernel) lk_1321 (vok_mX0_watchedBy) sh_339 rfl rfl rfl rfl (Nat.le_of_ble_eq_true rfl) ?_
        refine x_CI.mono h (fun t3 a4 h => ?_)
        refine f_callSI (μ' := mJ6_bitCount_0f7a4) (i := 113) (vs := [.int a4]) (by decide +kernel) lk_1315 (cok_mJ6_bitCount_0f7a4) rfl (stt_mJ6_bitCount_0f7a4) rfl rfl (Nat.le_of_ble_eq_true rfl) ?_
        refine x_CI.mono h (fun t5 a6 h => ?_)
        refine o_istore (k := 6) (L' := [(6, .int a6), (0, .ref 339), (1, .int v1), (3, .int v3), (4, .int v4), (5, .int v5)]) (by decide +kernel) (by decide) rfl ?_
        refine o_iload (k := 6) 0 (by decide +kernel) rfl ?_
        refine o_iload (k := 4) 4 (by decide +kernel) rfl ?_
        refine o_icmp_le (off := 10) 89 (by decide +kernel) (by decide) (fun q => ?_) (fun q => ?_)
        · replace h := h.1 q
          refine o_sub [1, 2, 3, 4, 5] rfl ?_
          exact h
        · replace h := h.2 q
          refine o_iload (k := 6) 0 (by decide +kernel) rfl ?_
          refine o_istore (k := 4) (L' := [(4, .int a6), (6, .int a6), (0, .ref 339), (1, .int v1), (3, .int v3), (5, .int v5)]) (by decide +kernel) (by decide) rfl ?_
          refine o_iload (k := 5) 5 (by decide +kernel) rfl ?_
          refine o_istore_n (k := 3) (L' := [(3, .int v5), (4, .int a6), (6, .int a6), (0, .ref 339), (1, .int v1), (5, .int v5)]) (by decide +kernel) (by decide) rfl ?_
          refine o_sub [3, 4, 0, 1, 5] rfl ?_
          exact h
set_option maxRecDepth 20000 in
theorem k_X0_bestWatch_89 {d : Nat} {K : x_T → Int32 → Prop} {v1 : Int32} {v3 : Int32} {v4 : Int32} {v5 : Int32} {τ : x_T} (h : ∀ y1, y1 = v5 + 1 → (x_WI (d + 1) mX0_bestWatch K 34 [(0, .ref 339), (1, .int v1), (3, .int v3), (4, .int v4), (5, .int y1)] [] τ)) : x_WI (d + 1) mX0_bestWatch K 89 [(0, .ref 339), (1, .int v1), (3, .int v3), (4, .int v4), (5, .int v5)] [] τ := by
  obtain ⟨y1, ey1⟩ : ∃ y : Int32, y = v5 + 1 := ⟨_, rfl⟩
  replace h := h y1 ey1
  refine o_iinc (i := 5) (n := 1) (v := y1) (L' := [(5, .int y1), (0, .ref 339), (1, .int v1), (3, .int v3), (4, .int v4)]) 4 (by decide +kernel) rfl (by rw [ey1]; rfl) (by decide) rfl ?_
  refine o_goto (off := -58) 34 (by decide +kernel) (by decide) ?_
  refine o_sub [1, 2, 3, 4, 0] rfl ?_
  exact h
set_option maxRecDepth 20000 in
theorem e_X0_nearBits {d : Nat} {K : x_T → Int32 → Prop} {v1 : Int32} {v2 : Int32} {τ : x_T} (h : x_WI (d + 1) mX0_nearBits K 5 [(0, .ref 339), (1, .int v1), (2, .int v2), (3, .int 0), (4, .int 0)] [] τ) : x_CI (d + 1) mX0_nearBits [.ref 339, .int v1, .int v2] τ K := by
  refine x_CI_of (by decide) (Nat.le_of_ble_eq_true rfl) ?_
  show x_WI (d + 1) mX0_nearBits K 0 [(0, .ref 339), (1, .int v1), (2, .int v2)] [] τ
  refine o_iconst (n := 0) (v := 0) (by decide +kernel) (by decide) ?_
  refine o_istore_n (k := 3) (L' := [(3, .int 0), (0, .ref 339), (1, .int v1), (2, .int v2)]) (by decide +kernel) (by decide) rfl ?_
  refine o_iconst (n := 0) (v := 0) (by decide +kernel) (by decide) ?_
  refine o_istore (k := 4) (L' := [(4, .int 0), (3, .int 0), (0, .ref 339), (1, .int v1), (2, .int v2)]) (by decide +kernel) (by decide) rfl ?_
  refine o_sub [2, 3, 4, 1, 0] rfl ?_
  exact h
set_option maxRecDepth 20000 in
theorem k_X0_nearBits_5 {d : Nat} {K : x_T → Int32 → Prop} {v1 : Int32} {v2 : Int32} {v3 : Int32} {v4 : Int32} {τ : x_T} (h : (τ.1 1 0 ≤ v4 → K τ v3) ∧ (¬ τ.1 1 0 ≤ v4 → x_CI d mX3_wayBetween [.ref 1, .int v1, .int v4] τ (fun t1 a2 => (v2 < a2 → x_WI (d + 1) mX0_nearBits K 38 [(0, .ref 339), (1, .int v1), (2, .int v2), (3, .int v3), (4, .int v4)] [] t1) ∧ (¬ v2 < a2 → ∀ y3, y3 = v3 ||| (1 <<< (v4 &&& 31)) → (x_WI (d + 1) mX0_nearBits K 38 [(0, .ref 339), (1, .int v1), (2, .int v2), (3, .int y3), (4, .int v4)] [] t1))))) : x_WI (d + 1) mX0_nearBits K 5 [(0, .ref 339), (1, .int v1), (2, .int v2), (3, .int v3), (4, .int v4)] [] τ := by
  refine o_iload (k := 4) 4 (by decide +kernel) rfl ?_
  refine o_aload_n (k := 0) 0 (by decide +kernel) rfl ?_
  refine f_getR (r := 1) (t := 0) (k := 0) (i := 15) (by decide +kernel) sh_339 rfl (by decide) lk_480 (by simp [x_ty, tyX0]) (gr_0_0 sh_339) ?_
  refine f_getI (t := 3) (k := 0) (i := 23) (by decide +kernel) sh_1 rfl (by decide) lk_178 rfl ?_
  refine o_icmp_ge (off := 30) 44 (by decide +kernel) (by decide) (fun q => ?_) (fun q => ?_)
  · replace h := h.1 q
    refine o_iload_n (k := 3) 3 (by decide +kernel) rfl ?_
    exact f_iret (ty := .int) rfl rfl (by decide +kernel) rfl h
  · replace h := h.2 q
    refine o_aload_n (k := 0) 0 (by decide +kernel) rfl ?_
    refine f_getR (r := 1) (t := 0) (k := 0) (i := 15) (by decide +kernel) sh_339 rfl (by decide) lk_480 (by simp [x_ty, tyX0]) (gr_0_0 sh_339) ?_
    refine o_iload_n (k := 1) 1 (by decide +kernel) rfl ?_
    refine o_iload (k := 4) 4 (by decide +kernel) rfl ?_
    refine f_callVI (μ' := mX3_wayBetween) (i := 59) (vs := [.int v1, .int v4]) (by decide +kernel) lk_1225 (vok_mX3_wayBetween) sh_1 rfl rfl rfl rfl (Nat.le_of_ble_eq_true rfl) ?_
    refine x_CI.mono h (fun t1 a2 h => ?_)
    refine o_iload_n (k := 2) 2 (by decide +kernel) rfl ?_
    refine o_icmp_gt (off := 10) 38 (by decide +kernel) (by decide) (fun q => ?_) (fun q => ?_)
    · replace h := h.1 q
      exact h
    · replace h := h.2 q
      refine o_iload_n (k := 3) 3 (by decide +kernel) rfl ?_
      refine o_iconst (n := 1) (v := 1) (by decide +kernel) (by decide) ?_
      refine o_iload (k := 4) 4 (by decide +kernel) rfl ?_
      refine o_ishl (by decide +kernel) ?_
      refine o_ior (by decide +kernel) ?_
      refine o_name (fun y3 ey3 => ?_)
      replace h := h y3 ey3
      refine o_istore_n (k := 3) (L' := [(3, .int y3), (0, .ref 339), (1, .int v1), (2, .int v2), (4, .int v4)]) (by decide +kernel) (by decide) rfl ?_
      refine o_sub [1, 2, 3, 0, 4] rfl ?_
      exact h
set_option maxRecDepth 20000 in
theorem k_X0_nearBits_38 {d : Nat} {K : x_T → Int32 → Prop} {v1 : Int32} {v2 : Int32} {v3 : Int32} {v4 : Int32} {τ : x_T} (h : ∀ y1, y1 = v4 + 1 → (x_WI (d + 1) mX0_nearBits K 5 [(0, .ref 339), (1, .int v1), (2, .int v2), (3, .int v3), (4, .int y1)] [] τ)) : x_WI (d + 1) mX0_nearBits K 38 [(0, .ref 339), (1, .int v1), (2, .int v2), (3, .int v3), (4, .int v4)] [] τ := by
  obtain ⟨y1, ey1⟩ : ∃ y : Int32, y = v4 + 1 := ⟨_, rfl⟩
  replace h := h y1 ey1
  refine o_iinc (i := 4) (n := 1) (v := y1) (L' := [(4, .int y1), (0, .ref 339), (1, .int v1), (2, .int v2), (3, .int v3)]) 4 (by decide +kernel) rfl (by rw [ey1]; rfl) (by decide) rfl ?_
  refine o_goto (off := -36) 5 (by decide +kernel) (by decide) ?_
  refine o_sub [1, 2, 3, 4, 0] rfl ?_
  exact h
set_option maxRecDepth 20000 in
theorem e_X0_watchedBy {d : Nat} {K : x_T → Int32 → Prop} {v1 : Int32} {τ : x_T} (h : x_WI d mX0_watchedBy K 4 [(0, .ref 339), (1, .int v1), (2, .int 0), (3, .int 0)] [] τ) : x_CI d mX0_watchedBy [.ref 339, .int v1] τ K := by
  refine x_CI_of (by decide) (Nat.le_of_ble_eq_true rfl) ?_
  show x_WI d mX0_watchedBy K 0 [(0, .ref 339), (1, .int v1)] [] τ
  refine o_iconst (n := 0) (v := 0) (by decide +kernel) (by decide) ?_
  refine o_istore_n (k := 2) (L' := [(2, .int 0), (0, .ref 339), (1, .int v1)]) (by decide +kernel) (by decide) rfl ?_
  refine o_iconst (n := 0) (v := 0) (by decide +kernel) (by decide) ?_
  refine o_istore_n (k := 3) (L' := [(3, .int 0), (2, .int 0), (0, .ref 339), (1, .int v1)]) (by decide +kernel) (by decide) rfl ?_
  refine o_sub [2, 3, 1, 0] rfl ?_
  exact h
set_option maxRecDepth 20000 in
theorem k_X0_watchedBy_4 {d : Nat} {K : x_T → Int32 → Prop} {v1 : Int32} {v2 : Int32} {v3 : Int32} {τ : x_T} (h : (8 ≤ v3 → K τ v2) ∧ (¬ 8 ≤ v3 → ((v1 >>> (v3 &&& 31)) &&& 1 = 0 → x_WI d mX0_watchedBy K 27 [(0, .ref 339), (1, .int v1), (2, .int v2), (3, .int v3)] [] τ) ∧ (¬ (v1 >>> (v3 &&& 31)) &&& 1 = 0 → vp_in v3 8 ∧ (∀ y1, y1 = v2 ||| (τ.1 340 v3.toNatClampNeg) → (x_WI d mX0_watchedBy K 27 [(0, .ref 339), (1, .int v1), (2, .int y1), (3, .int v3)] [] τ))))) : x_WI d mX0_watchedBy K 4 [(0, .ref 339), (1, .int v1), (2, .int v2), (3, .int v3)] [] τ := by
  refine o_iload_n (k := 3) 3 (by decide +kernel) rfl ?_
  refine o_bipush (n := 8) (v := 8) (by decide +kernel) (by decide) ?_
  refine o_icmp_ge (off := 26) 33 (by decide +kernel) (by decide) (fun q => ?_) (fun q => ?_)
  · replace h := h.1 q
    refine o_iload_n (k := 2) 2 (by decide +kernel) rfl ?_
    exact f_iret (ty := .int) rfl rfl (by decide +kernel) rfl h
  · replace h := h.2 q
    refine o_iload_n (k := 1) 1 (by decide +kernel) rfl ?_
    refine o_iload_n (k := 3) 3 (by decide +kernel) rfl ?_
    refine o_ishr (by decide +kernel) ?_
    refine o_iconst (n := 1) (v := 1) (by decide +kernel) (by decide) ?_
    refine o_iand (by decide +kernel) ?_
    refine o_if_eq (off := 12) 27 (by decide +kernel) (by decide) (fun q => ?_) (fun q => ?_)
    · replace h := h.1 q
      exact h
    · replace h := h.2 q
      refine o_iload_n (k := 2) 2 (by decide +kernel) rfl ?_
      refine o_aload_n (k := 0) 0 (by decide +kernel) rfl ?_
      refine f_getR (r := 340) (t := 0) (k := 2) (i := 9) (by decide +kernel) sh_339 rfl (by decide) lk_482 (by simp [x_ty, tyX0]) (gr_0_2 sh_339) ?_
      refine o_iload_n (k := 3) 3 (by decide +kernel) rfl ?_
      obtain ⟨hi, h⟩ := h
      refine f_iald (by decide +kernel) sh_340 hi rfl ?_
      refine o_ior (by decide +kernel) ?_
      refine o_name (fun y1 ey1 => ?_)
      replace h := h y1 ey1
      refine o_istore_n (k := 2) (L' := [(2, .int y1), (0, .ref 339), (1, .int v1), (3, .int v3)]) (by decide +kernel) (by decide) rfl ?_
      refine o_sub [1, 2, 0, 3] rfl ?_
      exact h
set_option maxRecDepth 20000 in
theorem k_X0_watchedBy_27 {d : Nat} {K : x_T → Int32 → Prop} {v1 : Int32} {v2 : Int32} {v3 : Int32} {τ : x_T} (h : ∀ y1, y1 = v3 + 1 → (x_WI d mX0_watchedBy K 4 [(0, .ref 339), (1, .int v1), (2, .int v2), (3, .int y1)] [] τ)) : x_WI d mX0_watchedBy K 27 [(0, .ref 339), (1, .int v1), (2, .int v2), (3, .int v3)] [] τ := by
  obtain ⟨y1, ey1⟩ : ∃ y : Int32, y = v3 + 1 := ⟨_, rfl⟩
  replace h := h y1 ey1
  refine o_iinc (i := 3) (n := 1) (v := y1) (L' := [(3, .int y1), (0, .ref 339), (1, .int v1), (2, .int v2)]) 3 (by decide +kernel) rfl (by rw [ey1]; rfl) (by decide) rfl ?_
  refine o_goto (off := -26) 4 (by decide +kernel) (by decide) ?_
  refine o_sub [1, 2, 3, 0] rfl ?_
  exact h
