set_option maxRecDepth 20000 in
theorem e_X9_empty {d : Nat} {K : x_T → Prop} {o : Nat} (ho : x_sh o = (9, 10)) {τ : x_T} (h : ∀ t1, t1 = x_w1 τ o 4 0 → (∀ t2, t2 = x_w1 t1 o 9 0 → (x_WV d mX9_empty K 12 [(0, .ref o), (1, .int 0)] [] t2))) : x_CV d mX9_empty [.ref o] τ K := by
  refine x_CV_of (by decide) (Nat.le_of_ble_eq_true rfl) ?_
  show x_WV d mX9_empty K 0 [(0, .ref o)] [] τ
  refine o_aload_n (k := 0) 0 (by decide +kernel) rfl ?_
  refine o_iconst (n := 0) (v := 0) (by decide +kernel) (by decide) ?_
  refine f_putI (t := 9) (k := 4) (i := 36) (by decide +kernel) ho rfl (by decide) lk_315 rfl rfl ?_
  refine f_name (fun t1 et1 => ?_)
  replace h := h t1 et1
  refine o_aload_n (k := 0) 0 (by decide +kernel) rfl ?_
  refine o_iconst (n := 0) (v := 0) (by decide +kernel) (by decide) ?_
  refine f_putI (t := 9) (k := 9) (i := 40) (by decide +kernel) ho rfl (by decide) lk_322 rfl rfl ?_
  refine f_name (fun t2 et2 => ?_)
  replace h := h t2 et2
  refine o_iconst (n := 0) (v := 0) (by decide +kernel) (by decide) ?_
  refine o_istore_n (k := 1) (L' := [(1, .int 0), (0, .ref o)]) (by decide +kernel) (by decide) rfl ?_
  refine o_sub [1, 0] rfl ?_
  exact h
set_option maxRecDepth 20000 in
theorem k_X9_empty_12 {d : Nat} {K : x_T → Prop} {o : Nat} (ho : x_sh o = (9, 10)) {v1 : Int32} {τ : x_T} (h : (4 ≤ v1 → K τ) ∧ (¬ 4 ≤ v1 → vp_in v1 4 ∧ (∀ t1, t1 = x_w1 τ (o + 5) v1.toNatClampNeg 0 → (vp_in v1 4 ∧ (∀ t2, t2 = x_w1 t1 (o + 6) v1.toNatClampNeg 0 → (∀ y3, y3 = v1 + 1 → (x_WV d mX9_empty K 12 [(0, .ref o), (1, .int y3)] [] t2))))))) : x_WV d mX9_empty K 12 [(0, .ref o), (1, .int v1)] [] τ := by
  refine o_iload_n (k := 1) 1 (by decide +kernel) rfl ?_
  refine o_iconst (n := 4) (v := 4) (by decide +kernel) (by decide) ?_
  refine o_icmp_ge (off := 23) 37 (by decide +kernel) (by decide) (fun q => ?_) (fun q => ?_)
  · replace h := h.1 q
    exact f_vret rfl (by decide +kernel) rfl h
  · replace h := h.2 q
    refine o_aload_n (k := 0) 0 (by decide +kernel) rfl ?_
    refine f_getR (r := (o + 5)) (t := 9) (k := 5) (i := 24) (by decide +kernel) ho rfl (by decide) lk_318 (by simp [x_ty, tyX9]) (gr_9_5 ho) ?_
    refine o_iload_n (k := 1) 1 (by decide +kernel) rfl ?_
    refine o_iconst (n := 0) (v := 0) (by decide +kernel) (by decide) ?_
    obtain ⟨hi, h⟩ := h
    refine f_iast (by decide +kernel) (shd_9_5 ho) hi rfl ?_
    refine f_name (fun t1 et1 => ?_)
    replace h := h t1 et1
    refine o_aload_n (k := 0) 0 (by decide +kernel) rfl ?_
    refine f_getR (r := (o + 6)) (t := 9) (k := 6) (i := 27) (by decide +kernel) ho rfl (by decide) lk_319 (by simp [x_ty, tyX9]) (gr_9_6 ho) ?_
    refine o_iload_n (k := 1) 1 (by decide +kernel) rfl ?_
    refine o_iconst (n := 0) (v := 0) (by decide +kernel) (by decide) ?_
    obtain ⟨hi, h⟩ := h
    refine f_iast (by decide +kernel) (shd_9_6 ho) hi rfl ?_
    refine f_name (fun t2 et2 => ?_)
    replace h := h t2 et2
    obtain ⟨y3, ey3⟩ : ∃ y : Int32, y = v1 + 1 := ⟨_, rfl⟩
    replace h := h y3 ey3
    refine o_iinc (i := 1) (n := 1) (v := y3) (L' := [(1, .int y3), (0, .ref o)]) 1 (by decide +kernel) rfl (by rw [ey3]; rfl) (by decide) rfl ?_
    refine o_goto (off := -22) 12 (by decide +kernel) (by decide) ?_
    refine o_sub [1, 0] rfl ?_
    exact h
set_option maxRecDepth 20000 in
theorem e_X9_hasLaw {d : Nat} {K : x_T → Int32 → Prop} {o : Nat} (ho : x_sh o = (9, 10)) {v1 : Int32} {τ : x_T} (h : (v1 < 0 → K τ 0) ∧ (¬ v1 < 0 → (4 ≤ v1 → K τ 0) ∧ (¬ 4 ≤ v1 → vp_in v1 4 ∧ (vp_in v1 4 ∧ ((τ.1 (o + 6) v1.toNatClampNeg ≤ τ.1 (o + 5) v1.toNatClampNeg → K τ 0) ∧ (¬ τ.1 (o + 6) v1.toNatClampNeg ≤ τ.1 (o + 5) v1.toNatClampNeg → K τ 1)))))) : x_CI d mX9_hasLaw [.ref o, .int v1] τ K := by
  refine x_CI_of (by decide) (Nat.le_of_ble_eq_true rfl) ?_
  show x_WI d mX9_hasLaw K 0 [(0, .ref o), (1, .int v1)] [] τ
  refine o_iload_n (k := 1) 1 (by decide +kernel) rfl ?_
  refine o_if_lt (off := 27) 28 (by decide +kernel) (by decide) (fun q => ?_) (fun q => ?_)
  · replace h := h.1 q
    refine o_iconst (n := 0) (v := 0) (by decide +kernel) (by decide) ?_
    exact f_iret (ty := .boolean) rfl (by decide) (by decide +kernel) rfl h
  · replace h := h.2 q
    refine o_iload_n (k := 1) 1 (by decide +kernel) rfl ?_
    refine o_iconst (n := 4) (v := 4) (by decide +kernel) (by decide) ?_
    refine o_icmp_ge (off := 22) 28 (by decide +kernel) (by decide) (fun q => ?_) (fun q => ?_)
    · replace h := h.1 q
      refine o_iconst (n := 0) (v := 0) (by decide +kernel) (by decide) ?_
      exact f_iret (ty := .boolean) rfl (by decide) (by decide +kernel) rfl h
    · replace h := h.2 q
      refine o_aload_n (k := 0) 0 (by decide +kernel) rfl ?_
      refine f_getR (r := (o + 6)) (t := 9) (k := 6) (i := 27) (by decide +kernel) ho rfl (by decide) lk_319 (by simp [x_ty, tyX9]) (gr_9_6 ho) ?_
      refine o_iload_n (k := 1) 1 (by decide +kernel) rfl ?_
      obtain ⟨hi, h⟩ := h
      refine f_iald (by decide +kernel) (shd_9_6 ho) hi rfl ?_
      refine o_aload_n (k := 0) 0 (by decide +kernel) rfl ?_
      refine f_getR (r := (o + 5)) (t := 9) (k := 5) (i := 24) (by decide +kernel) ho rfl (by decide) lk_318 (by simp [x_ty, tyX9]) (gr_9_5 ho) ?_
      refine o_iload_n (k := 1) 1 (by decide +kernel) rfl ?_
      obtain ⟨hi, h⟩ := h
      refine f_iald (by decide +kernel) (shd_9_5 ho) hi rfl ?_
      refine o_icmp_le (off := 7) 28 (by decide +kernel) (by decide) (fun q => ?_) (fun q => ?_)
      · replace h := h.1 q
        refine o_iconst (n := 0) (v := 0) (by decide +kernel) (by decide) ?_
        exact f_iret (ty := .boolean) rfl (by decide) (by decide +kernel) rfl h
      · replace h := h.2 q
        refine o_iconst (n := 1) (v := 1) (by decide +kernel) (by decide) ?_
        refine o_goto (off := 4) 29 (by decide +kernel) (by decide) ?_
        exact f_iret (ty := .boolean) rfl (by decide) (by decide +kernel) rfl h
set_option maxRecDepth 20000 in
theorem e_X9_lawStart {d : Nat} {K : x_T → Int32 → Prop} {o : Nat} (ho : x_sh o = (9, 10)) {v1 : Int32} {τ : x_T} (h : (v1 < 0 → K τ 0) ∧ (¬ v1 < 0 → (4 ≤ v1 → K τ 0) ∧ (¬ 4 ≤ v1 → vp_in v1 4 ∧ (K τ (τ.1 (o + 5) v1.toNatClampNeg))))) : x_CI d mX9_lawStart [.ref o, .int v1] τ K := by
  refine x_CI_of (by decide) (Nat.le_of_ble_eq_true rfl) ?_
  show x_WI d mX9_lawStart K 0 [(0, .ref o), (1, .int v1)] [] τ
  refine o_iload_n (k := 1) 1 (by decide +kernel) rfl ?_
  refine o_if_lt (off := 17) 18 (by decide +kernel) (by decide) (fun q => ?_) (fun q => ?_)
  · replace h := h.1 q
    refine o_iconst (n := 0) (v := 0) (by decide +kernel) (by decide) ?_
    exact f_iret (ty := .int) rfl rfl (by decide +kernel) rfl h
  · replace h := h.2 q
    refine o_iload_n (k := 1) 1 (by decide +kernel) rfl ?_
    refine o_iconst (n := 4) (v := 4) (by decide +kernel) (by decide) ?_
    refine o_icmp_ge (off := 12) 18 (by decide +kernel) (by decide) (fun q => ?_) (fun q => ?_)
    · replace h := h.1 q
      refine o_iconst (n := 0) (v := 0) (by decide +kernel) (by decide) ?_
      exact f_iret (ty := .int) rfl rfl (by decide +kernel) rfl h
    · replace h := h.2 q
      refine o_aload_n (k := 0) 0 (by decide +kernel) rfl ?_
      refine f_getR (r := (o + 5)) (t := 9) (k := 5) (i := 24) (by decide +kernel) ho rfl (by decide) lk_318 (by simp [x_ty, tyX9]) (gr_9_5 ho) ?_
      refine o_iload_n (k := 1) 1 (by decide +kernel) rfl ?_
      obtain ⟨hi, h⟩ := h
      refine f_iald (by decide +kernel) (shd_9_5 ho) hi rfl ?_
      refine o_goto (off := 4) 19 (by decide +kernel) (by decide) ?_
      exact f_iret (ty := .int) rfl rfl (by decide +kernel) rfl h
set_option maxRecDepth 20000 in
theorem e_X9_lawEnd {d : Nat} {K : x_T → Int32 → Prop} {o : Nat} (ho : x_sh o = (9, 10)) {v1 : Int32} {τ : x_T} (h : (v1 < 0 → K τ 0) ∧ (¬ v1 < 0 → (4 ≤ v1 → K τ 0) ∧ (¬ 4 ≤ v1 → vp_in v1 4 ∧ (K τ (τ.1 (o + 6) v1.toNatClampNeg))))) : x_CI d mX9_lawEnd [.ref o, .int v1] τ K := by
  refine x_CI_of (by decide) (Nat.le_of_ble_eq_true rfl) ?_
  show x_WI d mX9_lawEnd K 0 [(0, .ref o), (1, .int v1)] [] τ
  refine o_iload_n (k := 1) 1 (by decide +kernel) rfl ?_
  refine o_if_lt (off := 17) 18 (by decide +kernel) (by decide) (fun q => ?_) (fun q => ?_)
  · replace h := h.1 q
    refine o_iconst (n := 0) (v := 0) (by decide +kernel) (by decide) ?_
    exact f_iret (ty := .int) rfl rfl (by decide +kernel) rfl h
  · replace h := h.2 q
    refine o_iload_n (k := 1) 1 (by decide +kernel) rfl ?_
    refine o_iconst (n := 4) (v := 4) (by decide +kernel) (by decide) ?_
    refine o_icmp_ge (off := 12) 18 (by decide +kernel) (by decide) (fun q => ?_) (fun q => ?_)
    · replace h := h.1 q
      refine o_iconst (n := 0) (v := 0) (by decide +kernel) (by decide) ?_
      exact f_iret (ty := .int) rfl rfl (by decide +kernel) rfl h
    · replace h := h.2 q
      refine o_aload_n (k := 0) 0 (by decide +kernel) rfl ?_
      refine f_getR (r := (o + 6)) (t := 9) (k := 6) (i := 27) (by decide +kernel) ho rfl (by decide) lk_319 (by simp [x_ty, tyX9]) (gr_9_6 ho) ?_
      refine o_iload_n (k := 1) 1 (by decide +kernel) rfl ?_
      obtain ⟨hi, h⟩ := h
      refine f_iald (by decide +kernel) (shd_9_6 ho) hi rfl ?_
      refine o_goto (off := 4) 19 (by decide +kernel) (by decide) ?_
      exact f_iret (ty := .int) rfl rfl (by decide +kernel) rfl h
set_option maxRecDepth 20000 in
theorem e_X9_stepAt {d : Nat} {K : x_T → Int32 → Prop} {o : Nat} (ho : x_sh o = (9, 10)) {v1 : Int32} {τ : x_T} (h : (v1 < 0 → K τ 0) ∧ (¬ v1 < 0 → (300 ≤ v1 → K τ 0) ∧ (¬ 300 ≤ v1 → vp_in v1 300 ∧ (K τ (τ.1 (o + 7) v1.toNatClampNeg))))) : x_CI d mX9_stepAt [.ref o, .int v1] τ K := by
  refine x_CI_of (by decide) (Nat.le_of_ble_eq_true rfl) ?_
  show x_WI d mX9_stepAt K 0 [(0, .ref o), (1, .int v1)] [] τ
  refine o_iload_n (k := 1) 1 (by decide +kernel) rfl ?_
  refine o_if_lt (off := 19) 20 (by decide +kernel) (by decide) (fun q => ?_) (fun q => ?_)
  · replace h := h.1 q
    refine o_iconst (n := 0) (v := 0) (by decide +kernel) (by decide) ?_
    exact f_iret (ty := .int) rfl rfl (by decide +kernel) rfl h
  · replace h := h.2 q
    refine o_iload_n (k := 1) 1 (by decide +kernel) rfl ?_
    refine o_sipush (n := 300) (v := 300) (by decide +kernel) (by decide) ?_
    refine o_icmp_ge (off := 12) 20 (by decide +kernel) (by decide) (fun q => ?_) (fun q => ?_)
    · replace h := h.1 q
      refine o_iconst (n := 0) (v := 0) (by decide +kernel) (by decide) ?_
      exact f_iret (ty := .int) rfl rfl (by decide +kernel) rfl h
    · replace h := h.2 q
      refine o_aload_n (k := 0) 0 (by decide +kernel) rfl ?_
      refine f_getR (r := (o + 7)) (t := 9) (k := 7) (i := 30) (by decide +kernel) ho rfl (by decide) lk_320 (by simp [x_ty, tyX9]) (gr_9_7 ho) ?_
      refine o_iload_n (k := 1) 1 (by decide +kernel) rfl ?_
      obtain ⟨hi, h⟩ := h
      refine f_iald (by decide +kernel) (shd_9_7 ho) hi rfl ?_
      refine o_goto (off := 4) 21 (by decide +kernel) (by decide) ?_
      exact f_iret (ty := .int) rfl rfl (by decide +kernel) rfl h
set_option maxRecDepth 20000 in
theorem e_X9_givenAt {d : Nat} {K : x_T → Int32 → Prop} {o : Nat} (ho : x_sh o = (9, 10)) {v1 : Int32} {τ : x_T} (h : (v1 < 0 → K τ 0) ∧ (¬ v1 < 0 → (300 ≤ v1 → K τ 0) ∧ (¬ 300 ≤ v1 → vp_in v1 300 ∧ (K τ (τ.1 (o + 8) v1.toNatClampNeg))))) : x_CI d mX9_givenAt [.ref o, .int v1] τ K := by
  refine x_CI_of (by decide) (Nat.le_of_ble_eq_true rfl) ?_
  show x_WI d mX9_givenAt K 0 [(0, .ref o), (1, .int v1)] [] τ
  refine o_iload_n (k := 1) 1 (by decide +kernel) rfl ?_
  refine o_if_lt (off := 19) 20 (by decide +kernel) (by decide) (fun q => ?_) (fun q => ?_)
  · replace h := h.1 q
    refine o_iconst (n := 0) (v := 0) (by decide +kernel) (by decide) ?_
    exact f_iret (ty := .int) rfl rfl (by decide +kernel) rfl h
  · replace h := h.2 q
    refine o_iload_n (k := 1) 1 (by decide +kernel) rfl ?_
    refine o_sipush (n := 300) (v := 300) (by decide +kernel) (by decide) ?_
    refine o_icmp_ge (off := 12) 20 (by decide +kernel) (by decide) (fun q => ?_) (fun q => ?_)
    · replace h := h.1 q
      refine o_iconst (n := 0) (v := 0) (by decide +kernel) (by decide) ?_
      exact f_iret (ty := .int) rfl rfl (by decide +kernel) rfl h
    · replace h := h.2 q
      refine o_aload_n (k := 0) 0 (by decide +kernel) rfl ?_
      refine f_getR (r := (o + 8)) (t := 9) (k := 8) (i := 33) (by decide +kernel) ho rfl (by decide) lk_321 (by simp [x_ty, tyX9]) (gr_9_8 ho) ?_
      refine o_iload_n (k := 1) 1 (by decide +kernel) rfl ?_
      obtain ⟨hi, h⟩ := h
      refine f_iald (by decide +kernel) (shd_9_8 ho) hi rfl ?_
      refine o_goto (off := 4) 21 (by decide +kernel) (by decide) ?_
      exact f_iret (ty := .int) rfl rfl (by decide +kernel) rfl h
set_option maxRecDepth 20000 in
theorem e_X9_addClause {d : Nat} {K : x_T → Prop} {o : Nat} (ho : x_sh o = (9, 10)) {v1 : Int32} {v2 : Int32} {v3 : Int32} {v4 : Int32} {τ : x_T} (h : (τ.1 o 4 < 0 → K τ) ∧ (¬ τ.1 o 4 < 0 → (24 ≤ τ.1 o 4 → K τ) ∧ (¬ 24 ≤ τ.1 o 4 → vp_in (τ.1 o 4) 24 ∧ (∀ t1, t1 = x_w1 τ (o + 1) ((τ.1 o 4).toNatClampNeg) v1 → (vp_in (t1.1 o 4) 24 ∧ (∀ t2, t2 = x_w1 t1 (o + 2) ((t1.1 o 4).toNatClampNeg) v2 → (vp_in (t2.1 o 4) 24 ∧ (∀ t3, t3 = x_w1 t2 (o + 3) ((t2.1 o 4).toNatClampNeg) v3 → (vp_in (t3.1 o 4) 24 ∧ (∀ t4, t4 = x_w1 t3 (o + 4) ((t3.1 o 4).toNatClampNeg) v4 → (∀ t5, t5 = x_w1 t4 o 4 ((t4.1 o 4) + 1) → (K t5)))))))))))) : x_CV d mX9_addClause [.ref o, .int v1, .int v2, .int v3, .int v4] τ K := by
  refine x_CV_of (by decide) (Nat.le_of_ble_eq_true rfl) ?_
  show x_WV d mX9_addClause K 0 [(0, .ref o), (1, .int v1), (2, .int v2), (3, .int v3), (4, .int v4)] [] τ
  refine o_aload_n (k := 0) 0 (by decide +kernel) rfl ?_
  refine f_getI (t := 9) (k := 4) (i := 36) (by decide +kernel) ho rfl (by decide) lk_315 rfl ?_
  refine o_if_lt (off := 63) 67 (by decide +kernel) (by decide) (fun q => ?_) (fun q => ?_)
  · replace h := h.1 q
    exact f_vret rfl (by decide +kernel) rfl h
  · replace h := h.2 q
    refine o_aload_n (k := 0) 0 (by decide +kernel) rfl ?_
    refine f_getI (t := 9) (k := 4) (i := 36) (by decide +kernel) ho rfl (by decide) lk_315 rfl ?_
    refine o_bipush (n := 24) (v := 24) (by decide +kernel) (by decide) ?_
    refine o_icmp_ge (off := 54) 67 (by decide +kernel) (by decide) (fun q => ?_) (fun q => ?_)
    · replace h := h.1 q
      exact f_vret rfl (by decide +kernel) rfl h
    · replace h := h.2 q
      refine o_aload_n (k := 0) 0 (by decide +kernel) rfl ?_
      refine f_getR (r := (o + 1)) (t := 9) (k := 0) (i := 9) (by decide +kernel) ho rfl (by decide) lk_307 (by simp [x_ty, tyX9]) (gr_9_0 ho) ?_
      refine o_aload_n (k := 0) 0 (by decide +kernel) rfl ?_
      refine f_getI (t := 9) (k := 4) (i := 36) (by decide +kernel) ho rfl (by decide) lk_315 rfl ?_
      refine o_iload_n (k := 1) 1 (by decide +kernel) rfl ?_
      obtain ⟨hi, h⟩ := h
      refine f_iast (by decide +kernel) (shd_9_1 ho) hi rfl ?_
      refine f_name (fun t1 et1 => ?_)
      replace h := h t1 et1
      refine o_aload_n (k := 0) 0 (by decide +kernel) rfl ?_
      refine f_getR (r := (o + 2)) (t := 9) (k := 1) (i := 15) (by decide +kernel) ho rfl (by decide) lk_309 (by simp [x_ty, tyX9]) (gr_9_1 ho) ?_
      refine o_aload_n (k := 0) 0 (by decide +kernel) rfl ?_
      refine f_getI (t := 9) (k := 4) (i := 36) (by decide +kernel) ho rfl (by decide) lk_315 rfl ?_
      refine o_iload_n (k := 2) 2 (by decide +kernel) rfl ?_
      obtain ⟨hi, h⟩ := h
      refine f_iast (by decide +kernel) (shd_9_2 ho) hi rfl ?_
      refine f_name (fun t2 et2 => ?_)
      replace h := h t2 et2
      refine o_aload_n (k := 0) 0 (by decide +kernel) rfl ?_
      refine f_getR (r := (o + 3)) (t := 9) (k := 2) (i := 18) (by decide +kernel) ho rfl (by decide) lk_311 (by simp [x_ty, tyX9]) (gr_9_2 ho) ?_
      refine o_aload_n (k := 0) 0 (by decide +kernel) rfl ?_
      refine f_getI (t := 9) (k := 4) (i := 36) (by decide +kernel) ho rfl (by decide) lk_315 rfl ?_
      refine o_iload_n (k := 3) 3 (by decide +kernel) rfl ?_
      obtain ⟨hi, h⟩ := h
      refine f_iast (by decide +kernel) (shd_9_3 ho) hi rfl ?_
      refine f_name (fun t3 et3 => ?_)
      replace h := h t3 et3
      refine o_aload_n (k := 0) 0 (by decide +kernel) rfl ?_
      refine f_getR (r := (o + 4)) (t := 9) (k := 3) (i := 21) (by decide +kernel) ho rfl (by decide) lk_313 (by simp [x_ty, tyX9]) (gr_9_3 ho) ?_
      refine o_aload_n (k := 0) 0 (by decide +kernel) rfl ?_
      refine f_getI (t := 9) (k := 4) (i := 36) (by decide +kernel) ho rfl (by decide) lk_315 rfl ?_
      refine o_iload (k := 4) 4 (by decide +kernel) rfl ?_
      obtain ⟨hi, h⟩ := h
      refine f_iast (by decide +kernel) (shd_9_4 ho) hi rfl ?_
      refine f_name (fun t4 et4 => ?_)
      replace h := h t4 et4
      refine o_aload_n (k := 0) 0 (by decide +kernel) rfl ?_
      refine o_dup (by decide +kernel) rfl ?_
      refine f_getI (t := 9) (k := 4) (i := 36) (by decide +kernel) ho rfl (by decide) lk_315 rfl ?_
      refine o_iconst (n := 1) (v := 1) (by decide +kernel) (by decide) ?_
      refine o_iadd (by decide +kernel) ?_
      refine f_putI (t := 9) (k := 4) (i := 36) (by decide +kernel) ho rfl (by decide) lk_315 rfl rfl ?_
      refine f_name (fun t5 et5 => ?_)
      replace h := h t5 et5
      exact f_vret rfl (by decide +kernel) rfl h
set_option maxRecDepth 20000 in
theorem e_X9_setLaw {d : Nat} {K : x_T → Prop} {o : Nat} (ho : x_sh o = (9, 10)) {v1 : Int32} {v2 : Int32} {τ : x_T} (h : (v1 < 0 → K τ) ∧ (¬ v1 < 0 → (4 ≤ v1 → K τ) ∧ (¬ 4 ≤ v1 → vp_in v1 4 ∧ (∀ t1, t1 = x_w1 τ (o + 5) v1.toNatClampNeg v2 → (vp_in v1 4 ∧ (∀ t2, t2 = x_w1 t1 (o + 6) v1.toNatClampNeg (t1.1 o 9) → (K t2))))))) : x_CV d mX9_setLaw [.ref o, .int v1, .int v2] τ K := by
  refine x_CV_of (by decide) (Nat.le_of_ble_eq_true rfl) ?_
  show x_WV d mX9_setLaw K 0 [(0, .ref o), (1, .int v1), (2, .int v2)] [] τ
  refine o_iload_n (k := 1) 1 (by decide +kernel) rfl ?_
  refine o_if_lt (off := 25) 26 (by decide +kernel) (by decide) (fun q => ?_) (fun q => ?_)
  · replace h := h.1 q
    exact f_vret rfl (by decide +kernel) rfl h
  · replace h := h.2 q
    refine o_iload_n (k := 1) 1 (by decide +kernel) rfl ?_
    refine o_iconst (n := 4) (v := 4) (by decide +kernel) (by decide) ?_
    refine o_icmp_ge (off := 20) 26 (by decide +kernel) (by decide) (fun q => ?_) (fun q => ?_)
    · replace h := h.1 q
      exact f_vret rfl (by decide +kernel) rfl h
    · replace h := h.2 q
      refine o_aload_n (k := 0) 0 (by decide +kernel) rfl ?_
      refine f_getR (r := (o + 5)) (t := 9) (k := 5) (i := 24) (by decide +kernel) ho rfl (by decide) lk_318 (by simp [x_ty, tyX9]) (gr_9_5 ho) ?_
      refine o_iload_n (k := 1) 1 (by decide +kernel) rfl ?_
      refine o_iload_n (k := 2) 2 (by decide +kernel) rfl ?_
      obtain ⟨hi, h⟩ := h
      refine f_iast (by decide +kernel) (shd_9_5 ho) hi rfl ?_
      refine f_name (fun t1 et1 => ?_)
      replace h := h t1 et1
      refine o_aload_n (k := 0) 0 (by decide +kernel) rfl ?_
      refine f_getR (r := (o + 6)) (t := 9) (k := 6) (i := 27) (by decide +kernel) ho rfl (by decide) lk_319 (by simp [x_ty, tyX9]) (gr_9_6 ho) ?_
      refine o_iload_n (k := 1) 1 (by decide +kernel) rfl ?_
      refine o_aload_n (k := 0) 0 (by decide +kernel) rfl ?_
      refine f_getI (t := 9) (k := 9) (i := 40) (by decide +kernel) ho rfl (by decide) lk_322 rfl ?_
      obtain ⟨hi, h⟩ := h
      refine f_iast (by decide +kernel) (shd_9_6 ho) hi rfl ?_
      refine f_name (fun t2 et2 => ?_)
      replace h := h t2 et2
      exact f_vret rfl (by decide +kernel) rfl h
set_option maxRecDepth 20000 in
theorem e_X9_ask {d : Nat} {K : x_T → Int32 → Prop} {o : Nat} (ho : x_sh o = (9, 10)) {v1 : Int32} {v2 : Int32} {τ : x_T} (h : (τ.1 o 9 < 0 → K τ ((τ.1 o 9) - 1)) ∧ (¬ τ.1 o 9 < 0 → (300 ≤ τ.1 o 9 → K τ ((τ.1 o 9) - 1)) ∧ (¬ 300 ≤ τ.1 o 9 → vp_in (τ.1 o 9) 300 ∧ (∀ t1, t1 = x_w1 τ (o + 7) ((τ.1 o 9).toNatClampNeg) v1 → (vp_in (t1.1 o 9) 300 ∧ (∀ t2, t2 = x_w1 t1 (o + 8) ((t1.1 o 9).toNatClampNeg) v2 → (∀ t3, t3 = x_w1 t2 o 9 ((t2.1 o 9) + 1) → (K t3 ((t3.1 o 9) - 1))))))))) : x_CI d mX9_ask [.ref o, .int v1, .int v2] τ K := by
  refine x_CI_of (by decide) (Nat.le_of_ble_eq_true rfl) ?_
  show x_WI d mX9_ask K 0 [(0, .ref o), (1, .int v1), (2, .int v2)] [] τ
  refine o_aload_n (k := 0) 0 (by decide +kernel) rfl ?_
  refine f_getI (t := 9) (k := 9) (i := 40) (by decide +kernel) ho rfl (by decide) lk_322 rfl ?_
  refine o_if_lt (off := 43) 47 (by decide +kernel) (by decide) (fun q => ?_) (fun q => ?_)
  · replace h := h.1 q
    refine o_aload_n (k := 0) 0 (by decide +kernel) rfl ?_
    refine f_getI (t := 9) (k := 9) (i := 40) (by decide +kernel) ho rfl (by decide) lk_322 rfl ?_
    refine o_iconst (n := 1) (v := 1) (by decide +kernel) (by decide) ?_
    refine o_isub (by decide +kernel) ?_
    exact f_iret (ty := .int) rfl rfl (by decide +kernel) rfl h
  · replace h := h.2 q
    refine o_aload_n (k := 0) 0 (by decide +kernel) rfl ?_
    refine f_getI (t := 9) (k := 9) (i := 40) (by decide +kernel) ho rfl (by decide) lk_322 rfl ?_
    refine o_sipush (n := 300) (v := 300) (by decide +kernel) (by decide) ?_
    refine o_icmp_ge (off := 33) 47 (by decide +kernel) (by decide) (fun q => ?_) (fun q => ?_)
    · replace h := h.1 q
      refine o_aload_n (k := 0) 0 (by decide +kernel) rfl ?_
      refine f_getI (t := 9) (k := 9) (i := 40) (by decide +kernel) ho rfl (by decide) lk_322 rfl ?_
      refine o_iconst (n := 1) (v := 1) (by decide +kernel) (by decide) ?_
      refine o_isub (by decide +kernel) ?_
      exact f_iret (ty := .int) rfl rfl (by decide +kernel) rfl h
    · replace h := h.2 q
      refine o_aload_n (k := 0) 0 (by decide +kernel) rfl ?_
      refine f_getR (r := (o + 7)) (t := 9) (k := 7) (i := 30) (by decide +kernel) ho rfl (by decide) lk_320 (by simp [x_ty, tyX9]) (gr_9_7 ho) ?_
      refine o_aload_n (k := 0) 0 (by decide +kernel) rfl ?_
      refine f_getI (t := 9) (k := 9) (i := 40) (by decide +kernel) ho rfl (by decide) lk_322 rfl ?_
      refine o_iload_n (k := 1) 1 (by decide +kernel) rfl ?_
      obtain ⟨hi, h⟩ := h
      refine f_iast (by decide +kernel) (shd_9_7 ho) hi rfl ?_
      refine f_name (fun t1 et1 => ?_)
      replace h := h t1 et1
      refine o_aload_n (k := 0) 0 (by decide +kernel) rfl ?_
      refine f_getR (r := (o + 8)) (t := 9) (k := 8) (i := 33) (by decide +kernel) ho rfl (by decide) lk_321 (by simp [x_ty, tyX9]) (gr_9_8 ho) ?_
      refine o_aload_n (k := 0) 0 (by decide +kernel) rfl ?_
      refine f_getI (t := 9) (k := 9) (i := 40) (by decide +kernel) ho rfl (by decide) lk_322 rfl ?_
      refine o_iload_n (k := 2) 2 (by decide +kernel) rfl ?_
      obtain ⟨hi, h⟩ := h
      refine f_iast (by decide +kernel) (shd_9_8 ho) hi rfl ?_
      refine f_name (fun t2 et2 => ?_)
      replace h := h t2 et2
      refine o_aload_n (k := 0) 0 (by decide +kernel) rfl ?_
      refine o_dup (by decide +kernel) rfl ?_
      refine f_getI (t := 9) (k := 9) (i := 40) (by decide +kernel) ho rfl (by decide) lk_322 rfl ?_
      refine o_iconst (n := 1) (v := 1) (by decide +kernel) (by decide) ?_
      refine o_iadd (by decide +kernel) ?_
      refine f_putI (t := 9) (k := 9) (i := 40) (by decide +kernel) ho rfl (by decide) lk_322 rfl rfl ?_
      refine f_name (fun t3 et3 => ?_)
      replace h := h t3 et3
      refine o_aload_n (k := 0) 0 (by decide +kernel) rfl ?_
      refine f_getI (t := 9) (k := 9) (i := 40) (by decide +kernel) ho rfl (by decide) lk_322 rfl ?_
      refine o_iconst (n := 1) (v := 1) (by decide +kernel) (by decide) ?_
      refine o_isub (by decide +kernel) ?_
      exact f_iret (ty := .int) rfl rfl (by decide +kernel) rfl h
set_option maxRecDepth 20000 in
theorem e_X9_goOnHere {d : Nat} {K : x_T → Prop} {o : Nat} (ho : x_sh o = (9, 10)) {v1 : Int32} {τ : x_T} (h : (v1 < 0 → K τ) ∧ (¬ v1 < 0 → (300 ≤ v1 → K τ) ∧ (¬ 300 ≤ v1 → vp_in v1 300 ∧ (∀ t1, t1 = x_w1 τ (o + 8) v1.toNatClampNeg (τ.1 o 9) → (K t1))))) : x_CV d mX9_goOnHere [.ref o, .int v1] τ K := by
  refine x_CV_of (by decide) (Nat.le_of_ble_eq_true rfl) ?_
  show x_WV d mX9_goOnHere K 0 [(0, .ref o), (1, .int v1)] [] τ
  refine o_iload_n (k := 1) 1 (by decide +kernel) rfl ?_
  refine o_if_lt (off := 20) 21 (by decide +kernel) (by decide) (fun q => ?_) (fun q => ?_)
  · replace h := h.1 q
    exact f_vret rfl (by decide +kernel) rfl h
  · replace h := h.2 q
    refine o_iload_n (k := 1) 1 (by decide +kernel) rfl ?_
    refine o_sipush (n := 300) (v := 300) (by decide +kernel) (by decide) ?_
    refine o_icmp_ge (off := 13) 21 (by decide +kernel) (by decide) (fun q => ?_) (fun q => ?_)
    · replace h := h.1 q
      exact f_vret rfl (by decide +kernel) rfl h
    · replace h := h.2 q
      refine o_aload_n (k := 0) 0 (by decide +kernel) rfl ?_
      refine f_getR (r := (o + 8)) (t := 9) (k := 8) (i := 33) (by decide +kernel) ho rfl (by decide) lk_321 (by simp [x_ty, tyX9]) (gr_9_8 ho) ?_
      refine o_iload_n (k := 1) 1 (by decide +kernel) rfl ?_
      refine o_aload_n (k := 0) 0 (by decide +kernel) rfl ?_
      refine f_getI (t := 9) (k := 9) (i := 40) (by decide +kernel) ho rfl (by decide) lk_322 rfl ?_
      obtain ⟨hi, h⟩ := h
      refine f_iast (by decide +kernel) (shd_9_8 ho) hi rfl ?_
      refine f_name (fun t1 et1 => ?_)
      replace h := h t1 et1
      exact f_vret rfl (by decide +kernel) rfl h
