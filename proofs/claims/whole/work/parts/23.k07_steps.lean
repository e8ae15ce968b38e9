set_option maxRecDepth 20000 in
theorem e_X7_dayAt {d : Nat} {K : x_T → Option Nat → Prop} {o : Nat} (ho : x_sh o = (7, 3)) {v1 : Int32} {τ : x_T} (h : ∀ y1, y1 = ((τ.1 o 1) + v1) - ((τ.1 o 1) + v1) / 30 * 30 → ((y1 < 0 → K τ none) ∧ (¬ y1 < 0 → (30 ≤ y1 → K τ none) ∧ (¬ 30 ≤ y1 → vp_in y1 30 ∧ (∀ c2, c2 = (o + 1) + 1 + 4 * y1.toNatClampNeg → x_sh c2 = (1, 11) ∧ (K τ (some c2))))))) : x_CR d mX7_dayAt [.ref o, .int v1] τ K := by
  refine x_CR_of (by decide) (Nat.le_of_ble_eq_true rfl) ?_
  show x_WR d mX7_dayAt K 0 [(0, .ref o), (1, .int v1)] [] τ
  refine o_aload_n (k := 0) 0 (by decide +kernel) rfl ?_
  refine f_getI (t := 7) (k := 1) (i := 18) (by decide +kernel) ho rfl (by decide) lk_290 rfl ?_
  refine o_iload_n (k := 1) 1 (by decide +kernel) rfl ?_
  refine o_iadd (by decide +kernel) ?_
  refine o_bipush (n := 30) (v := 30) (by decide +kernel) (by decide) ?_
  refine o_irem (by decide +kernel) (by decide) ?_
  refine o_name (fun y1 ey1 => ?_)
  replace h := h y1 ey1
  refine o_istore_n (k := 2) (L' := [(2, .int y1), (0, .ref o), (1, .int v1)]) (by decide +kernel) (by decide) rfl ?_
  refine o_iload_n (k := 2) 0 (by decide +kernel) rfl ?_
  refine o_if_lt (off := 18) 29 (by decide +kernel) (by decide) (fun q => ?_) (fun q => ?_)
  · replace h := h.1 q
    refine o_null (by decide +kernel) ?_
    exact f_aret (r := none) rfl (by decide +kernel) rfl h
  · replace h := h.2 q
    refine o_iload_n (k := 2) 0 (by decide +kernel) rfl ?_
    refine o_bipush (n := 30) (v := 30) (by decide +kernel) (by decide) ?_
    refine o_icmp_ge (off := 12) 29 (by decide +kernel) (by decide) (fun q => ?_) (fun q => ?_)
    · replace h := h.1 q
      refine o_null (by decide +kernel) ?_
      exact f_aret (r := none) rfl (by decide +kernel) rfl h
    · replace h := h.2 q
      refine o_aload_n (k := 0) 1 (by decide +kernel) rfl ?_
      refine f_getR (r := (o + 1)) (t := 7) (k := 0) (i := 11) (by decide +kernel) ho rfl (by decide) lk_289 (by simp [x_ty, tyX7]) (gr_7_0 ho) ?_
      refine o_iload_n (k := 2) 0 (by decide +kernel) rfl ?_
      obtain ⟨hi, h⟩ := h
      obtain ⟨c2, ec2⟩ : ∃ y : Nat, y = (o + 1) + 1 + 4 * y1.toNatClampNeg := ⟨_, rfl⟩
      replace h := h c2 ec2
      obtain ⟨hsc2, h⟩ := h
      refine f_aaldD (r := c2) (by decide +kernel) (shd_7_1 ho) hi (by rw [ec2]; exact gr_24 (shd_7_1 ho)) ?_
      refine o_goto (off := 4) 30 (by decide +kernel) (by decide) ?_
      exact f_aret (r := (some c2)) rfl (by decide +kernel) rfl h
set_option maxRecDepth 20000 in
theorem e_X7_keep {d : Nat} {K : x_T → Prop} {o : Nat} (ho : x_sh o = (7, 3)) {r1 : Nat} (h1 : x_sh r1 = (1, 11)) {τ : x_T} (h : (30 ≤ τ.1 o 2 → ∀ t1, t1 = x_w1 τ o 1 (((τ.1 o 1) + 1) - ((τ.1 o 1) + 1) / 30 * 30) → (x_WV (d + 1) mX7_keep K 35 [(0, .ref o), (1, .ref r1)] [] t1)) ∧ (¬ 30 ≤ τ.1 o 2 → ∀ t2, t2 = x_w1 τ o 2 ((τ.1 o 2) + 1) → (x_WV (d + 1) mX7_keep K 35 [(0, .ref o), (1, .ref r1)] [] t2))) : x_CV (d + 1) mX7_keep [.ref o, .ref r1] τ K := by
  refine x_CV_of (by decide) (Nat.le_of_ble_eq_true rfl) ?_
  show x_WV (d + 1) mX7_keep K 0 [(0, .ref o), (1, .ref r1)] [] τ
  refine o_aload_n (k := 0) 0 (by decide +kernel) rfl ?_
  refine f_getI (t := 7) (k := 2) (i := 22) (by decide +kernel) ho rfl (by decide) lk_291 rfl ?_
  refine o_bipush (n := 30) (v := 30) (by decide +kernel) (by decide) ?_
  refine o_icmp_ge (off := 16) 22 (by decide +kernel) (by decide) (fun q => ?_) (fun q => ?_)
  · replace h := h.1 q
    refine o_aload_n (k := 0) 0 (by decide +kernel) rfl ?_
    refine o_aload_n (k := 0) 0 (by decide +kernel) rfl ?_
    refine f_getI (t := 7) (k := 1) (i := 18) (by decide +kernel) ho rfl (by decide) lk_290 rfl ?_
    refine o_iconst (n := 1) (v := 1) (by decide +kernel) (by decide) ?_
    refine o_iadd (by decide +kernel) ?_
    refine o_bipush (n := 30) (v := 30) (by decide +kernel) (by decide) ?_
    refine o_irem (by decide +kernel) (by decide) ?_
    refine f_putI (t := 7) (k := 1) (i := 18) (by decide +kernel) ho rfl (by decide) lk_290 rfl rfl ?_
    refine f_name (fun t1 et1 => ?_)
    replace h := h t1 et1
    exact h
  · replace h := h.2 q
    refine o_aload_n (k := 0) 0 (by decide +kernel) rfl ?_
    refine o_dup (by decide +kernel) rfl ?_
    refine f_getI (t := 7) (k := 2) (i := 22) (by decide +kernel) ho rfl (by decide) lk_291 rfl ?_
    refine o_iconst (n := 1) (v := 1) (by decide +kernel) (by decide) ?_
    refine o_iadd (by decide +kernel) ?_
    refine f_putI (t := 7) (k := 2) (i := 22) (by decide +kernel) ho rfl (by decide) lk_291 rfl rfl ?_
    refine f_name (fun t2 et2 => ?_)
    replace h := h t2 et2
    refine o_goto (off := 16) 35 (by decide +kernel) (by decide) ?_
    exact h
set_option maxRecDepth 20000 in
theorem k_X7_keep_35 {d : Nat} {K : x_T → Prop} {o : Nat} (ho : x_sh o = (7, 3)) {r1 : Nat} (h1 : x_sh r1 = (1, 11)) {τ : x_T} (h : x_CR d mX7_dayAt [.ref o, .int ((τ.1 o 2) - 1)] τ (fun t1 a2 => (a2 = none → K t1) ∧ (∀ c3, a2 = some c3 → x_sh c3 = (1, 11) ∧ (x_CV d mX1_copyFrom [.ref c3, .ref r1] t1 (fun t4 => K t4))))) : x_WV (d + 1) mX7_keep K 35 [(0, .ref o), (1, .ref r1)] [] τ := by
  refine o_aload_n (k := 0) 0 (by decide +kernel) rfl ?_
  refine o_aload_n (k := 0) 0 (by decide +kernel) rfl ?_
  refine f_getI (t := 7) (k := 2) (i := 22) (by decide +kernel) ho rfl (by decide) lk_291 rfl ?_
  refine o_iconst (n := 1) (v := 1) (by decide +kernel) (by decide) ?_
  refine o_isub (by decide +kernel) ?_
  refine f_callVR (μ' := mX7_dayAt) (i := 25) (vs := [.int ((τ.1 o 2) - 1)]) (by decide +kernel) lk_605 (vok_mX7_dayAt) ho rfl rfl rfl rfl (Nat.le_of_ble_eq_true rfl) ?_
  refine x_CR.mono h (fun t1 a2 h => ?_)
  refine o_astore_nR (k := 2) (L' := [(2, x_rf a2), (0, .ref o), (1, .ref r1)]) (by decide +kernel) (by decide) rfl ?_
  refine o_aload_nR (k := 2) 0 (by decide +kernel) rfl ?_
  refine o_ifnull (r := a2) (off := 8) 55 (by decide +kernel) (by decide) (fun e => ?_) (fun c3 e => ?_)
  · replace h := h.1 e
    subst e
    exact f_vret rfl (by decide +kernel) rfl h
  · replace h := h.2 c3 e
    obtain ⟨hsc3, h⟩ := h
    subst e
    refine o_aload_n (k := 2) 0 (by decide +kernel) rfl ?_
    refine o_aload_n (k := 1) 2 (by decide +kernel) rfl ?_
    refine f_callVV (μ' := mX1_copyFrom) (i := 29) (vs := [.ref r1]) (by decide +kernel) lk_609 (vok_mX1_copyFrom) hsc3 rfl rfl rfl rfl (Nat.le_of_ble_eq_true rfl) ?_
    refine x_CV.mono h (fun t4 h => ?_)
    exact f_vret rfl (by decide +kernel) rfl h
set_option maxRecDepth 20000 in
theorem e_X7_takeBack {d : Nat} {K : x_T → Int32 → Prop} {o : Nat} (ho : x_sh o = (7, 3)) {r1 : Nat} (h1 : x_sh r1 = (1, 11)) {τ : x_T} (h : (0 < τ.1 o 2 → ∀ t1, t1 = x_w1 τ o 2 ((τ.1 o 2) - 1) → (x_CR d mX7_dayAt [.ref o, .int (t1.1 o 2)] t1 (fun t2 a3 => (a3 = none → K t2 (t2.1 o 2)) ∧ (∀ c4, a3 = some c4 → x_sh c4 = (1, 11) ∧ (x_CV d mX1_copyFrom [.ref r1, .ref c4] t2 (fun t5 => K t5 (t5.1 o 2))))))) ∧ (¬ 0 < τ.1 o 2 → K τ (-1))) : x_CI (d + 1) mX7_takeBack [.ref o, .ref r1] τ K := by
  refine x_CI_of (by decide) (Nat.le_of_ble_eq_true rfl) ?_
  show x_WI (d + 1) mX7_takeBack K 0 [(0, .ref o), (1, .ref r1)] [] τ
  refine o_aload_n (k := 0) 0 (by decide +kernel) rfl ?_
  refine f_getI (t := 7) (k := 2) (i := 22) (by decide +kernel) ho rfl (by decide) lk_291 rfl ?_
  refine o_if_gt (off := 5) 9 (by decide +kernel) (by decide) (fun q => ?_) (fun q => ?_)
  · replace h := h.1 q
    refine o_aload_n (k := 0) 0 (by decide +kernel) rfl ?_
    refine o_dup (by decide +kernel) rfl ?_
    refine f_getI (t := 7) (k := 2) (i := 22) (by decide +kernel) ho rfl (by decide) lk_291 rfl ?_
    refine o_iconst (n := 1) (v := 1) (by decide +kernel) (by decide) ?_
    refine o_isub (by decide +kernel) ?_
    refine f_putI (t := 7) (k := 2) (i := 22) (by decide +kernel) ho rfl (by decide) lk_291 rfl rfl ?_
    refine f_name (fun t1 et1 => ?_)
    replace h := h t1 et1
    refine o_aload_n (k := 0) 0 (by decide +kernel) rfl ?_
    refine o_aload_n (k := 0) 0 (by decide +kernel) rfl ?_
    refine f_getI (t := 7) (k := 2) (i := 22) (by decide +kernel) ho rfl (by decide) lk_291 rfl ?_
    refine f_callVR (μ' := mX7_dayAt) (i := 25) (vs := [.int (t1.1 o 2)]) (by decide +kernel) lk_605 (vok_mX7_dayAt) ho rfl rfl rfl rfl (Nat.le_of_ble_eq_true rfl) ?_
    refine x_CR.mono h (fun t2 a3 h => ?_)
    refine o_astore_nR (k := 2) (L' := [(2, x_rf a3), (0, .ref o), (1, .ref r1)]) (by decide +kernel) (by decide) rfl ?_
    refine o_aload_nR (k := 2) 0 (by decide +kernel) rfl ?_
    refine o_ifnull (r := a3) (off := 8) 37 (by decide +kernel) (by decide) (fun e => ?_) (fun c4 e => ?_)
    · replace h := h.1 e
      subst e
      refine o_aload_n (k := 0) 1 (by decide +kernel) rfl ?_
      refine f_getI (t := 7) (k := 2) (i := 22) (by decide +kernel) ho rfl (by decide) lk_291 rfl ?_
      exact f_iret (ty := .int) rfl rfl (by decide +kernel) rfl h
    · replace h := h.2 c4 e
      obtain ⟨hsc4, h⟩ := h
      subst e
      refine o_aload_n (k := 1) 2 (by decide +kernel) rfl ?_
      refine o_aload_n (k := 2) 0 (by decide +kernel) rfl ?_
      refine f_callVV (μ' := mX1_copyFrom) (i := 29) (vs := [.ref c4]) (by decide +kernel) lk_609 (vok_mX1_copyFrom) h1 rfl rfl rfl rfl (Nat.le_of_ble_eq_true rfl) ?_
      refine x_CV.mono h (fun t5 h => ?_)
      refine o_aload_n (k := 0) 1 (by decide +kernel) rfl ?_
      refine f_getI (t := 7) (k := 2) (i := 22) (by decide +kernel) ho rfl (by decide) lk_291 rfl ?_
      exact f_iret (ty := .int) rfl rfl (by decide +kernel) rfl h
  · replace h := h.2 q
    refine o_iconst (n := -1) (v := (-1)) (by decide +kernel) (by decide) ?_
    exact f_iret (ty := .int) rfl rfl (by decide +kernel) rfl h
set_option maxRecDepth 20000 in
theorem e_X7_copyFrom {d : Nat} {K : x_T → Prop} {o : Nat} (ho : x_sh o = (7, 3)) {r1 : Nat} (h1 : x_sh r1 = (7, 3)) {τ : x_T} (h : ∀ t1, t1 = x_w1 τ o 1 0 → (∀ t2, t2 = x_w1 t1 o 2 (t1.1 r1 2) → (x_WV (d + 1) mX7_copyFrom K 15 [(0, .ref o), (1, .ref r1), (2, .int 0)] [] t2))) : x_CV (d + 1) mX7_copyFrom [.ref o, .ref r1] τ K := by
  refine x_CV_of (by decide) (Nat.le_of_ble_eq_true rfl) ?_
  show x_WV (d + 1) mX7_copyFrom K 0 [(0, .ref o), (1, .ref r1)] [] τ
  refine o_aload_n (k := 0) 0 (by decide +kernel) rfl ?_
  refine o_iconst (n := 0) (v := 0) (by decide +kernel) (by decide) ?_
  refine f_putI (t := 7) (k := 1) (i := 18) (by decide +kernel) ho rfl (by decide) lk_290 rfl rfl ?_
  refine f_name (fun t1 et1 => ?_)
  replace h := h t1 et1
  refine o_aload_n (k := 0) 0 (by decide +kernel) rfl ?_
  refine o_aload_n (k := 1) 1 (by decide +kernel) rfl ?_
  refine f_getI (t := 7) (k := 2) (i := 22) (by decide +kernel) h1 rfl (by decide) lk_291 rfl ?_
  refine f_putI (t := 7) (k := 2) (i := 22) (by decide +kernel) ho rfl (by decide) lk_291 rfl rfl ?_
  refine f_name (fun t2 et2 => ?_)
  replace h := h t2 et2
  refine o_iconst (n := 0) (v := 0) (by decide +kernel) (by decide) ?_
  refine o_istore_n (k := 2) (L' := [(2, .int 0), (0, .ref o), (1, .ref r1)]) (by decide +kernel) (by decide) rfl ?_
  refine o_sub [1, 2, 0] rfl ?_
  exact h
set_option maxRecDepth 20000 in
theorem k_X7_copyFrom_15 {d : Nat} {K : x_T → Prop} {o : Nat} (ho : x_sh o = (7, 3)) {r1 : Nat} (h1 : x_sh r1 = (7, 3)) {v2 : Int32} {τ : x_T} (h : (τ.1 o 2 ≤ v2 → K τ) ∧ (¬ τ.1 o 2 ≤ v2 → (30 ≤ v2 → K τ) ∧ (¬ 30 ≤ v2 → vp_in v2 30 ∧ (∀ c1, c1 = (o + 1) + 1 + 4 * v2.toNatClampNeg → x_sh c1 = (1, 11) ∧ (x_CR d mX7_dayAt [.ref r1, .int v2] τ (fun t2 a3 => (a3 = none → x_WV (d + 1) mX7_copyFrom K 58 [(0, .ref o), (1, .ref r1), (2, .int v2)] [] t2) ∧ (∀ c4, a3 = some c4 → x_sh c4 = (1, 11) ∧ (x_CV d mX1_copyFrom [.ref c1, .ref c4] t2 (fun t5 => x_WV (d + 1) mX7_copyFrom K 58 [(0, .ref o), (1, .ref r1), (2, .int v2)] [] t5))))))))) : x_WV (d + 1) mX7_copyFrom K 15 [(0, .ref o), (1, .ref r1), (2, .int v2)] [] τ := by
  refine o_iload_n (k := 2) 2 (by decide +kernel) rfl ?_
  refine o_aload_n (k := 0) 0 (by decide +kernel) rfl ?_
  refine f_getI (t := 7) (k := 2) (i := 22) (by decide +kernel) ho rfl (by decide) lk_291 rfl ?_
  refine o_icmp_ge (off := 44) 64 (by decide +kernel) (by decide) (fun q => ?_) (fun q => ?_)
  · replace h := h.1 q
    exact f_vret rfl (by decide +kernel) rfl h
  · replace h := h.2 q
    refine o_iload_n (k := 2) 2 (by decide +kernel) rfl ?_
    refine o_bipush (n := 30) (v := 30) (by decide +kernel) (by decide) ?_
    refine o_icmp_ge (off := 38) 64 (by decide +kernel) (by decide) (fun q => ?_) (fun q => ?_)
    · replace h := h.1 q
      exact f_vret rfl (by decide +kernel) rfl h
    · replace h := h.2 q
      refine o_aload_n (k := 0) 0 (by decide +kernel) rfl ?_
      refine f_getR (r := (o + 1)) (t := 7) (k := 0) (i := 11) (by decide +kernel) ho rfl (by decide) lk_289 (by simp [x_ty, tyX7]) (gr_7_0 ho) ?_
      refine o_iload_n (k := 2) 2 (by decide +kernel) rfl ?_
      obtain ⟨hi, h⟩ := h
      obtain ⟨c1, ec1⟩ : ∃ y : Nat, y = (o + 1) + 1 + 4 * v2.toNatClampNeg := ⟨_, rfl⟩
      replace h := h c1 ec1
      obtain ⟨hsc1, h⟩ := h
      refine f_aaldD (r := c1) (by decide +kernel) (shd_7_1 ho) hi (by rw [ec1]; exact gr_24 (shd_7_1 ho)) ?_
      refine o_astore_n (k := 3) (L' := [(3, .ref c1), (0, .ref o), (1, .ref r1), (2, .int v2)]) (by decide +kernel) (by decide) rfl ?_
      refine o_aload_n (k := 1) 2 (by decide +kernel) rfl ?_
      refine o_iload_n (k := 2) 3 (by decide +kernel) rfl ?_
      refine f_callVR (μ' := mX7_dayAt) (i := 25) (vs := [.int v2]) (by decide +kernel) lk_605 (vok_mX7_dayAt) h1 rfl rfl rfl rfl (Nat.le_of_ble_eq_true rfl) ?_
      refine x_CR.mono h (fun t2 a3 h => ?_)
      refine o_astoreR (k := 4) (L' := [(4, x_rf a3), (3, .ref c1), (0, .ref o), (1, .ref r1), (2, .int v2)]) (by decide +kernel) (by decide) rfl ?_
      refine o_aload_n (k := 3) 1 (by decide +kernel) rfl ?_
      refine o_ifnull (r := some c1) (off := 14) 58 (by decide +kernel) (by decide) (fun e => nomatch e) (fun q e => ?_)
      refine o_aloadR (k := 4) 0 (by decide +kernel) rfl ?_
      refine o_ifnull (r := a3) (off := 9) 58 (by decide +kernel) (by decide) (fun e => ?_) (fun c4 e => ?_)
      · replace h := h.1 e
        subst e
        refine o_sub [2, 3, 4] rfl ?_
        exact h
      · replace h := h.2 c4 e
        obtain ⟨hsc4, h⟩ := h
        subst e
        refine o_aload_n (k := 3) 1 (by decide +kernel) rfl ?_
        refine o_aload (k := 4) 0 (by decide +kernel) rfl ?_
        refine f_callVV (μ' := mX1_copyFrom) (i := 29) (vs := [.ref c4]) (by decide +kernel) lk_609 (vok_mX1_copyFrom) hsc1 rfl rfl rfl rfl (Nat.le_of_ble_eq_true rfl) ?_
        refine x_CV.mono h (fun t5 h => ?_)
        refine o_sub [2, 3, 4] rfl ?_
        exact h
set_option maxRecDepth 20000 in
theorem k_X7_copyFrom_58 {d : Nat} {K : x_T → Prop} {o : Nat} (ho : x_sh o = (7, 3)) {r1 : Nat} (h1 : x_sh r1 = (7, 3)) {v2 : Int32} {τ : x_T} (h : ∀ y1, y1 = v2 + 1 → (x_WV (d + 1) mX7_copyFrom K 15 [(0, .ref o), (1, .ref r1), (2, .int y1)] [] τ)) : x_WV (d + 1) mX7_copyFrom K 58 [(0, .ref o), (1, .ref r1), (2, .int v2)] [] τ := by
  obtain ⟨y1, ey1⟩ : ∃ y : Int32, y = v2 + 1 := ⟨_, rfl⟩
  replace h := h y1 ey1
  refine o_iinc (i := 2) (n := 1) (v := y1) (L' := [(2, .int y1), (0, .ref o), (1, .ref r1)]) 2 (by decide +kernel) rfl (by rw [ey1]; rfl) (by decide) rfl ?_
  refine o_goto (off := -46) 15 (by decide +kernel) (by decide) ?_
  refine o_sub [1, 2, 0] rfl ?_
  exact h
