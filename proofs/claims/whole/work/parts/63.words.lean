set_option maxRecDepth 20000 in
theorem e_X8_wordOf {d : Nat} {K : x_T → Int32 → Prop} {v1 : Int32} {v2 : Int32} {τ : x_T} (h : (v2 - v1 ≤ 8 → x_WI (d + 1 + 1 + 1 + 1) mX8_wordOf K 19 [(0, .ref 314), (1, .int v1), (2, .int v2), (3, .int 0), (4, .int 0), (5, .int 0)] [] τ) ∧ (¬ v2 - v1 ≤ 8 → K τ 47)) : x_CI (d + 1 + 1 + 1 + 1) mX8_wordOf [.ref 314, .int v1, .int v2] τ K := by
  refine x_CI_of (by decide) (Nat.le_of_ble_eq_true rfl) ?_
  show x_WI (d + 1 + 1 + 1 + 1) mX8_wordOf K 0 [(0, .ref 314), (1, .int v1), (2, .int v2)] [] τ
  refine o_iload_n (k := 2) 2 (by decide +kernel) rfl ?_
  refine o_iload_n (k := 1) 1 (by decide +kernel) rfl ?_
  refine o_isub (by decide +kernel) ?_
  refine o_bipush (n := 8) (v := 8) (by decide +kernel) (by decide) ?_
  refine o_icmp_le (off := 6) 11 (by decide +kernel) (by decide) (fun q => ?_) (fun q => ?_)
  · replace h := h.1 q
    refine o_iconst (n := 0) (v := 0) (by decide +kernel) (by decide) ?_
    refine o_istore_n (k := 3) (L' := [(3, .int 0), (0, .ref 314), (1, .int v1), (2, .int v2)]) (by decide +kernel) (by decide) rfl ?_
    refine o_iconst (n := 0) (v := 0) (by decide +kernel) (by decide) ?_
    refine o_istore (k := 4) (L' := [(4, .int 0), (3, .int 0), (0, .ref 314), (1, .int v1), (2, .int v2)]) (by decide +kernel) (by decide) rfl ?_
    refine o_iconst (n := 0) (v := 0) (by decide +kernel) (by decide) ?_
    refine o_istore (k := 5) (L' := [(5, .int 0), (4, .int 0), (3, .int 0), (0, .ref 314), (1, .int v1), (2, .int v2)]) (by decide +kernel) (by decide) rfl ?_
    refine o_sub [3, 4, 5, 2, 1, 0] rfl ?_
    exact h
  · replace h := h.2 q
    refine o_bipush (n := 47) (v := 47) (by decide +kernel) (by decide) ?_
    exact f_iret (ty := .int) rfl rfl (by decide +kernel) rfl h
set_option maxRecDepth 20000 in
theorem k_X8_wordOf_19 {d : Nat} {K : x_T → Int32 → Prop} {v1 : Int32} {v2 : Int32} {v3 : Int32} {v4 : Int32} {v5 : Int32} {τ : x_T} (h : (160 ≤ v5 → K τ 47) ∧ (¬ 160 ≤ v5 → ∃ c1, v5 = nI c1 ∧ c1 < 160 ∧ (∀ y2, y2 = x_ch 0 c1 → ((¬ y2 = 32 → (v4 < 0 → x_WI (d + 1 + 1 + 1 + 1) mX8_wordOf K 96 [(0, .ref 314), (1, .int v1), (2, .int v2), (3, .int v3), (5, .int (nI c1))] [] τ) ∧ (¬ v4 < 0 → (v2 ≤ v1 + v4 → x_WI (d + 1 + 1 + 1 + 1) mX8_wordOf K 96 [(0, .ref 314), (1, .int v1), (2, .int v2), (3, .int v3), (5, .int (nI c1))] [] τ) ∧ (¬ v2 ≤ v1 + v4 → x_CI (d + 1 + 1 + 1) mX8_byteAt [.ref 314, .int (v1 + v4)] τ (fun t3 a4 => (¬ a4 = y2 → x_WI (d + 1 + 1 + 1 + 1) mX8_wordOf K 96 [(0, .ref 314), (1, .int v1), (2, .int v2), (3, .int v3), (5, .int (nI c1))] [] t3) ∧ (a4 = y2 → ∀ y5, y5 = v4 + 1 → (x_WI (d + 1 + 1 + 1 + 1) mX8_wordOf K 99 [(0, .ref 314), (1, .int v1), (2, .int v2), (3, .int v3), (4, .int y5), (5, .int (nI c1))] [] t3)))))) ∧ (y2 = 32 → (¬ v4 = v2 - v1 → ∀ y6, y6 = v3 + 1 → (x_WI (d + 1 + 1 + 1 + 1) mX8_wordOf K 99 [(0, .ref 314), (1, .int v1), (2, .int v2), (3, .int y6), (4, .int 0), (5, .int (nI c1))] [] τ)) ∧ (v4 = v2 - v1 → K τ v3)))))) : x_WI (d + 1 + 1 + 1 + 1) mX8_wordOf K 19 [(0, .ref 314), (1, .int v1), (2, .int v2), (3, .int v3), (4, .int v4), (5, .int v5)] [] τ := by
  refine o_iload (k := 5) 5 (by decide +kernel) rfl ?_
  refine o_wlen rfl (by decide +kernel) (by decide +kernel) (Nat.le_of_ble_eq_true rfl) ?_
  refine o_icmp_ge (off := 79) 105 (by decide +kernel) (by decide) (fun q => ?_) (fun q => ?_)
  · replace h := h.1 q
    refine o_bipush (n := 47) (v := 47) (by decide +kernel) (by decide) ?_
    exact f_iret (ty := .int) rfl rfl (by decide +kernel) rfl h
  · replace h := h.2 q
    obtain ⟨c1, ec1, lc1, h⟩ := h
    subst ec1
    refine o_wchar (k := 5) (j := 5) (q := c1) rfl (by decide +kernel) (by decide +kernel) (by decide +kernel) rfl lc1 (Nat.le_of_ble_eq_true rfl) ?_
    refine o_name (fun y2 ey2 => ?_)
    replace h := h y2 ey2
    refine o_istore (k := 6) (L' := [(6, .int y2), (0, .ref 314), (1, .int v1), (2, .int v2), (3, .int v3), (4, .int v4), (5, .int (nI c1))]) (by decide +kernel) (by decide) rfl ?_
    refine o_iload (k := 6) 0 (by decide +kernel) rfl ?_
    refine o_bipush (n := 32) (v := 32) (by decide +kernel) (by decide) ?_
    refine o_icmp_ne (off := 22) 64 (by decide +kernel) (by decide) (fun q => ?_) (fun q => ?_)
    · replace h := h.1 q
      refine o_iload (k := 4) 5 (by decide +kernel) rfl ?_
      refine o_if_lt (off := 30) 96 (by decide +kernel) (by decide) (fun q => ?_) (fun q => ?_)
      · replace h := h.1 q
        refine o_sub [1, 2, 3, 4, 6] rfl ?_
        exact h
      · replace h := h.2 q
        refine o_iload_n (k := 1) 2 (by decide +kernel) rfl ?_
        refine o_iload (k := 4) 5 (by decide +kernel) rfl ?_
        refine o_iadd (by decide +kernel) ?_
        refine o_iload_n (k := 2) 3 (by decide +kernel) rfl ?_
        refine o_icmp_ge (off := 22) 96 (by decide +kernel) (by decide) (fun q => ?_) (fun q => ?_)
        · replace h := h.1 q
          refine o_sub [1, 2, 3, 4, 6] rfl ?_
          exact h
        · replace h := h.2 q
          refine o_aload_n (k := 0) 1 (by decide +kernel) rfl ?_
          refine o_iload_n (k := 1) 2 (by decide +kernel) rfl ?_
          refine o_iload (k := 4) 5 (by decide +kernel) rfl ?_
          refine o_iadd (by decide +kernel) ?_
          refine f_callVI (μ' := mX8_byteAt) (i := 31) (vs := [.int (v1 + v4)]) (by decide +kernel) lk_808 (vok_mX8_byteAt) sh_314 rfl rfl rfl rfl (Nat.le_of_ble_eq_true rfl) ?_
          refine x_CI.mono h (fun t3 a4 h => ?_)
          refine o_iload (k := 6) 0 (by decide +kernel) rfl ?_
          refine o_icmp_ne (off := 9) 96 (by decide +kernel) (by decide) (fun q => ?_) (fun q => ?_)
          · replace h := h.1 q
            refine o_sub [1, 2, 3, 4, 6] rfl ?_
            exact h
          · replace h := h.2 q
            obtain ⟨y5, ey5⟩ : ∃ y : Int32, y = v4 + 1 := ⟨_, rfl⟩
            replace h := h y5 ey5
            refine o_iinc (i := 4) (n := 1) (v := y5) (L' := [(4, .int y5), (6, .int y2), (0, .ref 314), (1, .int v1), (2, .int v2), (3, .int v3), (5, .int (nI c1))]) 5 (by decide +kernel) rfl (by rw [ey5]; rfl) (by decide) rfl ?_
            refine o_goto (off := 6) 99 (by decide +kernel) (by decide) ?_
            refine o_sub [2, 3, 4, 5, 0, 6] rfl ?_
            exact h
    · replace h := h.2 q
      refine o_iload (k := 4) 5 (by decide +kernel) rfl ?_
      refine o_iload_n (k := 2) 3 (by decide +kernel) rfl ?_
      refine o_iload_n (k := 1) 2 (by decide +kernel) rfl ?_
      refine o_isub (by decide +kernel) ?_
      refine o_icmp_ne (off := 5) 55 (by decide +kernel) (by decide) (fun q => ?_) (fun q => ?_)
      · replace h := h.1 q
        obtain ⟨y6, ey6⟩ : ∃ y : Int32, y = v3 + 1 := ⟨_, rfl⟩
        replace h := h y6 ey6
        refine o_iinc (i := 3) (n := 1) (v := y6) (L' := [(3, .int y6), (6, .int y2), (0, .ref 314), (1, .int v1), (2, .int v2), (4, .int v4), (5, .int (nI c1))]) 4 (by decide +kernel) rfl (by rw [ey6]; rfl) (by decide) rfl ?_
        refine o_iconst (n := 0) (v := 0) (by decide +kernel) (by decide) ?_
        refine o_istore (k := 4) (L' := [(4, .int 0), (3, .int y6), (6, .int y2), (0, .ref 314), (1, .int v1), (2, .int v2), (5, .int (nI c1))]) (by decide +kernel) (by decide) rfl ?_
        refine o_goto (off := 38) 99 (by decide +kernel) (by decide) ?_
        refine o_sub [3, 4, 5, 1, 0, 6] rfl ?_
        exact h
      · replace h := h.2 q
        refine o_iload_n (k := 3) 4 (by decide +kernel) rfl ?_
        exact f_iret (ty := .int) rfl rfl (by decide +kernel) rfl h
set_option maxRecDepth 20000 in
theorem k_X8_wordOf_96 {d : Nat} {K : x_T → Int32 → Prop} {v1 : Int32} {v2 : Int32} {v3 : Int32} {v5 : Int32} {τ : x_T} (h : x_WI (d + 1 + 1 + 1 + 1) mX8_wordOf K 99 [(0, .ref 314), (1, .int v1), (2, .int v2), (3, .int v3), (4, .int (-1)), (5, .int v5)] [] τ) : x_WI (d + 1 + 1 + 1 + 1) mX8_wordOf K 96 [(0, .ref 314), (1, .int v1), (2, .int v2), (3, .int v3), (5, .int v5)] [] τ := by
  refine o_iconst (n := -1) (v := (-1)) (by decide +kernel) (by decide) ?_
  refine o_istore (k := 4) (L' := [(4, .int (-1)), (0, .ref 314), (1, .int v1), (2, .int v2), (3, .int v3), (5, .int v5)]) (by decide +kernel) (by decide) rfl ?_
  refine o_sub [1, 2, 3, 4, 0, 5] rfl ?_
  exact h
set_option maxRecDepth 20000 in
theorem k_X8_wordOf_99 {d : Nat} {K : x_T → Int32 → Prop} {v1 : Int32} {v2 : Int32} {v3 : Int32} {v4 : Int32} {v5 : Int32} {τ : x_T} (h : ∀ y1, y1 = v5 + 1 → (x_WI (d + 1 + 1 + 1 + 1) mX8_wordOf K 19 [(0, .ref 314), (1, .int v1), (2, .int v2), (3, .int v3), (4, .int v4), (5, .int y1)] [] τ)) : x_WI (d + 1 + 1 + 1 + 1) mX8_wordOf K 99 [(0, .ref 314), (1, .int v1), (2, .int v2), (3, .int v3), (4, .int v4), (5, .int v5)] [] τ := by
  obtain ⟨y1, ey1⟩ : ∃ y : Int32, y = v5 + 1 := ⟨_, rfl⟩
  replace h := h y1 ey1
  refine o_iinc (i := 5) (n := 1) (v := y1) (L' := [(5, .int y1), (0, .ref 314), (1, .int v1), (2, .int v2), (3, .int v3), (4, .int v4)]) 5 (by decide +kernel) rfl (by rw [ey1]; rfl) (by decide) rfl ?_
  refine o_goto (off := -83) 19 (by decide +kernel) (by decide) ?_
  refine o_sub [1, 2, 3, 4, 5, 0] rfl ?_
  exact h
set_option maxRecDepth 20000 in
theorem e_X8_cutSign {d : Nat} {K : x_T → Int32 → Prop} {v1 : Int32} {τ : x_T} (h : x_CI (d + 1 + 1 + 1) mX8_byteAt [.ref 314, .int v1] τ (fun t1 a2 => (a2 = 60 → x_WI (d + 1 + 1 + 1 + 1) mX8_cutSign K 18 [(0, .ref 314), (1, .int v1), (2, .int a2)] [] t1) ∧ (¬ a2 = 60 → (¬ a2 = 62 → x_WI (d + 1 + 1 + 1 + 1) mX8_cutSign K 53 [(0, .ref 314), (1, .int v1), (2, .int a2)] [] t1) ∧ (a2 = 62 → x_WI (d + 1 + 1 + 1 + 1) mX8_cutSign K 18 [(0, .ref 314), (1, .int v1), (2, .int a2)] [] t1)))) : x_CI (d + 1 + 1 + 1 + 1) mX8_cutSign [.ref 314, .int v1] τ K := by
  refine x_CI_of (by decide) (Nat.le_of_ble_eq_true rfl) ?_
  show x_WI (d + 1 + 1 + 1 + 1) mX8_cutSign K 0 [(0, .ref 314), (1, .int v1)] [] τ
  refine o_aload_n (k := 0) 0 (by decide +kernel) rfl ?_
  refine o_iload_n (k := 1) 1 (by decide +kernel) rfl ?_
  refine f_callVI (μ' := mX8_byteAt) (i := 31) (vs := [.int v1]) (by decide +kernel) lk_808 (vok_mX8_byteAt) sh_314 rfl rfl rfl rfl (Nat.le_of_ble_eq_true rfl) ?_
  refine x_CI.mono h (fun t1 a2 h => ?_)
  refine o_istore_n (k := 2) (L' := [(2, .int a2), (0, .ref 314), (1, .int v1)]) (by decide +kernel) (by decide) rfl ?_
  refine o_iload_n (k := 2) 0 (by decide +kernel) rfl ?_
  refine o_bipush (n := 60) (v := 60) (by decide +kernel) (by decide) ?_
  refine o_icmp_eq (off := 9) 18 (by decide +kernel) (by decide) (fun q => ?_) (fun q => ?_)
  · replace h := h.1 q
    refine o_sub [1, 2, 0] rfl ?_
    exact h
  · replace h := h.2 q
    refine o_iload_n (k := 2) 0 (by decide +kernel) rfl ?_
    refine o_bipush (n := 62) (v := 62) (by decide +kernel) (by decide) ?_
    refine o_icmp_ne (off := 38) 53 (by decide +kernel) (by decide) (fun q => ?_) (fun q => ?_)
    · replace h := h.1 q
      refine o_sub [1, 2, 0] rfl ?_
      exact h
    · replace h := h.2 q
      refine o_sub [1, 2, 0] rfl ?_
      exact h
set_option maxRecDepth 20000 in
theorem k_X8_cutSign_18 {d : Nat} {K : x_T → Int32 → Prop} {v1 : Int32} {v2 : Int32} {τ : x_T} (h : x_CI (d + 1 + 1 + 1) mX8_byteAt [.ref 314, .int (v1 + 1)] τ (fun t1 a2 => (¬ a2 = 61 → x_WI (d + 1 + 1 + 1 + 1) mX8_cutSign K 53 [(0, .ref 314), (1, .int v1), (2, .int v2)] [] t1) ∧ (a2 = 61 → (¬ v2 = 60 → x_WI (d + 1 + 1 + 1 + 1) mX8_cutSign K 44 [(1, .int v1)] [.int 44, .ref 314] t1) ∧ (v2 = 60 → x_WI (d + 1 + 1 + 1 + 1) mX8_cutSign K 44 [(1, .int v1)] [.int 43, .ref 314] t1)))) : x_WI (d + 1 + 1 + 1 + 1) mX8_cutSign K 18 [(0, .ref 314), (1, .int v1), (2, .int v2)] [] τ := by
  refine o_aload_n (k := 0) 0 (by decide +kernel) rfl ?_
  refine o_iload_n (k := 1) 1 (by decide +kernel) rfl ?_
  refine o_iconst (n := 1) (v := 1) (by decide +kernel) (by decide) ?_
  refine o_iadd (by decide +kernel) ?_
  refine f_callVI (μ' := mX8_byteAt) (i := 31) (vs := [.int (v1 + 1)]) (by decide +kernel) lk_808 (vok_mX8_byteAt) sh_314 rfl rfl rfl rfl (Nat.le_of_ble_eq_true rfl) ?_
  refine x_CI.mono h (fun t1 a2 h => ?_)
  refine o_bipush (n := 61) (v := 61) (by decide +kernel) (by decide) ?_
  refine o_icmp_ne (off := 26) 53 (by decide +kernel) (by decide) (fun q => ?_) (fun q => ?_)
  · replace h := h.1 q
    exact h
  · replace h := h.2 q
    refine o_aload_n (k := 0) 0 (by decide +kernel) rfl ?_
    refine o_iload_n (k := 2) 2 (by decide +kernel) rfl ?_
    refine o_bipush (n := 60) (v := 60) (by decide +kernel) (by decide) ?_
    refine o_icmp_ne (off := 8) 42 (by decide +kernel) (by decide) (fun q => ?_) (fun q => ?_)
    · replace h := h.1 q
      refine o_bipush (n := 44) (v := 44) (by decide +kernel) (by decide) ?_
      refine o_sub [1] rfl ?_
      exact h
    · replace h := h.2 q
      refine o_bipush (n := 43) (v := 43) (by decide +kernel) (by decide) ?_
      refine o_goto (off := 5) 44 (by decide +kernel) (by decide) ?_
      refine o_sub [1] rfl ?_
      exact h
set_option maxRecDepth 20000 in
theorem k_X8_cutSign_44 {d : Nat} {K : x_T → Int32 → Prop} {v1 : Int32} {s0 : Int32} {τ : x_T} (h : x_CV (d + 1 + 1 + 1) mX8_note [.ref 314, .int s0, .int 0, .int v1] τ (fun t1 => K t1 (v1 + 2))) : x_WI (d + 1 + 1 + 1 + 1) mX8_cutSign K 44 [(1, .int v1)] [.int s0, .ref 314] τ := by
  refine o_iconst (n := 0) (v := 0) (by decide +kernel) (by decide) ?_
  refine o_iload_n (k := 1) 0 (by decide +kernel) rfl ?_
  refine f_callVV (μ' := mX8_note) (i := 51) (vs := [.int s0, .int 0, .int v1]) (by decide +kernel) lk_872 (vok_mX8_note) sh_314 rfl rfl rfl rfl (Nat.le_of_ble_eq_true rfl) ?_
  refine x_CV.mono h (fun t1 h => ?_)
  refine o_iload_n (k := 1) 0 (by decide +kernel) rfl ?_
  refine o_iconst (n := 2) (v := 2) (by decide +kernel) (by decide) ?_
  refine o_iadd (by decide +kernel) ?_
  exact f_iret (ty := .int) rfl rfl (by decide +kernel) rfl h
set_option maxRecDepth 20000 in
theorem k_X8_cutSign_53 {d : Nat} {K : x_T → Int32 → Prop} {v1 : Int32} {v2 : Int32} {τ : x_T} (h : ¬ (v2.toUInt32 % 65536).toInt32 < 0 ∧ ¬ 255 < (v2.toUInt32 % 65536).toInt32 ∧ (∀ y1, y1 = x_ix (v2.toUInt32 % 65536).toInt32 → ((0 ≤ y1 → x_WI (d + 1 + 1 + 1 + 1) mX8_cutSign K 75 [(1, .int v1)] [.int (32 + y1), .ref 314] τ) ∧ (¬ 0 ≤ y1 → x_WI (d + 1 + 1 + 1 + 1) mX8_cutSign K 75 [(1, .int v1)] [.int 47, .ref 314] τ)))) : x_WI (d + 1 + 1 + 1 + 1) mX8_cutSign K 53 [(0, .ref 314), (1, .int v1), (2, .int v2)] [] τ := by
  obtain ⟨g1, g2, h⟩ := h
  refine o_sidx (j := 2) (k := 2) rfl (by decide +kernel) (by decide +kernel) (by decide +kernel) (by decide +kernel) rfl g1 g2 (Nat.le_of_ble_eq_true rfl) ?_
  refine o_name (fun y1 ey1 => ?_)
  replace h := h y1 ey1
  refine o_istore_n (k := 3) (L' := [(3, .int y1), (0, .ref 314), (1, .int v1), (2, .int v2)]) (by decide +kernel) (by decide) rfl ?_
  refine o_aload_n (k := 0) 1 (by decide +kernel) rfl ?_
  refine o_iload_n (k := 3) 0 (by decide +kernel) rfl ?_
  refine o_if_ge (off := 8) 71 (by decide +kernel) (by decide) (fun q => ?_) (fun q => ?_)
  · replace h := h.1 q
    refine o_bipush (n := 32) (v := 32) (by decide +kernel) (by decide) ?_
    refine o_iload_n (k := 3) 0 (by decide +kernel) rfl ?_
    refine o_iadd (by decide +kernel) ?_
    refine o_sub [2] rfl ?_
    exact h
  · replace h := h.2 q
    refine o_bipush (n := 47) (v := 47) (by decide +kernel) (by decide) ?_
    refine o_goto (off := 7) 75 (by decide +kernel) (by decide) ?_
    refine o_sub [2] rfl ?_
    exact h
set_option maxRecDepth 20000 in
theorem k_X8_cutSign_75 {d : Nat} {K : x_T → Int32 → Prop} {v1 : Int32} {s0 : Int32} {τ : x_T} (h : x_CV (d + 1 + 1 + 1) mX8_note [.ref 314, .int s0, .int 0, .int v1] τ (fun t1 => K t1 (v1 + 1))) : x_WI (d + 1 + 1 + 1 + 1) mX8_cutSign K 75 [(1, .int v1)] [.int s0, .ref 314] τ := by
  refine o_iconst (n := 0) (v := 0) (by decide +kernel) (by decide) ?_
  refine o_iload_n (k := 1) 0 (by decide +kernel) rfl ?_
  refine f_callVV (μ' := mX8_note) (i := 51) (vs := [.int s0, .int 0, .int v1]) (by decide +kernel) lk_872 (vok_mX8_note) sh_314 rfl rfl rfl rfl (Nat.le_of_ble_eq_true rfl) ?_
  refine x_CV.mono h (fun t1 h => ?_)
  refine o_iload_n (k := 1) 0 (by decide +kernel) rfl ?_
  refine o_iconst (n := 1) (v := 1) (by decide +kernel) (by decide) ?_
  refine o_iadd (by decide +kernel) ?_
  exact f_iret (ty := .int) rfl rfl (by decide +kernel) rfl h
