set_option maxRecDepth 20000 in
theorem e_X11_init {d : Nat} {N0 : Nat} {Q : x_S → Option Value → Prop} {o : Nat} (ho : x_sh o = (11, 18)) {σ : x_S} (h : x_sh N0 = (3, 9) ∧ N0 + 1 ≤ N0 + 344 ∧ x_sl N0 + 9 ≤ x_sl N0 + 12964 ∧ (N0 + 1 + 11 ≤ N0 + 344 ∧ x_sl (N0 + 1) + 186 ≤ x_sl N0 + 12964 ∧ x_sl (N0 + 1 + 11) = x_sl (N0 + 1) + 186 ∧ (x_Mt d mX3_init (N0 + 1) [.ref N0] (x_nw σ N0) (fun u1 r => r = none ∧ (o < N0 + 12 ∧ (∀ u2, u2 = x_wr u1 o 0 (some N0) → (x_sh (N0 + 12) = (1, 11) ∧ N0 + 12 + 1 ≤ N0 + 344 ∧ x_sl (N0 + 12) + 11 ≤ x_sl N0 + 12964 ∧ (N0 + 13 + 3 ≤ N0 + 344 ∧ x_sl (N0 + 13) + 106 ≤ x_sl N0 + 12964 ∧ x_sl (N0 + 13 + 3) = x_sl (N0 + 13) + 106 ∧ (x_Mt d mX1_init (N0 + 13) [.ref (N0 + 12)] (x_nw u2 (N0 + 12)) (fun u3 r => r = none ∧ (o < N0 + 16 ∧ (∀ u4, u4 = x_wr u3 o 1 (some (N0 + 12)) → (x_sh (N0 + 16) = (7, 3) ∧ N0 + 16 + 1 ≤ N0 + 344 ∧ x_sl (N0 + 16) + 3 ≤ x_sl N0 + 12964 ∧ (N0 + 17 + 121 ≤ N0 + 344 ∧ x_sl (N0 + 17) + 3540 ≤ x_sl N0 + 12964 ∧ x_sl (N0 + 17 + 121) = x_sl (N0 + 17) + 3540 ∧ (x_Mt d mX7_init (N0 + 17) [.ref (N0 + 16)] (x_nw u4 (N0 + 16)) (fun u5 r => r = none ∧ (o < N0 + 138 ∧ (∀ u6, u6 = x_wr u5 o 2 (some (N0 + 16)) → (x_sh (N0 + 138) = (23, 4) ∧ N0 + 138 + 1 ≤ N0 + 344 ∧ x_sl (N0 + 138) + 4 ≤ x_sl N0 + 12964 ∧ (o < N0 + 139 ∧ (∀ u7, u7 = x_wr (x_nw u6 (N0 + 138)) o 3 (some (N0 + 138)) → (x_Wg (d + 1) mX11_init N0 Q (N0 + 139) 47 [(0, .ref o), (1, .int 0)] [] u7)))))))))))))))))))))) : x_Mt (d + 1) mX11_init N0 [.ref o] σ Q := by
  refine x_of (by decide) (Nat.le_of_ble_eq_true rfl) ?_
  show x_Wg (d + 1) mX11_init N0 Q N0 0 [(0, .ref o)] [] σ
  refine o_aload_n (k := 0) 0 (by decide +kernel) rfl ?_
  refine o_objInit (i := 1) (by decide +kernel) lc_141 lc_obj (Nat.le_of_ble_eq_true rfl) ?_
  refine o_aload_n (k := 0) 0 (by decide +kernel) rfl ?_
  obtain ⟨a1, a2, a3, h⟩ := h
  refine o_new (t := 3) (i := 7) (by decide +kernel) lc_144 lc_145 lc_116 a1 rfl a2 a3 ?_
  refine o_dup (by decide +kernel) rfl ?_
  obtain ⟨a1, a2, a3, h⟩ := h
  refine o_callIN (o := N0) (μ' := mX3_init) (i := 9) (hn0 := "NoonOnABarrow") (vs := []) rfl (by decide +kernel) (by decide +kernel) cok_mX3_init lc_ins_mX3_init rfl rfl rfl (Nat.le_of_ble_eq_true rfl) a1 a2 a3 ?_
  refine x_Mt.mono h (fun u1 r h => ?_)
  obtain ⟨hr, h⟩ := h
  subst hr
  obtain ⟨a1, h⟩ := h
  refine o_putF (t := 11) (k := 0) (i := 10) (by decide +kernel) ho a1 rfl (by decide) rfl rfl rfl rfl (Or.inl ⟨_, rfl⟩) lc_490 ?_
  refine o_nameS (fun u2 eu2 => ?_)
  replace h := h u2 eu2
  refine o_aload_n (k := 0) 0 (by decide +kernel) rfl ?_
  obtain ⟨a1, a2, a3, h⟩ := h
  refine o_new (t := 1) (i := 16) (by decide +kernel) lc_219 lc_220 lc_118 a1 rfl a2 a3 ?_
  refine o_dup (by decide +kernel) rfl ?_
  obtain ⟨a1, a2, a3, h⟩ := h
  refine o_callIN (o := N0 + 12) (μ' := mX1_init) (i := 18) (hn0 := "NoonOnABarrow") (vs := []) rfl (by decide +kernel) (by decide +kernel) cok_mX1_init lc_ins_mX1_init rfl rfl rfl (Nat.le_of_ble_eq_true rfl) a1 a2 a3 ?_
  refine x_Mt.mono h (fun u3 r h => ?_)
  obtain ⟨hr, h⟩ := h
  subst hr
  obtain ⟨a1, h⟩ := h
  refine o_putF (t := 11) (k := 1) (i := 19) (by decide +kernel) ho a1 rfl (by decide) rfl rfl rfl rfl (Or.inl ⟨_, rfl⟩) lc_491 ?_
  refine o_nameS (fun u4 eu4 => ?_)
  replace h := h u4 eu4
  refine o_aload_n (k := 0) 0 (by decide +kernel) rfl ?_
  obtain ⟨a1, a2, a3, h⟩ := h
  refine o_new (t := 7) (i := 23) (by decide +kernel) lc_280 lc_281 lc_119 a1 rfl a2 a3 ?_
  refine o_dup (by decide +kernel) rfl ?_
  obtain ⟨a1, a2, a3, h⟩ := h
  refine o_callI (o := N0 + 16) (μ' := mX7_init) (i := 25) (vs := []) rfl (by decide +kernel) lc_282 cok_mX7_init lc_ins_mX7_init rfl rfl rfl (Nat.le_of_ble_eq_true rfl) a1 a2 a3 ?_
  refine x_Mt.mono h (fun u5 r h => ?_)
  obtain ⟨hr, h⟩ := h
  subst hr
  obtain ⟨a1, h⟩ := h
  refine o_putF (t := 11) (k := 2) (i := 26) (by decide +kernel) ho a1 rfl (by decide) rfl rfl rfl rfl (Or.inl ⟨_, rfl⟩) lc_492 ?_
  refine o_nameS (fun u6 eu6 => ?_)
  replace h := h u6 eu6
  refine o_aload_n (k := 0) 0 (by decide +kernel) rfl ?_
  refine o_iconst (n := 4) (v := 4) (by decide +kernel) (by decide) ?_
  obtain ⟨a1, a2, a3, h⟩ := h
  refine o_anewaT (j := 30) (by decide +kernel) lc_300 a1 (by decide) (by decide) (by decide) a2 a3 ?_
  obtain ⟨a1, h⟩ := h
  refine o_putF (t := 11) (k := 3) (i := 32) (by decide +kernel) ho a1 rfl (by decide) rfl rfl rfl rfl (Or.inr ⟨_, rfl⟩) lc_493 ?_
  refine o_nameS (fun u7 eu7 => ?_)
  replace h := h u7 eu7
  refine o_iconst (n := 0) (v := 0) (by decide +kernel) (by decide) ?_
  refine o_istore_n (k := 1) (L' := [(1, .int 0), (0, .ref o)]) (by decide +kernel) (by decide) rfl ?_
  refine o_sub [1, 0] rfl ?_
  exact h
set_option maxRecDepth 20000 in
theorem k_X11_init_47 {d : Nat} {N0 N : Nat} {Q : x_S → Option Value → Prop} {o : Nat} (ho : x_sh o = (11, 18)) {v1 : Int32} {σ : x_S} (h : o < N ∧ (∃ c1, σ.2.2 o 3 = some c1 ∧ (x_sh c1 = (23, 4) ∧ c1 < N ∧ ((4 ≤ v1 → o < N ∧ (∀ u2, u2 = x_wi σ o 4 0 → (o < N ∧ (∀ u3, u3 = x_wi u2 o 5 (-1) → (x_sh N = (3, 9) ∧ N + 1 ≤ N0 + 344 ∧ x_sl N + 9 ≤ x_sl N0 + 12964 ∧ (N + 1 + 11 ≤ N0 + 344 ∧ x_sl (N + 1) + 186 ≤ x_sl N0 + 12964 ∧ x_sl (N + 1 + 11) = x_sl (N + 1) + 186 ∧ (x_Mt d mX3_init (N + 1) [.ref N] (x_nw u3 N) (fun u4 r => r = none ∧ (o < N + 12 ∧ (∀ u5, u5 = x_wr u4 o 6 (some N) → (x_sh (N + 12) = (1, 11) ∧ N + 12 + 1 ≤ N0 + 344 ∧ x_sl (N + 12) + 11 ≤ x_sl N0 + 12964 ∧ (N + 13 + 3 ≤ N0 + 344 ∧ x_sl (N + 13) + 106 ≤ x_sl N0 + 12964 ∧ x_sl (N + 13 + 3) = x_sl (N + 13) + 106 ∧ (x_Mt d mX1_init (N + 13) [.ref (N + 12)] (x_nw u5 (N + 12)) (fun u6 r => r = none ∧ (o < N + 16 ∧ (∀ u7, u7 = x_wr u6 o 7 (some (N + 12)) → (x_sh (N + 16) = (7, 3) ∧ N + 16 + 1 ≤ N0 + 344 ∧ x_sl (N + 16) + 3 ≤ x_sl N0 + 12964 ∧ (N + 17 + 121 ≤ N0 + 344 ∧ x_sl (N + 17) + 3540 ≤ x_sl N0 + 12964 ∧ x_sl (N + 17 + 121) = x_sl (N + 17) + 3540 ∧ (x_Mt d mX7_init (N + 17) [.ref (N + 16)] (x_nw u7 (N + 16)) (fun u8 r => r = none ∧ (o < N + 138 ∧ (∀ u9, u9 = x_wr u8 o 8 (some (N + 16)) → (o < N + 138 ∧ (∀ u10, u10 = x_wi u9 o 9 0 → (o < N + 138 ∧ (∀ u11, u11 = x_wi u10 o 10 (-1) → (x_sh (N + 138) = (8, 6) ∧ N + 138 + 1 ≤ N0 + 344 ∧ x_sl (N + 138) + 6 ≤ x_sl N0 + 12964 ∧ (N + 139 + 4 ≤ N0 + 344 ∧ x_sl (N + 139) + 1203 ≤ x_sl N0 + 12964 ∧ x_sl (N + 139 + 4) = x_sl (N + 139) + 1203 ∧ (x_Mt d mX8_init (N + 139) [.ref (N + 138)] (x_nw u11 (N + 138)) (fun u12 r => r = none ∧ (o < N + 143 ∧ (∀ u13, u13 = x_wr u12 o 11 (some (N + 138)) → (x_sh (N + 143) = (6, 6) ∧ N + 143 + 1 ≤ N0 + 344 ∧ x_sl (N + 143) + 6 ≤ x_sl N0 + 12964 ∧ (o < N + 144 ∧ (∃ c14, (x_nw u13 (N + 143)).2.2 o 11 = some c14 ∧ (N + 144 + 9 ≤ N0 + 344 ∧ x_sl (N + 144) + 714 ≤ x_sl N0 + 12964 ∧ x_sl (N + 144 + 9) = x_sl (N + 144) + 714 ∧ (x_Mt d mX6_init (N + 144) [.ref (N + 143), .ref c14] (x_nw u13 (N + 143)) (fun u15 r => r = none ∧ (o < N + 153 ∧ (∀ u16, u16 = x_wr u15 o 12 (some (N + 143)) → (x_sh (N + 153) = (4, 5) ∧ N + 153 + 1 ≤ N0 + 344 ∧ x_sl (N + 153) + 5 ≤ x_sl N0 + 12964 ∧ (o < N + 154 ∧ (∃ c17, (x_nw u16 (N + 153)).2.2 o 0 = some c17 ∧ (N + 154 + 2 ≤ N0 + 344 ∧ x_sl (N + 154) + 96 ≤ x_sl N0 + 12964 ∧ x_sl (N + 154 + 2) = x_sl (N + 154) + 96 ∧ (x_Mt d mX4_init (N + 154) [.ref (N + 153), .ref c17] (x_nw u16 (N + 153)) (fun u18 r => r = none ∧ (o < N + 156 ∧ (∀ u19, u19 = x_wr u18 o 13 (some (N + 153)) → (x_sh (N + 156) = (2, 2) ∧ N + 156 + 1 ≤ N0 + 344 ∧ x_sl (N + 156) + 2 ≤ x_sl N0 + 12964 ∧ (o < N + 157 ∧ (∃ c20, (x_nw u19 (N + 156)).2.2 o 0 = some c20 ∧ (o < N + 157 ∧ (∃ c21, (x_nw u19 (N + 156)).2.2 o 13 = some c21 ∧ (N + 157 + 0 ≤ N0 + 344 ∧ x_sl (N + 157) + 0 ≤ x_sl N0 + 12964 ∧ x_sl (N + 157 + 0) = x_sl (N + 157) + 0 ∧ (x_Mt d mX2_init (N + 157) [.ref (N + 156), .ref c20, .ref c21] (x_nw u19 (N + 156)) (fun u22 r => r = none ∧ (o < N + 157 ∧ (∀ u23, u23 = x_wr u22 o 14 (some (N + 156)) → (x_sh (N + 157) = (10, 10) ∧ N + 157 + 1 ≤ N0 + 344 ∧ x_sl (N + 157) + 10 ≤ x_sl N0 + 12964 ∧ (o < N + 158 ∧ (∃ c24, (x_nw u23 (N + 157)).2.2 o 0 = some c24 ∧ (o < N + 158 ∧ (∃ c25, (x_nw u23 (N + 157)).2.2 o 13 = some c25 ∧ (N + 158 + 5 ≤ N0 + 344 ∧ x_sl (N + 158) + 224 ≤ x_sl N0 + 12964 ∧ x_sl (N + 158 + 5) = x_sl (N + 158) + 224 ∧ (x_Mt d mX10_init (N + 158) [.ref (N + 157), .ref c24, .ref c25] (x_nw u23 (N + 157)) (fun u26 r => r = none ∧ (o < N + 163 ∧ (∀ u27, u27 = x_wr u26 o 15 (some (N + 157)) → (x_sh (N + 163) = (0, 3) ∧ N + 163 + 1 ≤ N0 + 344 ∧ x_sl (N + 163) + 3 ≤ x_sl N0 + 12964 ∧ (o < N + 164 ∧ (∃ c28, (x_nw u27 (N + 163)).2.2 o 0 = some c28 ∧ (o < N + 164 ∧ (∃ c29, (x_nw u27 (N + 163)).2.2 o 13 = some c29 ∧ (N + 164 + 1 ≤ N0 + 344 ∧ x_sl (N + 164) + 8 ≤ x_sl N0 + 12964 ∧ x_sl (N + 164 + 1) = x_sl (N + 164) + 8 ∧ (x_Mt d mX0_init (N + 164) [.ref (N + 163), .ref c28, .ref c29] (x_nw u27 (N + 163)) (fun u30 r => r = none ∧ (o < N + 165 ∧ (∀ u31, u31 = x_wr u30 o 16 (some (N + 163)) → (x_sh (N + 165) = (1, 11) ∧ N + 165 + 1 ≤ N0 + 344 ∧ x_sl (N + 165) + 11 ≤ x_sl N0 + 12964 ∧ (N + 166 + 3 ≤ N0 + 344 ∧ x_sl (N + 166) + 106 ≤ x_sl N0 + 12964 ∧ x_sl (N + 166 + 3) = x_sl (N + 166) + 106 ∧ (x_Mt d mX1_init (N + 166) [.ref (N + 165)] (x_nw u31 (N + 165)) (fun u32 r => r = none ∧ (o < N + 169 ∧ (∀ u33, u33 = x_wr u32 o 17 (some (N + 165)) → (N + 169 = N0 + 344 ∧ Q u33 none))))))))))))))))))))))))))))))))))))))))))))))))))))))))))))))))))))))))))))))))))))) ∧ (¬ 4 ≤ v1 → o < N ∧ (∃ c34, σ.2.2 o 3 = some c34 ∧ (x_sh N = (9, 10) ∧ N + 1 ≤ N0 + 344 ∧ x_sl N + 10 ≤ x_sl N0 + 12964 ∧ (N + 1 + 8 ≤ N0 + 344 ∧ x_sl (N + 1) + 704 ≤ x_sl N0 + 12964 ∧ x_sl (N + 1 + 8) = x_sl (N + 1) + 704 ∧ (x_Mt d mX9_init (N + 1) [.ref N] (x_nw σ N) (fun u35 r => r = none ∧ (x_sh c34 = (23, 4) ∧ c34 < N + 9 ∧ vp_in v1 4 ∧ x_sh N = (9, 10) ∧ N < N + 9 ∧ (∀ u36, u36 = x_wr u35 c34 v1.toNatClampNeg (some N) → (∀ y37, y37 = v1 + 1 → (x_Wg (d + 1) mX11_init N0 Q (N + 9) 47 [(0, .ref o), (1, .int y37)] [] u36)))))))))))))) : x_Wg (d + 1) mX11_init N0 Q N 47 [(0, .ref o), (1, .int v1)] [] σ := by
  refine o_iload_n (k := 1) 1 (by decide +kernel) rfl ?_
  refine o_aload_n (k := 0) 0 (by decide +kernel) rfl ?_
  obtain ⟨a1, c1, ec1, h⟩ := h
  refine o_get (v := .ref c1) (t := 11) (k := 3) (i := 32) (by decide +kernel) ho a1 rfl (by decide) lc_493 (by simp [x_av, x_ty, tyX11, ec1, x_rf]) ?_
  obtain ⟨a1, a2, h⟩ := h
  refine o_alen (v := 4) (by decide +kernel) a1 (by decide) a2 (by decide) ?_
  refine o_icmp_ge (off := 22) 75 (by decide +kernel) (by decide) (fun q => ?_) (fun q => ?_)
  · replace h := h.1 q
    refine o_aload_n (k := 0) 0 (by decide +kernel) rfl ?_
    refine o_iconst (n := 0) (v := 0) (by decide +kernel) (by decide) ?_
    obtain ⟨a1, h⟩ := h
    refine o_putI (t := 11) (k := 4) (i := 37) (by decide +kernel) ho a1 rfl (by decide) rfl rfl lc_494 ?_
    refine o_nameS (fun u2 eu2 => ?_)
    replace h := h u2 eu2
    refine o_aload_n (k := 0) 0 (by decide +kernel) rfl ?_
    refine o_iconst (n := -1) (v := (-1)) (by decide +kernel) (by decide) ?_
    obtain ⟨a1, h⟩ := h
    refine o_putI (t := 11) (k := 5) (i := 41) (by decide +kernel) ho a1 rfl (by decide) rfl rfl lc_495 ?_
    refine o_nameS (fun u3 eu3 => ?_)
    replace h := h u3 eu3
    refine o_aload_n (k := 0) 0 (by decide +kernel) rfl ?_
    obtain ⟨a1, a2, a3, h⟩ := h
    refine o_new (t := 3) (i := 7) (by decide +kernel) lc_144 lc_145 lc_116 a1 rfl a2 a3 ?_
    refine o_dup (by decide +kernel) rfl ?_
    obtain ⟨a1, a2, a3, h⟩ := h
    refine o_callIN (o := N) (μ' := mX3_init) (i := 9) (hn0 := "NoonOnABarrow") (vs := []) rfl (by decide +kernel) (by decide +kernel) cok_mX3_init lc_ins_mX3_init rfl rfl rfl (Nat.le_of_ble_eq_true rfl) a1 a2 a3 ?_
    refine x_Mt.mono h (fun u4 r h => ?_)
    obtain ⟨hr, h⟩ := h
    subst hr
    obtain ⟨a1, h⟩ := h
    refine o_putF (t := 11) (k := 6) (i := 44) (by decide +kernel) ho a1 rfl (by decide) rfl rfl rfl rfl (Or.inl ⟨_, rfl⟩) lc_496 ?_
    refine o_nameS (fun u5 eu5 => ?_)
    replace h := h u5 eu5
    refine o_aload_n (k := 0) 0 (by decide +kernel) rfl ?_
    obtain ⟨a1, a2, a3, h⟩ := h
    refine o_new (t := 1) (i := 16) (by decide +kernel) lc_219 lc_220 lc_118 a1 rfl a2 a3 ?_
    refine o_dup (by decide +kernel) rfl ?_
    obtain ⟨a1, a2, a3, h⟩ := h
    refine o_callIN (o := N + 12) (μ' := mX1_init) (i := 18) (hn0 := "NoonOnABarrow") (vs := []) rfl (by decide +kernel) (by decide +kernel) cok_mX1_init lc_ins_mX1_init rfl rfl rfl (Nat.le_of_ble_eq_true rfl) a1 a2 a3 ?_
    refine x_Mt.mono h (fun u6 r h => ?_)
    obtain ⟨hr, h⟩ := h
    subst hr
    obtain ⟨a1, h⟩ := h
    refine o_putF (t := 11) (k := 7) (i := 47) (by decide +kernel) ho a1 rfl (by decide) rfl rfl rfl rfl (Or.inl ⟨_, rfl⟩) lc_497 ?_
    refine o_nameS (fun u7 eu7 => ?_)
    replace h := h u7 eu7
    refine o_aload_n (k := 0) 0 (by decide +kernel) rfl ?_
    obtain ⟨a1, a2, a3, h⟩ := h
    refine o_new (t := 7) (i := 23) (by decide +kernel) lc_280 lc_281 lc_119 a1 rfl a2 a3 ?_
    refine o_dup (by decide +kernel) rfl ?_
    obtain ⟨a1, a2, a3, h⟩ := h
    refine o_callI (o := N + 16) (μ' := mX7_init) (i := 25) (vs := []) rfl (by decide +kernel) lc_282 cok_mX7_init lc_ins_mX7_init rfl rfl rfl (Nat.le_of_ble_eq_true rfl) a1 a2 a3 ?_
    refine x_Mt.mono h (fun u8 r h => ?_)
    obtain ⟨hr, h⟩ := h
    subst hr
    obtain ⟨a1, h⟩ := h
    refine o_putF (t := 11) (k := 8) (i := 50) (by decide +kernel) ho a1 rfl (by decide) rfl rfl rfl rfl (Or.inl ⟨_, rfl⟩) lc_498 ?_
    refine o_nameS (fun u9 eu9 => ?_)
    replace h := h u9 eu9
    refine o_aload_n (k := 0) 0 (by decide +kernel) rfl ?_
    refine o_iconst (n := 0) (v := 0) (by decide +kernel) (by decide) ?_
    obtain ⟨a1, h⟩ := h
    refine o_putI (t := 11) (k := 9) (i := 53) (by decide +kernel) ho a1 rfl (by decide) rfl rfl lc_499 ?_
    refine o_nameS (fun u10 eu10 => ?_)
    replace h := h u10 eu10
    refine o_aload_n (k := 0) 0 (by decide +kernel) rfl ?_
    refine o_iconst (n := -1) (v := (-1)) (by decide +kernel) (by decide) ?_
    obtain ⟨a1, h⟩ := h
    refine o_putI (t := 11) (k := 10) (i := 56) (by decide +kernel) ho a1 rfl (by decide) rfl rfl lc_500 ?_
    refine o_nameS (fun u11 eu11 => ?_)
    replace h := h u11 eu11
    refine o_aload_n (k := 0) 0 (by decide +kernel) rfl ?_
    obtain ⟨a1, a2, a3, h⟩ := h
    refine o_new (t := 8) (i := 59) (by decide +kernel) lc_345 lc_346 lc_121 a1 rfl a2 a3 ?_
    refine o_dup (by decide +kernel) rfl ?_
    obtain ⟨a1, a2, a3, h⟩ := h
    refine o_callIN (o := N + 138) (μ' := mX8_init) (i := 61) (hn0 := "NoonOnABarrow") (vs := []) rfl (by decide +kernel) (by decide +kernel) cok_mX8_init lc_ins_mX8_init rfl rfl rfl (Nat.le_of_ble_eq_true rfl) a1 a2 a3 ?_
    refine x_Mt.mono h (fun u12 r h => ?_)
    obtain ⟨hr, h⟩ := h
    subst hr
    obtain ⟨a1, h⟩ := h
    refine o_putF (t := 11) (k := 11) (i := 62) (by decide +kernel) ho a1 rfl (by decide) rfl rfl rfl rfl (Or.inl ⟨_, rfl⟩) lc_501 ?_
    refine o_nameS (fun u13 eu13 => ?_)
    replace h := h u13 eu13
    refine o_aload_n (k := 0) 0 (by decide +kernel) rfl ?_
    obtain ⟨a1, a2, a3, h⟩ := h
    refine o_new (t := 6) (i := 66) (by decide +kernel) lc_371 lc_372 lc_122 a1 rfl a2 a3 ?_
    refine o_dup (by decide +kernel) rfl ?_
    refine o_aload_n (k := 0) 0 (by decide +kernel) rfl ?_
    obtain ⟨a1, c14, ec14, h⟩ := h
    refine o_get (v := .ref c14) (t := 11) (k := 11) (i := 62) (by decide +kernel) ho a1 rfl (by decide) lc_501 (by simp [x_av, x_ty, tyX11, ec14, x_rf]) ?_
    obtain ⟨a1, a2, a3, h⟩ := h
    refine o_callI (o := N + 143) (μ' := mX6_init) (i := 68) (vs := [.ref c14]) rfl (by decide +kernel) lc_373 cok_mX6_init lc_ins_mX6_init rfl rfl rfl (Nat.le_of_ble_eq_true rfl) a1 a2 a3 ?_
    refine x_Mt.mono h (fun u15 r h => ?_)
    obtain ⟨hr, h⟩ := h
    subst hr
    obtain ⟨a1, h⟩ := h
    refine o_putF (t := 11) (k := 12) (i := 71) (by decide +kernel) ho a1 rfl (by decide) rfl rfl rfl rfl (Or.inl ⟨_, rfl⟩) lc_502 ?_
    refine o_nameS (fun u16 eu16 => ?_)
    replace h := h u16 eu16
    refine o_aload_n (k := 0) 0 (by decide +kernel) rfl ?_
    obtain ⟨a1, a2, a3, h⟩ := h
    refine o_new (t := 4) (i := 75) (by decide +kernel) lc_400 lc_401 lc_123 a1 rfl a2 a3 ?_
    refine o_dup (by decide +kernel) rfl ?_
    refine o_aload_n (k := 0) 0 (by decide +kernel) rfl ?_
    obtain ⟨a1, c17, ec17, h⟩ := h
    refine o_get (v := .ref c17) (t := 11) (k := 0) (i := 10) (by decide +kernel) ho a1 rfl (by decide) lc_490 (by simp [x_av, x_ty, tyX11, ec17, x_rf]) ?_
    obtain ⟨a1, a2, a3, h⟩ := h
    refine o_callI (o := N + 153) (μ' := mX4_init) (i := 77) (vs := [.ref c17]) rfl (by decide +kernel) lc_402 cok_mX4_init lc_ins_mX4_init rfl rfl rfl (Nat.le_of_ble_eq_true rfl) a1 a2 a3 ?_
    refine x_Mt.mono h (fun u18 r h => ?_)
    obtain ⟨hr, h⟩ := h
    subst hr
    obtain ⟨a1, h⟩ := h
    refine o_putF (t := 11) (k := 13) (i := 80) (by decide +kernel) ho a1 rfl (by decide) rfl rfl rfl rfl (Or.inl ⟨_, rfl⟩) lc_503 ?_
    refine o_nameS (fun u19 eu19 => ?_)
    replace h := h u19 eu19
    refine o_aload_n (k := 0) 0 (by decide +kernel) rfl ?_
    obtain ⟨a1, a2, a3, h⟩ := h
    refine o_new (t := 2) (i := 84) (by decide +kernel) lc_423 lc_424 lc_124 a1 rfl a2 a3 ?_
    refine o_dup (by decide +kernel) rfl ?_
    refine o_aload_n (k := 0) 0 (by decide +kernel) rfl ?_
    obtain ⟨a1, c20, ec20, h⟩ := h
    refine o_get (v := .ref c20) (t := 11) (k := 0) (i := 10) (by decide +kernel) ho a1 rfl (by decide) lc_490 (by simp [x_av, x_ty, tyX11, ec20, x_rf]) ?_
    refine o_aload_n (k := 0) 0 (by decide +kernel) rfl ?_
    obtain ⟨a1, c21, ec21, h⟩ := h
    refine o_get (v := .ref c21) (t := 11) (k := 13) (i := 80) (by decide +kernel) ho a1 rfl (by decide) lc_503 (by simp [x_av, x_ty, tyX11, ec21, x_rf]) ?_
    obtain ⟨a1, a2, a3, h⟩ := h
    refine o_callI (o := N + 156) (μ' := mX2_init) (i := 86) (vs := [.ref c20, .ref c21]) rfl (by decide +kernel) lc_425 cok_mX2_init lc_ins_mX2_init rfl rfl rfl (Nat.le_of_ble_eq_true rfl) a1 a2 a3 ?_
    refine x_Mt.mono h (fun u22 r h => ?_)
    obtain ⟨hr, h⟩ := h
    subst hr
    obtain ⟨a1, h⟩ := h
    refine o_putF (t := 11) (k := 14) (i := 89) (by decide +kernel) ho a1 rfl (by decide) rfl rfl rfl rfl (Or.inl ⟨_, rfl⟩) lc_504 ?_
    refine o_nameS (fun u23 eu23 => ?_)
    replace h := h u23 eu23
    refine o_aload_n (k := 0) 0 (by decide +kernel) rfl ?_
    obtain ⟨a1, a2, a3, h⟩ := h
    refine o_new (t := 10) (i := 93) (by decide +kernel) lc_436 lc_437 lc_125 a1 rfl a2 a3 ?_
    refine o_dup (by decide +kernel) rfl ?_
    refine o_aload_n (k := 0) 0 (by decide +kernel) rfl ?_
    obtain ⟨a1, c24, ec24, h⟩ := h
    refine o_get (v := .ref c24) (t := 11) (k := 0) (i := 10) (by decide +kernel) ho a1 rfl (by decide) lc_490 (by simp [x_av, x_ty, tyX11, ec24, x_rf]) ?_
    refine o_aload_n (k := 0) 0 (by decide +kernel) rfl ?_
    obtain ⟨a1, c25, ec25, h⟩ := h
    refine o_get (v := .ref c25) (t := 11) (k := 13) (i := 80) (by decide +kernel) ho a1 rfl (by decide) lc_503 (by simp [x_av, x_ty, tyX11, ec25, x_rf]) ?_
    obtain ⟨a1, a2, a3, h⟩ := h
    refine o_callI (o := N + 157) (μ' := mX10_init) (i := 95) (vs := [.ref c24, .ref c25]) rfl (by decide +kernel) lc_438 cok_mX10_init lc_ins_mX10_init rfl rfl rfl (Nat.le_of_ble_eq_true rfl) a1 a2 a3 ?_
    refine x_Mt.mono h (fun u26 r h => ?_)
    obtain ⟨hr, h⟩ := h
    subst hr
    obtain ⟨a1, h⟩ := h
    refine o_putF (t := 11) (k := 15) (i := 96) (by decide +kernel) ho a1 rfl (by decide) rfl rfl rfl rfl (Or.inl ⟨_, rfl⟩) lc_505 ?_
    refine o_nameS (fun u27 eu27 => ?_)
    replace h := h u27 eu27
    refine o_aload_n (k := 0) 0 (by decide +kernel) rfl ?_
    obtain ⟨a1, a2, a3, h⟩ := h
    refine o_new (t := 0) (i := 100) (by decide +kernel) lc_474 lc_475 lc_126 a1 rfl a2 a3 ?_
    refine o_dup (by decide +kernel) rfl ?_
    refine o_aload_n (k := 0) 0 (by decide +kernel) rfl ?_
    obtain ⟨a1, c28, ec28, h⟩ := h
    refine o_get (v := .ref c28) (t := 11) (k := 0) (i := 10) (by decide +kernel) ho a1 rfl (by decide) lc_490 (by simp [x_av, x_ty, tyX11, ec28, x_rf]) ?_
    refine o_aload_n (k := 0) 0 (by decide +kernel) rfl ?_
    obtain ⟨a1, c29, ec29, h⟩ := h
    refine o_get (v := .ref c29) (t := 11) (k := 13) (i := 80) (by decide +kernel) ho a1 rfl (by decide) lc_503 (by simp [x_av, x_ty, tyX11, ec29, x_rf]) ?_
    obtain ⟨a1, a2, a3, h⟩ := h
    refine o_callI (o := N + 163) (μ' := mX0_init) (i := 102) (vs := [.ref c28, .ref c29]) rfl (by decide +kernel) lc_476 cok_mX0_init lc_ins_mX0_init rfl rfl rfl (Nat.le_of_ble_eq_true rfl) a1 a2 a3 ?_
    refine x_Mt.mono h (fun u30 r h => ?_)
    obtain ⟨hr, h⟩ := h
    subst hr
    obtain ⟨a1, h⟩ := h
    refine o_putF (t := 11) (k := 16) (i := 103) (by decide +kernel) ho a1 rfl (by decide) rfl rfl rfl rfl (Or.inl ⟨_, rfl⟩) lc_506 ?_
    refine o_nameS (fun u31 eu31 => ?_)
    replace h := h u31 eu31
    refine o_aload_n (k := 0) 0 (by decide +kernel) rfl ?_
    obtain ⟨a1, a2, a3, h⟩ := h
    refine o_new (t := 1) (i := 16) (by decide +kernel) lc_219 lc_220 lc_118 a1 rfl a2 a3 ?_
    refine o_dup (by decide +kernel) rfl ?_
    obtain ⟨a1, a2, a3, h⟩ := h
    refine o_callIN (o := N + 165) (μ' := mX1_init) (i := 18) (hn0 := "NoonOnABarrow") (vs := []) rfl (by decide +kernel) (by decide +kernel) cok_mX1_init lc_ins_mX1_init rfl rfl rfl (Nat.le_of_ble_eq_true rfl) a1 a2 a3 ?_
    refine x_Mt.mono h (fun u32 r h => ?_)
    obtain ⟨hr, h⟩ := h
    subst hr
    obtain ⟨a1, h⟩ := h
    refine o_putF (t := 11) (k := 17) (i := 107) (by decide +kernel) ho a1 rfl (by decide) rfl rfl rfl rfl (Or.inl ⟨_, rfl⟩) lc_507 ?_
    refine o_nameS (fun u33 eu33 => ?_)
    replace h := h u33 eu33
    exact o_vret rfl (by decide +kernel) h.1 h.2
  · replace h := h.2 q
    refine o_aload_n (k := 0) 0 (by decide +kernel) rfl ?_
    obtain ⟨a1, c34, ec34, h⟩ := h
    refine o_get (v := .ref c34) (t := 11) (k := 3) (i := 32) (by decide +kernel) ho a1 rfl (by decide) lc_493 (by simp [x_av, x_ty, tyX11, ec34, x_rf]) ?_
    refine o_iload_n (k := 1) 1 (by decide +kernel) rfl ?_
    obtain ⟨a1, a2, a3, h⟩ := h
    refine o_new (t := 9) (i := 30) (by decide +kernel) lc_300 lc_302 lc_120 a1 rfl a2 a3 ?_
    refine o_dup (by decide +kernel) rfl ?_
    obtain ⟨a1, a2, a3, h⟩ := h
    refine o_callIN (o := N) (μ' := mX9_init) (i := 36) (hn0 := "NoonOnABarrow") (vs := []) rfl (by decide +kernel) (by decide +kernel) cok_mX9_init lc_ins_mX9_init rfl rfl rfl (Nat.le_of_ble_eq_true rfl) a1 a2 a3 ?_
    refine x_Mt.mono h (fun u35 r h => ?_)
    obtain ⟨hr, h⟩ := h
    subst hr
    obtain ⟨a1, a2, a3, a4, a5, h⟩ := h
    refine o_aastT (t := 9) (by decide +kernel) a1 a2 a3 a4 a5 rfl rfl ?_
    refine o_nameS (fun u36 eu36 => ?_)
    replace h := h u36 eu36
    obtain ⟨y37, ey37⟩ : ∃ y : Int32, y = v1 + 1 := ⟨_, rfl⟩
    replace h := h y37 ey37
    refine o_iinc (i := 1) (n := 1) (v := y37) (L' := [(1, .int y37), (0, .ref o)]) 1 (by decide +kernel) rfl (by rw [ey37]; rfl) (by decide) rfl ?_
    refine o_goto (off := -25) 47 (by decide +kernel) (by decide) ?_
    refine o_sub [1, 0] rfl ?_
    exact h
set_option maxRecDepth 20000 in
theorem e_X12_init {d : Nat} {N0 : Nat} {Q : x_S → Option Value → Prop} {o : Nat} (ho : x_sh o = (12, 47)) {σ : x_S} (h : x_sh N0 = (20, 3670) ∧ N0 + 1 ≤ N0 + 30 ∧ x_sl N0 + 3670 ≤ x_sl N0 + 13004 ∧ (o < N0 + 1 ∧ (∀ u1, u1 = x_wr (x_nw σ N0) o 0 (some N0) → (x_sh (N0 + 1) = (20, 3670) ∧ N0 + 1 + 1 ≤ N0 + 30 ∧ x_sl (N0 + 1) + 3670 ≤ x_sl N0 + 13004 ∧ (o < N0 + 2 ∧ (∀ u2, u2 = x_wr (x_nw u1 (N0 + 1)) o 1 (some (N0 + 1)) → (x_sh (N0 + 2) = (21, 300) ∧ N0 + 2 + 1 ≤ N0 + 30 ∧ x_sl (N0 + 2) + 300 ≤ x_sl N0 + 13004 ∧ (o < N0 + 3 ∧ (∀ u3, u3 = x_wr (x_nw u2 (N0 + 2)) o 2 (some (N0 + 2)) → (o < N0 + 3 ∧ (∀ u4, u4 = x_wi u3 o 4 (-1) → (o < N0 + 3 ∧ (∀ u5, u5 = x_wi u4 o 5 (-1) → (x_sh (N0 + 3) = (20, 4) ∧ N0 + 3 + 1 ≤ N0 + 30 ∧ x_sl (N0 + 3) + 4 ≤ x_sl N0 + 13004 ∧ (o < N0 + 4 ∧ (∀ u6, u6 = x_wr (x_nw u5 (N0 + 3)) o 6 (some (N0 + 3)) → (x_sh (N0 + 4) = (20, 96) ∧ N0 + 4 + 1 ≤ N0 + 30 ∧ x_sl (N0 + 4) + 96 ≤ x_sl N0 + 13004 ∧ (o < N0 + 5 ∧ (∀ u7, u7 = x_wr (x_nw u6 (N0 + 4)) o 7 (some (N0 + 4)) → (x_sh (N0 + 5) = (20, 96) ∧ N0 + 5 + 1 ≤ N0 + 30 ∧ x_sl (N0 + 5) + 96 ≤ x_sl N0 + 13004 ∧ (o < N0 + 6 ∧ (∀ u8, u8 = x_wr (x_nw u7 (N0 + 5)) o 8 (some (N0 + 5)) → (x_sh (N0 + 6) = (20, 96) ∧ N0 + 6 + 1 ≤ N0 + 30 ∧ x_sl (N0 + 6) + 96 ≤ x_sl N0 + 13004 ∧ (o < N0 + 7 ∧ (∀ u9, u9 = x_wr (x_nw u8 (N0 + 6)) o 9 (some (N0 + 6)) → (x_sh (N0 + 7) = (20, 96) ∧ N0 + 7 + 1 ≤ N0 + 30 ∧ x_sl (N0 + 7) + 96 ≤ x_sl N0 + 13004 ∧ (o < N0 + 8 ∧ (∀ u10, u10 = x_wr (x_nw u9 (N0 + 7)) o 10 (some (N0 + 7)) → (x_sh (N0 + 8) = (20, 96) ∧ N0 + 8 + 1 ≤ N0 + 30 ∧ x_sl (N0 + 8) + 96 ≤ x_sl N0 + 13004 ∧ (o < N0 + 9 ∧ (∀ u11, u11 = x_wr (x_nw u10 (N0 + 8)) o 11 (some (N0 + 8)) → (x_sh (N0 + 9) = (20, 1600) ∧ N0 + 9 + 1 ≤ N0 + 30 ∧ x_sl (N0 + 9) + 1600 ≤ x_sl N0 + 13004 ∧ (o < N0 + 10 ∧ (∀ u12, u12 = x_wr (x_nw u11 (N0 + 9)) o 12 (some (N0 + 9)) → (x_sh (N0 + 10) = (20, 1600) ∧ N0 + 10 + 1 ≤ N0 + 30 ∧ x_sl (N0 + 10) + 1600 ≤ x_sl N0 + 13004 ∧ (o < N0 + 11 ∧ (∀ u13, u13 = x_wr (x_nw u12 (N0 + 10)) o 13 (some (N0 + 10)) → (x_sh (N0 + 11) = (20, 40) ∧ N0 + 11 + 1 ≤ N0 + 30 ∧ x_sl (N0 + 11) + 40 ≤ x_sl N0 + 13004 ∧ (o < N0 + 12 ∧ (∀ u14, u14 = x_wr (x_nw u13 (N0 + 11)) o 23 (some (N0 + 11)) → (x_sh (N0 + 12) = (20, 41) ∧ N0 + 12 + 1 ≤ N0 + 30 ∧ x_sl (N0 + 12) + 41 ≤ x_sl N0 + 13004 ∧ (o < N0 + 13 ∧ (∀ u15, u15 = x_wr (x_nw u14 (N0 + 12)) o 24 (some (N0 + 12)) → (x_sh (N0 + 13) = (20, 80) ∧ N0 + 13 + 1 ≤ N0 + 30 ∧ x_sl (N0 + 13) + 80 ≤ x_sl N0 + 13004 ∧ (o < N0 + 14 ∧ (∀ u16, u16 = x_wr (x_nw u15 (N0 + 13)) o 26 (some (N0 + 13)) → (x_sh (N0 + 14) = (20, 80) ∧ N0 + 14 + 1 ≤ N0 + 30 ∧ x_sl (N0 + 14) + 80 ≤ x_sl N0 + 13004 ∧ (o < N0 + 15 ∧ (∀ u17, u17 = x_wr (x_nw u16 (N0 + 14)) o 27 (some (N0 + 14)) → (x_sh (N0 + 15) = (20, 41) ∧ N0 + 15 + 1 ≤ N0 + 30 ∧ x_sl (N0 + 15) + 41 ≤ x_sl N0 + 13004 ∧ (o < N0 + 16 ∧ (∀ u18, u18 = x_wr (x_nw u17 (N0 + 15)) o 29 (some (N0 + 15)) → (x_sh (N0 + 16) = (20, 24) ∧ N0 + 16 + 1 ≤ N0 + 30 ∧ x_sl (N0 + 16) + 24 ≤ x_sl N0 + 13004 ∧ (o < N0 + 17 ∧ (∀ u19, u19 = x_wr (x_nw u18 (N0 + 16)) o 32 (some (N0 + 16)) → (x_sh (N0 + 17) = (20, 24) ∧ N0 + 17 + 1 ≤ N0 + 30 ∧ x_sl (N0 + 17) + 24 ≤ x_sl N0 + 13004 ∧ (o < N0 + 18 ∧ (∀ u20, u20 = x_wr (x_nw u19 (N0 + 17)) o 33 (some (N0 + 17)) → (x_sh (N0 + 18) = (20, 24) ∧ N0 + 18 + 1 ≤ N0 + 30 ∧ x_sl (N0 + 18) + 24 ≤ x_sl N0 + 13004 ∧ (o < N0 + 19 ∧ (∀ u21, u21 = x_wr (x_nw u20 (N0 + 18)) o 34 (some (N0 + 18)) → (x_sh (N0 + 19) = (20, 24) ∧ N0 + 19 + 1 ≤ N0 + 30 ∧ x_sl (N0 + 19) + 24 ≤ x_sl N0 + 13004 ∧ (o < N0 + 20 ∧ (∀ u22, u22 = x_wr (x_nw u21 (N0 + 19)) o 35 (some (N0 + 19)) → (x_sh (N0 + 20) = (20, 24) ∧ N0 + 20 + 1 ≤ N0 + 30 ∧ x_sl (N0 + 20) + 24 ≤ x_sl N0 + 13004 ∧ (o < N0 + 21 ∧ (∀ u23, u23 = x_wr (x_nw u22 (N0 + 20)) o 36 (some (N0 + 20)) → (x_sh (N0 + 21) = (20, 400) ∧ N0 + 21 + 1 ≤ N0 + 30 ∧ x_sl (N0 + 21) + 400 ≤ x_sl N0 + 13004 ∧ (o < N0 + 22 ∧ (∀ u24, u24 = x_wr (x_nw u23 (N0 + 21)) o 38 (some (N0 + 21)) → (x_sh (N0 + 22) = (20, 400) ∧ N0 + 22 + 1 ≤ N0 + 30 ∧ x_sl (N0 + 22) + 400 ≤ x_sl N0 + 13004 ∧ (o < N0 + 23 ∧ (∀ u25, u25 = x_wr (x_nw u24 (N0 + 22)) o 39 (some (N0 + 22)) → (x_sh (N0 + 23) = (20, 64) ∧ N0 + 23 + 1 ≤ N0 + 30 ∧ x_sl (N0 + 23) + 64 ≤ x_sl N0 + 13004 ∧ (o < N0 + 24 ∧ (∀ u26, u26 = x_wr (x_nw u25 (N0 + 23)) o 40 (some (N0 + 23)) → (x_sh (N0 + 24) = (20, 114) ∧ N0 + 24 + 1 ≤ N0 + 30 ∧ x_sl (N0 + 24) + 114 ≤ x_sl N0 + 13004 ∧ (o < N0 + 25 ∧ (∀ u27, u27 = x_wr (x_nw u26 (N0 + 24)) o 41 (some (N0 + 24)) → (x_sh (N0 + 25) = (20, 12) ∧ N0 + 25 + 1 ≤ N0 + 30 ∧ x_sl (N0 + 25) + 12 ≤ x_sl N0 + 13004 ∧ (o < N0 + 26 ∧ (∀ u28, u28 = x_wr (x_nw u27 (N0 + 25)) o 42 (some (N0 + 25)) → (x_sh (N0 + 26) = (22, 200) ∧ N0 + 26 + 1 ≤ N0 + 30 ∧ x_sl (N0 + 26) + 200 ≤ x_sl N0 + 13004 ∧ (o < N0 + 27 ∧ (∀ u29, u29 = x_wr (x_nw u28 (N0 + 26)) o 43 (some (N0 + 26)) → (x_sh (N0 + 27) = (20, 72) ∧ N0 + 27 + 1 ≤ N0 + 30 ∧ x_sl (N0 + 27) + 72 ≤ x_sl N0 + 13004 ∧ (o < N0 + 28 ∧ (∀ u30, u30 = x_wr (x_nw u29 (N0 + 27)) o 44 (some (N0 + 27)) → (x_sh (N0 + 28) = (20, 8) ∧ N0 + 28 + 1 ≤ N0 + 30 ∧ x_sl (N0 + 28) + 8 ≤ x_sl N0 + 13004 ∧ (o < N0 + 29 ∧ (∀ u31, u31 = x_wr (x_nw u30 (N0 + 28)) o 45 (some (N0 + 28)) → (x_sh (N0 + 29) = (20, 8) ∧ N0 + 29 + 1 ≤ N0 + 30 ∧ x_sl (N0 + 29) + 8 ≤ x_sl N0 + 13004 ∧ (o < N0 + 30 ∧ (∀ u32, u32 = x_wr (x_nw u31 (N0 + 29)) o 46 (some (N0 + 29)) → (o < N0 + 30 ∧ (∃ c33, u32.2.2 o 0 = some c33 ∧ (x_sh c33 = (20, 3670) ∧ c33 < N0 + 30 ∧ vp_in 3 3670 ∧ (∀ u34, u34 = x_wi u32 c33 (3 : Int32).toNatClampNeg (-1) → (o < N0 + 30 ∧ (∃ c35, u34.2.2 o 0 = some c35 ∧ (x_sh c35 = (20, 3670) ∧ c35 < N0 + 30 ∧ vp_in 131 3670 ∧ (∀ u36, u36 = x_wi u34 c35 (131 : Int32).toNatClampNeg (-1) → (o < N0 + 30 ∧ (∃ c37, u36.2.2 o 0 = some c37 ∧ (x_sh c37 = (20, 3670) ∧ c37 < N0 + 30 ∧ vp_in 133 3670 ∧ (∀ u38, u38 = x_wi u36 c37 (133 : Int32).toNatClampNeg (-1) → (o < N0 + 30 ∧ (∃ c39, u38.2.2 o 0 = some c39 ∧ (x_sh c39 = (20, 3670) ∧ c39 < N0 + 30 ∧ vp_in 134 3670 ∧ (∀ u40, u40 = x_wi u38 c39 (134 : Int32).toNatClampNeg 99 → (o < N0 + 30 ∧ (∃ c41, u40.2.2 o 0 = some c41 ∧ (x_sh c41 = (20, 3670) ∧ c41 < N0 + 30 ∧ vp_in 136 3670 ∧ (∀ u42, u42 = x_wi u40 c41 (136 : Int32).toNatClampNeg 89 → (x_Wg (d + 1) mX12_init N0 Q (N0 + 30) 308 [(0, .ref o), (1, .int 0)] [] u42))))))))))))))))))))))))))))))))))))))))))))))))))))))))))))))))))))))))))))))))))))))))))))))))))))))))))))))))))) : x_Mt (d + 1) mX12_init N0 [.ref o] σ Q := by
  refine x_of (by decide) (Nat.le_of_ble_eq_true rfl) ?_
  show x_Wg (d + 1) mX12_init N0 Q N0 0 [(0, .ref o)] [] σ
  refine o_aload_n (k := 0) 0 (by decide +kernel) rfl ?_
  refine o_objInit (i := 1) (by decide +kernel) lc_1356 lc_obj (Nat.le_of_ble_eq_true rfl) ?_
  refine o_aload_n (k := 0) 0 (by decide +kernel) rfl ?_
  refine o_sipush (n := 3670) (v := 3670) (by decide +kernel) (by decide) ?_
  obtain ⟨a1, a2, a3, h⟩ := h
  refine o_newaI (by decide +kernel) lc_176 a1 (by decide) (by decide) (by decide) a2 a3 ?_
  obtain ⟨a1, h⟩ := h
  refine o_putF (t := 12) (k := 0) (i := 7) (by decide +kernel) ho a1 rfl (by decide) rfl rfl rfl rfl (Or.inr ⟨_, rfl⟩) lc_1361 ?_
  refine o_nameS (fun u1 eu1 => ?_)
  replace h := h u1 eu1
  refine o_aload_n (k := 0) 0 (by decide +kernel) rfl ?_
  refine o_sipush (n := 3670) (v := 3670) (by decide +kernel) (by decide) ?_
  obtain ⟨a1, a2, a3, h⟩ := h
  refine o_newaI (by decide +kernel) lc_176 a1 (by decide) (by decide) (by decide) a2 a3 ?_
  obtain ⟨a1, h⟩ := h
  refine o_putF (t := 12) (k := 1) (i := 13) (by decide +kernel) ho a1 rfl (by decide) rfl rfl rfl rfl (Or.inr ⟨_, rfl⟩) lc_1362 ?_
  refine o_nameS (fun u2 eu2 => ?_)
  replace h := h u2 eu2
  refine o_aload_n (k := 0) 0 (by decide +kernel) rfl ?_
  refine o_sipush (n := 300) (v := 300) (by decide +kernel) (by decide) ?_
  obtain ⟨a1, a2, a3, h⟩ := h
  refine o_newaB (by decide +kernel) lc_1042 a1 (by decide) (by decide) (by decide) a2 a3 ?_
  obtain ⟨a1, h⟩ := h
  refine o_putF (t := 12) (k := 2) (i := 16) (by decide +kernel) ho a1 rfl (by decide) rfl rfl rfl rfl (Or.inr ⟨_, rfl⟩) lc_1363 ?_
  refine o_nameS (fun u3 eu3 => ?_)
  replace h := h u3 eu3
  refine o_aload_n (k := 0) 0 (by decide +kernel) rfl ?_
  refine o_iconst (n := -1) (v := (-1)) (by decide +kernel) (by decide) ?_
  obtain ⟨a1, h⟩ := h
  refine o_putI (t := 12) (k := 4) (i := 20) (by decide +kernel) ho a1 rfl (by decide) rfl rfl lc_1365 ?_
  refine o_nameS (fun u4 eu4 => ?_)
  replace h := h u4 eu4
  refine o_aload_n (k := 0) 0 (by decide +kernel) rfl ?_
  refine o_iconst (n := -1) (v := (-1)) (by decide +kernel) (by decide) ?_
  obtain ⟨a1, h⟩ := h
  refine o_putI (t := 12) (k := 5) (i := 24) (by decide +kernel) ho a1 rfl (by decide) rfl rfl lc_1366 ?_
  refine o_nameS (fun u5 eu5 => ?_)
  replace h := h u5 eu5
  refine o_aload_n (k := 0) 0 (by decide +kernel) rfl ?_
  refine o_iconst (n := 4) (v := 4) (by decide +kernel) (by decide) ?_
  obtain ⟨a1, a2, a3, h⟩ := h
  refine o_newaI (by decide +kernel) lc_176 a1 (by decide) (by decide) (by decide) a2 a3 ?_
  obtain ⟨a1, h⟩ := h
  refine o_putF (t := 12) (k := 6) (i := 27) (by decide +kernel) ho a1 rfl (by decide) rfl rfl rfl rfl (Or.inr ⟨_, rfl⟩) lc_1367 ?_
  refine o_nameS (fun u6 eu6 => ?_)
  replace h := h u6 eu6
  refine o_aload_n (k := 0) 0 (by decide +kernel) rfl ?_
  refine o_bipush (n := 96) (v := 96) (by decide +kernel) (by decide) ?_
  obtain ⟨a1, a2, a3, h⟩ := h
  refine o_newaI (by decide +kernel) lc_176 a1 (by decide) (by decide) (by decide) a2 a3 ?_
  obtain ⟨a1, h⟩ := h
  refine o_putF (t := 12) (k := 7) (i := 30) (by decide +kernel) ho a1 rfl (by decide) rfl rfl rfl rfl (Or.inr ⟨_, rfl⟩) lc_1368 ?_
  refine o_nameS (fun u7 eu7 => ?_)
  replace h := h u7 eu7
  refine o_aload_n (k := 0) 0 (by decide +kernel) rfl ?_
  refine o_bipush (n := 96) (v := 96) (by decide +kernel) (by decide) ?_
  obtain ⟨a1, a2, a3, h⟩ := h
  refine o_newaI (by decide +kernel) lc_176 a1 (by decide) (by decide) (by decide) a2 a3 ?_
  obtain ⟨a1, h⟩ := h
  refine o_putF (t := 12) (k := 8) (i := 33) (by decide +kernel) ho a1 rfl (by decide) rfl rfl rfl rfl (Or.inr ⟨_, rfl⟩) lc_1369 ?_
  refine o_nameS (fun u8 eu8 => ?_)
  replace h := h u8 eu8
  refine o_aload_n (k := 0) 0 (by decide +kernel) rfl ?_
  refine o_bipush (n := 96) (v := 96) (by decide +kernel) (by decide) ?_
  obtain ⟨a1, a2, a3, h⟩ := h
  refine o_newaI (by decide +kernel) lc_176 a1 (by decide) (by decide) (by decide) a2 a3 ?_
  obtain ⟨a1, h⟩ := h
  refine o_putF (t := 12) (k := 9) (i := 36) (by decide +kernel) ho a1 rfl (by decide) rfl rfl rfl rfl (Or.inr ⟨_, rfl⟩) lc_1370 ?_
  refine o_nameS (fun u9 eu9 => ?_)
  replace h := h u9 eu9
  refine o_aload_n (k := 0) 0 (by decide +kernel) rfl ?_
  refine o_bipush (n := 96) (v := 96) (by decide +kernel) (by decide) ?_
  obtain ⟨a1, a2, a3, h⟩ := h
  refine o_newaI (by decide +kernel) lc_176 a1 (by decide) (by decide) (by decide) a2 a3 ?_
  obtain ⟨a1, h⟩ := h
  refine o_putF (t := 12) (k := 10) (i := 39) (by decide +kernel) ho a1 rfl (by decide) rfl rfl rfl rfl (Or.inr ⟨_, rfl⟩) lc_1371 ?_
  refine o_nameS (fun u10 eu10 => ?_)
  replace h := h u10 eu10
  refine o_aload_n (k := 0) 0 (by decide +kernel) rfl ?_
  refine o_bipush (n := 96) (v := 96) (by decide +kernel) (by decide) ?_
  obtain ⟨a1, a2, a3, h⟩ := h
  refine o_newaI (by decide +kernel) lc_176 a1 (by decide) (by decide) (by decide) a2 a3 ?_
  obtain ⟨a1, h⟩ := h
  refine o_putF (t := 12) (k := 11) (i := 42) (by decide +kernel) ho a1 rfl (by decide) rfl rfl rfl rfl (Or.inr ⟨_, rfl⟩) lc_1372 ?_
  refine o_nameS (fun u11 eu11 => ?_)
  replace h := h u11 eu11
  refine o_aload_n (k := 0) 0 (by decide +kernel) rfl ?_
  refine o_sipush (n := 1600) (v := 1600) (by decide +kernel) (by decide) ?_
  obtain ⟨a1, a2, a3, h⟩ := h
  refine o_newaI (by decide +kernel) lc_176 a1 (by decide) (by decide) (by decide) a2 a3 ?_
  obtain ⟨a1, h⟩ := h
  refine o_putF (t := 12) (k := 12) (i := 45) (by decide +kernel) ho a1 rfl (by decide) rfl rfl rfl rfl (Or.inr ⟨_, rfl⟩) lc_1373 ?_
  refine o_nameS (fun u12 eu12 => ?_)
  replace h := h u12 eu12
  refine o_aload_n (k := 0) 0 (by decide +kernel) rfl ?_
  refine o_sipush (n := 1600) (v := 1600) (by decide +kernel) (by decide) ?_
  obtain ⟨a1, a2, a3, h⟩ := h
  refine o_newaI (by decide +kernel) lc_176 a1 (by decide) (by decide) (by decide) a2 a3 ?_
  obtain ⟨a1, h⟩ := h
  refine o_putF (t := 12) (k := 13) (i := 48) (by decide +kernel) ho a1 rfl (by decide) rfl rfl rfl rfl (Or.inr ⟨_, rfl⟩) lc_1374 ?_
  refine o_nameS (fun u13 eu13 => ?_)
  replace h := h u13 eu13
  refine o_aload_n (k := 0) 0 (by decide +kernel) rfl ?_
  refine o_bipush (n := 40) (v := 40) (by decide +kernel) (by decide) ?_
  obtain ⟨a1, a2, a3, h⟩ := h
  refine o_newaI (by decide +kernel) lc_176 a1 (by decide) (by decide) (by decide) a2 a3 ?_
  obtain ⟨a1, h⟩ := h
  refine o_putF (t := 12) (k := 23) (i := 51) (by decide +kernel) ho a1 rfl (by decide) rfl rfl rfl rfl (Or.inr ⟨_, rfl⟩) lc_1384 ?_
  refine o_nameS (fun u14 eu14 => ?_)
  replace h := h u14 eu14
  refine o_aload_n (k := 0) 0 (by decide +kernel) rfl ?_
  refine o_bipush (n := 41) (v := 41) (by decide +kernel) (by decide) ?_
  obtain ⟨a1, a2, a3, h⟩ := h
  refine o_newaI (by decide +kernel) lc_176 a1 (by decide) (by decide) (by decide) a2 a3 ?_
  obtain ⟨a1, h⟩ := h
  refine o_putF (t := 12) (k := 24) (i := 54) (by decide +kernel) ho a1 rfl (by decide) rfl rfl rfl rfl (Or.inr ⟨_, rfl⟩) lc_1385 ?_
  refine o_nameS (fun u15 eu15 => ?_)
  replace h := h u15 eu15
  refine o_aload_n (k := 0) 0 (by decide +kernel) rfl ?_
  refine o_bipush (n := 80) (v := 80) (by decide +kernel) (by decide) ?_
  obtain ⟨a1, a2, a3, h⟩ := h
  refine o_newaI (by decide +kernel) lc_176 a1 (by decide) (by decide) (by decide) a2 a3 ?_
  obtain ⟨a1, h⟩ := h
  refine o_putF (t := 12) (k := 26) (i := 57) (by decide +kernel) ho a1 rfl (by decide) rfl rfl rfl rfl (Or.inr ⟨_, rfl⟩) lc_1387 ?_
  refine o_nameS (fun u16 eu16 => ?_)
  replace h := h u16 eu16
  refine o_aload_n (k := 0) 0 (by decide +kernel) rfl ?_
  refine o_bipush (n := 80) (v := 80) (by decide +kernel) (by decide) ?_
  obtain ⟨a1, a2, a3, h⟩ := h
  refine o_newaI (by decide +kernel) lc_176 a1 (by decide) (by decide) (by decide) a2 a3 ?_
  obtain ⟨a1, h⟩ := h
  refine o_putF (t := 12) (k := 27) (i := 60) (by decide +kernel) ho a1 rfl (by decide) rfl rfl rfl rfl (Or.inr ⟨_, rfl⟩) lc_1388 ?_
  refine o_nameS (fun u17 eu17 => ?_)
  replace h := h u17 eu17
  refine o_aload_n (k := 0) 0 (by decide +kernel) rfl ?_
  refine o_bipush (n := 41) (v := 41) (by decide +kernel) (by decide) ?_
  obtain ⟨a1, a2, a3, h⟩ := h
  refine o_newaI (by decide +kernel) lc_176 a1 (by decide) (by decide) (by decide) a2 a3 ?_
  obtain ⟨a1, h⟩ := h
  refine o_putF (t := 12) (k := 29) (i := 63) (by decide +kernel) ho a1 rfl (by decide) rfl rfl rfl rfl (Or.inr ⟨_, rfl⟩) lc_1390 ?_
  refine o_nameS (fun u18 eu18 => ?_)
  replace h := h u18 eu18
  refine o_aload_n (k := 0) 0 (by decide +kernel) rfl ?_
  refine o_bipush (n := 24) (v := 24) (by decide +kernel) (by decide) ?_
  obtain ⟨a1, a2, a3, h⟩ := h
  refine o_newaI (by decide +kernel) lc_176 a1 (by decide) (by decide) (by decide) a2 a3 ?_
  obtain ⟨a1, h⟩ := h
  refine o_putF (t := 12) (k := 32) (i := 66) (by decide +kernel) ho a1 rfl (by decide) rfl rfl rfl rfl (Or.inr ⟨_, rfl⟩) lc_1393 ?_
  refine o_nameS (fun u19 eu19 => ?_)
  replace h := h u19 eu19
  refine o_aload_n (k := 0) 0 (by decide +kernel) rfl ?_
  refine o_bipush (n := 24) (v := 24) (by decide +kernel) (by decide) ?_
  obtain ⟨a1, a2, a3, h⟩ := h
  refine o_newaI (by decide +kernel) lc_176 a1 (by decide) (by decide) (by decide) a2 a3 ?_
  obtain ⟨a1, h⟩ := h
  refine o_putF (t := 12) (k := 33) (i := 69) (by decide +kernel) ho a1 rfl (by decide) rfl rfl rfl rfl (Or.inr ⟨_, rfl⟩) lc_1394 ?_
  refine o_nameS (fun u20 eu20 => ?_)
  replace h := h u20 eu20
  refine o_aload_n (k := 0) 0 (by decide +kernel) rfl ?_
  refine o_bipush (n := 24) (v := 24) (by decide +kernel) (by decide) ?_
  obtain ⟨a1, a2, a3, h⟩ := h
  refine o_newaI (by decide +kernel) lc_176 a1 (by decide) (by decide) (by decide) a2 a3 ?_
  obtain ⟨a1, h⟩ := h
  refine o_putF (t := 12) (k := 34) (i := 72) (by decide +kernel) ho a1 rfl (by decide) rfl rfl rfl rfl (Or.inr ⟨_, rfl⟩) lc_1395 ?_
  refine o_nameS (fun u21 eu21 => ?_)
  replace h := h u21 eu21
  refine o_aload_n (k := 0) 0 (by decide +kernel) rfl ?_
  refine o_bipush (n := 24) (v := 24) (by decide +kernel) (by decide) ?_
  obtain ⟨a1, a2, a3, h⟩ := h
  refine o_newaI (by decide +kernel) lc_176 a1 (by decide) (by decide) (by decide) a2 a3 ?_
  obtain ⟨a1, h⟩ := h
  refine o_putF (t := 12) (k := 35) (i := 75) (by decide +kernel) ho a1 rfl (by decide) rfl rfl rfl rfl (Or.inr ⟨_, rfl⟩) lc_1396 ?_
  refine o_nameS (fun u22 eu22 => ?_)
  replace h := h u22 eu22
  refine o_aload_n (k := 0) 0 (by decide +kernel) rfl ?_
  refine o_bipush (n := 24) (v := 24) (by decide +kernel) (by decide) ?_
  obtain ⟨a1, a2, a3, h⟩ := h
  refine o_newaI (by decide +kernel) lc_176 a1 (by decide) (by decide) (by decide) a2 a3 ?_
  obtain ⟨a1, h⟩ := h
  refine o_putF (t := 12) (k := 36) (i := 78) (by decide +kernel) ho a1 rfl (by decide) rfl rfl rfl rfl (Or.inr ⟨_, rfl⟩) lc_1397 ?_
  refine o_nameS (fun u23 eu23 => ?_)
  replace h := h u23 eu23
  refine o_aload_n (k := 0) 0 (by decide +kernel) rfl ?_
  refine o_sipush (n := 400) (v := 400) (by decide +kernel) (by decide) ?_
  obtain ⟨a1, a2, a3, h⟩ := h
  refine o_newaI (by decide +kernel) lc_176 a1 (by decide) (by decide) (by decide) a2 a3 ?_
  obtain ⟨a1, h⟩ := h
  refine o_putF (t := 12) (k := 38) (i := 81) (by decide +kernel) ho a1 rfl (by decide) rfl rfl rfl rfl (Or.inr ⟨_, rfl⟩) lc_1399 ?_
  refine o_nameS (fun u24 eu24 => ?_)
  replace h := h u24 eu24
  refine o_aload_n (k := 0) 0 (by decide +kernel) rfl ?_
  refine o_sipush (n := 400) (v := 400) (by decide +kernel) (by decide) ?_
  obtain ⟨a1, a2, a3, h⟩ := h
  refine o_newaI (by decide +kernel) lc_176 a1 (by decide) (by decide) (by decide) a2 a3 ?_
  obtain ⟨a1, h⟩ := h
  refine o_putF (t := 12) (k := 39) (i := 84) (by decide +kernel) ho a1 rfl (by decide) rfl rfl rfl rfl (Or.inr ⟨_, rfl⟩) lc_1400 ?_
  refine o_nameS (fun u25 eu25 => ?_)
  replace h := h u25 eu25
  refine o_aload_n (k := 0) 0 (by decide +kernel) rfl ?_
  refine o_bipush (n := 64) (v := 64) (by decide +kernel) (by decide) ?_
  obtain ⟨a1, a2, a3, h⟩ := h
  refine o_newaI (by decide +kernel) lc_176 a1 (by decide) (by decide) (by decide) a2 a3 ?_
  obtain ⟨a1, h⟩ := h
  refine o_putF (t := 12) (k := 40) (i := 87) (by decide +kernel) ho a1 rfl (by decide) rfl rfl rfl rfl (Or.inr ⟨_, rfl⟩) lc_1401 ?_
  refine o_nameS (fun u26 eu26 => ?_)
  replace h := h u26 eu26
  refine o_aload_n (k := 0) 0 (by decide +kernel) rfl ?_
  refine o_bipush (n := 114) (v := 114) (by decide +kernel) (by decide) ?_
  obtain ⟨a1, a2, a3, h⟩ := h
  refine o_newaI (by decide +kernel) lc_176 a1 (by decide) (by decide) (by decide) a2 a3 ?_
  obtain ⟨a1, h⟩ := h
  refine o_putF (t := 12) (k := 41) (i := 90) (by decide +kernel) ho a1 rfl (by decide) rfl rfl rfl rfl (Or.inr ⟨_, rfl⟩) lc_1402 ?_
  refine o_nameS (fun u27 eu27 => ?_)
  replace h := h u27 eu27
  refine o_aload_n (k := 0) 0 (by decide +kernel) rfl ?_
  refine o_bipush (n := 12) (v := 12) (by decide +kernel) (by decide) ?_
  obtain ⟨a1, a2, a3, h⟩ := h
  refine o_newaI (by decide +kernel) lc_176 a1 (by decide) (by decide) (by decide) a2 a3 ?_
  obtain ⟨a1, h⟩ := h
  refine o_putF (t := 12) (k := 42) (i := 93) (by decide +kernel) ho a1 rfl (by decide) rfl rfl rfl rfl (Or.inr ⟨_, rfl⟩) lc_1403 ?_
  refine o_nameS (fun u28 eu28 => ?_)
  replace h := h u28 eu28
  refine o_aload_n (k := 0) 0 (by decide +kernel) rfl ?_
  refine o_sipush (n := 200) (v := 200) (by decide +kernel) (by decide) ?_
  obtain ⟨a1, a2, a3, h⟩ := h
  refine o_newaJ (by decide +kernel) lc_1503 a1 (by decide) (by decide) (by decide) a2 a3 ?_
  obtain ⟨a1, h⟩ := h
  refine o_putF (t := 12) (k := 43) (i := 96) (by decide +kernel) ho a1 rfl (by decide) rfl rfl rfl rfl (Or.inr ⟨_, rfl⟩) lc_1404 ?_
  refine o_nameS (fun u29 eu29 => ?_)
  replace h := h u29 eu29
  refine o_aload_n (k := 0) 0 (by decide +kernel) rfl ?_
  refine o_bipush (n := 72) (v := 72) (by decide +kernel) (by decide) ?_
  obtain ⟨a1, a2, a3, h⟩ := h
  refine o_newaI (by decide +kernel) lc_176 a1 (by decide) (by decide) (by decide) a2 a3 ?_
  obtain ⟨a1, h⟩ := h
  refine o_putF (t := 12) (k := 44) (i := 100) (by decide +kernel) ho a1 rfl (by decide) rfl rfl rfl rfl (Or.inr ⟨_, rfl⟩) lc_1405 ?_
  refine o_nameS (fun u30 eu30 => ?_)
  replace h := h u30 eu30
  refine o_aload_n (k := 0) 0 (by decide +kernel) rfl ?_
  refine o_bipush (n := 8) (v := 8) (by decide +kernel) (by decide) ?_
  obtain ⟨a1, a2, a3, h⟩ := h
  refine o_newaI (by decide +kernel) lc_176 a1 (by decide) (by decide) (by decide) a2 a3 ?_
  obtain ⟨a1, h⟩ := h
  refine o_putF (t := 12) (k := 45) (i := 103) (by decide +kernel) ho a1 rfl (by decide) rfl rfl rfl rfl (Or.inr ⟨_, rfl⟩) lc_1406 ?_
  refine o_nameS (fun u31 eu31 => ?_)
  replace h := h u31 eu31
  refine o_aload_n (k := 0) 0 (by decide +kernel) rfl ?_
  refine o_bipush (n := 8) (v := 8) (by decide +kernel) (by decide) ?_
  obtain ⟨a1, a2, a3, h⟩ := h
  refine o_newaI (by decide +kernel) lc_176 a1 (by decide) (by decide) (by decide) a2 a3 ?_
  obtain ⟨a1, h⟩ := h
  refine o_putF (t := 12) (k := 46) (i := 106) (by decide +kernel) ho a1 rfl (by decide) rfl rfl rfl rfl (Or.inr ⟨_, rfl⟩) lc_1407 ?_
  refine o_nameS (fun u32 eu32 => ?_)
  replace h := h u32 eu32
  refine o_aload_n (k := 0) 0 (by decide +kernel) rfl ?_
  obtain ⟨a1, c33, ec33, h⟩ := h
  refine o_get (v := .ref c33) (t := 12) (k := 0) (i := 7) (by decide +kernel) ho a1 rfl (by decide) lc_1361 (by simp [x_av, x_ty, tyX12, ec33, x_rf]) ?_
  refine o_iconst (n := 3) (v := 3) (by decide +kernel) (by decide) ?_
  refine o_iconst (n := -1) (v := (-1)) (by decide +kernel) (by decide) ?_
  obtain ⟨a1, a2, a3, h⟩ := h
  refine o_iast (by decide +kernel) a1 a2 a3 ?_
  refine o_nameS (fun u34 eu34 => ?_)
  replace h := h u34 eu34
  refine o_aload_n (k := 0) 0 (by decide +kernel) rfl ?_
  obtain ⟨a1, c35, ec35, h⟩ := h
  refine o_get (v := .ref c35) (t := 12) (k := 0) (i := 7) (by decide +kernel) ho a1 rfl (by decide) lc_1361 (by simp [x_av, x_ty, tyX12, ec35, x_rf]) ?_
  refine o_sipush (n := 131) (v := 131) (by decide +kernel) (by decide) ?_
  refine o_iconst (n := -1) (v := (-1)) (by decide +kernel) (by decide) ?_
  obtain ⟨a1, a2, a3, h⟩ := h
  refine o_iast (by decide +kernel) a1 a2 a3 ?_
  refine o_nameS (fun u36 eu36 => ?_)
  replace h := h u36 eu36
  refine o_aload_n (k := 0) 0 (by decide +kernel) rfl ?_
  obtain ⟨a1, c37, ec37, h⟩ := h
  refine o_get (v := .ref c37) (t := 12) (k := 0) (i := 7) (by decide +kernel) ho a1 rfl (by decide) lc_1361 (by simp [x_av, x_ty, tyX12, ec37, x_rf]) ?_
  refine o_sipush (n := 133) (v := 133) (by decide +kernel) (by decide) ?_
  refine o_iconst (n := -1) (v := (-1)) (by decide +kernel) (by decide) ?_
  obtain ⟨a1, a2, a3, h⟩ := h
  refine o_iast (by decide +kernel) a1 a2 a3 ?_
  refine o_nameS (fun u38 eu38 => ?_)
  replace h := h u38 eu38
  refine o_aload_n (k := 0) 0 (by decide +kernel) rfl ?_
  obtain ⟨a1, c39, ec39, h⟩ := h
  refine o_get (v := .ref c39) (t := 12) (k := 0) (i := 7) (by decide +kernel) ho a1 rfl (by decide) lc_1361 (by simp [x_av, x_ty, tyX12, ec39, x_rf]) ?_
  refine o_sipush (n := 134) (v := 134) (by decide +kernel) (by decide) ?_
  refine o_bipush (n := 99) (v := 99) (by decide +kernel) (by decide) ?_
  obtain ⟨a1, a2, a3, h⟩ := h
  refine o_iast (by decide +kernel) a1 a2 a3 ?_
  refine o_nameS (fun u40 eu40 => ?_)
  replace h := h u40 eu40
  refine o_aload_n (k := 0) 0 (by decide +kernel) rfl ?_
  obtain ⟨a1, c41, ec41, h⟩ := h
  refine o_get (v := .ref c41) (t := 12) (k := 0) (i := 7) (by decide +kernel) ho a1 rfl (by decide) lc_1361 (by simp [x_av, x_ty, tyX12, ec41, x_rf]) ?_
  refine o_sipush (n := 136) (v := 136) (by decide +kernel) (by decide) ?_
  refine o_bipush (n := 89) (v := 89) (by decide +kernel) (by decide) ?_
  obtain ⟨a1, a2, a3, h⟩ := h
  refine o_iast (by decide +kernel) a1 a2 a3 ?_
  refine o_nameS (fun u42 eu42 => ?_)
  replace h := h u42 eu42
  refine o_iconst (n := 0) (v := 0) (by decide +kernel) (by decide) ?_
  refine o_istore_n (k := 1) (L' := [(1, .int 0), (0, .ref o)]) (by decide +kernel) (by decide) rfl ?_
  refine o_sub [1, 0] rfl ?_
  exact h
set_option maxRecDepth 20000 in
theorem k_X12_init_308 {d : Nat} {N0 N : Nat} {Q : x_S → Option Value → Prop} {o : Nat} (ho : x_sh o = (12, 47)) {v1 : Int32} {σ : x_S} (h : (8 ≤ v1 → o < N ∧ (x_Mt d mX12_copies N [.ref o, .int 1] σ (fun u1 r => r = none ∧ (N = N0 + 30 ∧ Q u1 none)))) ∧ (¬ 8 ≤ v1 → o < N ∧ (∃ c2, σ.2.2 o 0 = some c2 ∧ (x_sh c2 = (20, 3670) ∧ c2 < N ∧ vp_in (22 + v1) 3670 ∧ (∀ u3, u3 = x_wi σ c2 (22 + v1).toNatClampNeg 1 → (∀ y4, y4 = v1 + 1 → (x_Wg (d + 1) mX12_init N0 Q N 308 [(0, .ref o), (1, .int y4)] [] u3))))))) : x_Wg (d + 1) mX12_init N0 Q N 308 [(0, .ref o), (1, .int v1)] [] σ := by
  refine o_iload_n (k := 1) 1 (by decide +kernel) rfl ?_
  refine o_bipush (n := 8) (v := 8) (by decide +kernel) (by decide) ?_
  refine o_icmp_ge (off := 19) 330 (by decide +kernel) (by decide) (fun q => ?_) (fun q => ?_)
  · replace h := h.1 q
    refine o_aload_n (k := 0) 0 (by decide +kernel) rfl ?_
    refine o_iconst (n := 1) (v := 1) (by decide +kernel) (by decide) ?_
    obtain ⟨a1, h⟩ := h
    refine o_callV (t := 12) (μ' := mX12_copies) (i := 109) (vs := [.int 1]) (by decide +kernel) lc_1357 vok_mX12_copies ho a1 rfl rfl rfl rfl (Nat.le_of_ble_eq_true rfl) ?_
    refine x_Mt.mono h (fun u1 r h => ?_)
    obtain ⟨hr, h⟩ := h
    subst hr
    exact o_vret rfl (by decide +kernel) h.1 h.2
  · replace h := h.2 q
    refine o_aload_n (k := 0) 0 (by decide +kernel) rfl ?_
    obtain ⟨a1, c2, ec2, h⟩ := h
    refine o_get (v := .ref c2) (t := 12) (k := 0) (i := 7) (by decide +kernel) ho a1 rfl (by decide) lc_1361 (by simp [x_av, x_ty, tyX12, ec2, x_rf]) ?_
    refine o_bipush (n := 22) (v := 22) (by decide +kernel) (by decide) ?_
    refine o_iload_n (k := 1) 1 (by decide +kernel) rfl ?_
    refine o_iadd (by decide +kernel) ?_
    refine o_iconst (n := 1) (v := 1) (by decide +kernel) (by decide) ?_
    obtain ⟨a1, a2, a3, h⟩ := h
    refine o_iast (by decide +kernel) a1 a2 a3 ?_
    refine o_nameS (fun u3 eu3 => ?_)
    replace h := h u3 eu3
    obtain ⟨y4, ey4⟩ : ∃ y : Int32, y = v1 + 1 := ⟨_, rfl⟩
    replace h := h y4 ey4
    refine o_iinc (i := 1) (n := 1) (v := y4) (L' := [(1, .int y4), (0, .ref o)]) 1 (by decide +kernel) rfl (by rw [ey4]; rfl) (by decide) rfl ?_
    refine o_goto (off := -19) 308 (by decide +kernel) (by decide) ?_
    refine o_sub [1, 0] rfl ?_
    exact h
set_option maxRecDepth 20000 in
theorem e_X0_init {d : Nat} {N0 : Nat} {Q : x_S → Option Value → Prop} {o : Nat} (ho : x_sh o = (0, 3)) {r1 : Nat} {r2 : Nat} {σ : x_S} (h : x_sh N0 = (20, 8) ∧ N0 + 1 ≤ N0 + 1 ∧ x_sl N0 + 8 ≤ x_sl N0 + 8 ∧ (o < N0 + 1 ∧ (∀ u1, u1 = x_wr (x_nw σ N0) o 2 (some N0) → (o < N0 + 1 ∧ (∀ u2, u2 = x_wr u1 o 0 (some r1) → (o < N0 + 1 ∧ (∀ u3, u3 = x_wr u2 o 1 (some r2) → (N0 + 1 = N0 + 1 ∧ Q u3 none)))))))) : x_Mt (d + 1) mX0_init N0 [.ref o, .ref r1, .ref r2] σ Q := by
  refine x_of (by decide) (Nat.le_of_ble_eq_true rfl) ?_
  show x_Wg (d + 1) mX0_init N0 Q N0 0 [(0, .ref o), (1, .ref r1), (2, .ref r2)] [] σ
  refine o_aload_n (k := 0) 0 (by decide +kernel) rfl ?_
  refine o_objInit (i := 3) (by decide +kernel) lc_479 lc_obj (Nat.le_of_ble_eq_true rfl) ?_
  refine o_aload_n (k := 0) 0 (by decide +kernel) rfl ?_
  refine o_bipush (n := 8) (v := 8) (by decide +kernel) (by decide) ?_
  obtain ⟨a1, a2, a3, h⟩ := h
  refine o_newaI (by decide +kernel) lc_176 a1 (by decide) (by decide) (by decide) a2 a3 ?_
  obtain ⟨a1, h⟩ := h
  refine o_putF (t := 0) (k := 2) (i := 9) (by decide +kernel) ho a1 rfl (by decide) rfl rfl rfl rfl (Or.inr ⟨_, rfl⟩) lc_482 ?_
  refine o_nameS (fun u1 eu1 => ?_)
  replace h := h u1 eu1
  refine o_aload_n (k := 0) 0 (by decide +kernel) rfl ?_
  refine o_aload_n (k := 1) 1 (by decide +kernel) rfl ?_
  obtain ⟨a1, h⟩ := h
  refine o_putF (t := 0) (k := 0) (i := 15) (by decide +kernel) ho a1 rfl (by decide) rfl rfl rfl rfl (Or.inl ⟨_, rfl⟩) lc_480 ?_
  refine o_nameS (fun u2 eu2 => ?_)
  replace h := h u2 eu2
  refine o_aload_n (k := 0) 0 (by decide +kernel) rfl ?_
  refine o_aload_n (k := 2) 2 (by decide +kernel) rfl ?_
  obtain ⟨a1, h⟩ := h
  refine o_putF (t := 0) (k := 1) (i := 19) (by decide +kernel) ho a1 rfl (by decide) rfl rfl rfl rfl (Or.inl ⟨_, rfl⟩) lc_481 ?_
  refine o_nameS (fun u3 eu3 => ?_)
  replace h := h u3 eu3
  exact o_vret rfl (by decide +kernel) h.1 h.2
set_option maxRecDepth 20000 in
theorem e_X1_init {d : Nat} {N0 : Nat} {Q : x_S → Option Value → Prop} {o : Nat} (ho : x_sh o = (1, 11)) {σ : x_S} (h : o < N0 ∧ (∀ u1, u1 = x_wi σ o 1 (-1) → (o < N0 ∧ (∀ u2, u2 = x_wi u1 o 3 (-1) → (o < N0 ∧ (∀ u3, u3 = x_wi u2 o 4 99 → (o < N0 ∧ (∀ u4, u4 = x_wi u3 o 6 89 → (x_sh N0 = (20, 8) ∧ N0 + 1 ≤ N0 + 3 ∧ x_sl N0 + 8 ≤ x_sl N0 + 106 ∧ (o < N0 + 1 ∧ (∀ u5, u5 = x_wr (x_nw u4 N0) o 7 (some N0) → (x_sh (N0 + 1) = (20, 8) ∧ N0 + 1 + 1 ≤ N0 + 3 ∧ x_sl (N0 + 1) + 8 ≤ x_sl N0 + 106 ∧ (o < N0 + 2 ∧ (∀ u6, u6 = x_wr (x_nw u5 (N0 + 1)) o 8 (some (N0 + 1)) → (x_sh (N0 + 2) = (20, 90) ∧ N0 + 2 + 1 ≤ N0 + 3 ∧ x_sl (N0 + 2) + 90 ≤ x_sl N0 + 106 ∧ (o < N0 + 3 ∧ (∀ u7, u7 = x_wr (x_nw u6 (N0 + 2)) o 10 (some (N0 + 2)) → (N0 + 3 = N0 + 3 ∧ Q u7 none)))))))))))))))))) : x_Mt (d + 1) mX1_init N0 [.ref o] σ Q := by
  refine x_of (by decide) (Nat.le_of_ble_eq_true rfl) ?_
  show x_Wg (d + 1) mX1_init N0 Q N0 0 [(0, .ref o)] [] σ
  refine o_aload_n (k := 0) 0 (by decide +kernel) rfl ?_
  refine o_objInit (i := 3) (by decide +kernel) lc_224 lc_obj (Nat.le_of_ble_eq_true rfl) ?_
  refine o_aload_n (k := 0) 0 (by decide +kernel) rfl ?_
  refine o_iconst (n := -1) (v := (-1)) (by decide +kernel) (by decide) ?_
  obtain ⟨a1, h⟩ := h
  refine o_putI (t := 1) (k := 1) (i := 9) (by decide +kernel) ho a1 rfl (by decide) rfl rfl lc_230 ?_
  refine o_nameS (fun u1 eu1 => ?_)
  replace h := h u1 eu1
  refine o_aload_n (k := 0) 0 (by decide +kernel) rfl ?_
  refine o_iconst (n := -1) (v := (-1)) (by decide +kernel) (by decide) ?_
  obtain ⟨a1, h⟩ := h
  refine o_putI (t := 1) (k := 3) (i := 15) (by decide +kernel) ho a1 rfl (by decide) rfl rfl lc_237 ?_
  refine o_nameS (fun u2 eu2 => ?_)
  replace h := h u2 eu2
  refine o_aload_n (k := 0) 0 (by decide +kernel) rfl ?_
  refine o_bipush (n := 99) (v := 99) (by decide +kernel) (by decide) ?_
  obtain ⟨a1, h⟩ := h
  refine o_putI (t := 1) (k := 4) (i := 18) (by decide +kernel) ho a1 rfl (by decide) rfl rfl lc_240 ?_
  refine o_nameS (fun u3 eu3 => ?_)
  replace h := h u3 eu3
  refine o_aload_n (k := 0) 0 (by decide +kernel) rfl ?_
  refine o_bipush (n := 89) (v := 89) (by decide +kernel) (by decide) ?_
  obtain ⟨a1, h⟩ := h
  refine o_putI (t := 1) (k := 6) (i := 21) (by decide +kernel) ho a1 rfl (by decide) rfl rfl lc_248 ?_
  refine o_nameS (fun u4 eu4 => ?_)
  replace h := h u4 eu4
  refine o_aload_n (k := 0) 0 (by decide +kernel) rfl ?_
  refine o_bipush (n := 8) (v := 8) (by decide +kernel) (by decide) ?_
  obtain ⟨a1, a2, a3, h⟩ := h
  refine o_newaI (by decide +kernel) lc_176 a1 (by decide) (by decide) (by decide) a2 a3 ?_
  obtain ⟨a1, h⟩ := h
  refine o_putF (t := 1) (k := 7) (i := 24) (by decide +kernel) ho a1 rfl (by decide) rfl rfl rfl rfl (Or.inr ⟨_, rfl⟩) lc_250 ?_
  refine o_nameS (fun u5 eu5 => ?_)
  replace h := h u5 eu5
  refine o_aload_n (k := 0) 0 (by decide +kernel) rfl ?_
  refine o_bipush (n := 8) (v := 8) (by decide +kernel) (by decide) ?_
  obtain ⟨a1, a2, a3, h⟩ := h
  refine o_newaI (by decide +kernel) lc_176 a1 (by decide) (by decide) (by decide) a2 a3 ?_
  obtain ⟨a1, h⟩ := h
  refine o_putF (t := 1) (k := 8) (i := 28) (by decide +kernel) ho a1 rfl (by decide) rfl rfl rfl rfl (Or.inr ⟨_, rfl⟩) lc_252 ?_
  refine o_nameS (fun u6 eu6 => ?_)
  replace h := h u6 eu6
  refine o_aload_n (k := 0) 0 (by decide +kernel) rfl ?_
  refine o_bipush (n := 90) (v := 90) (by decide +kernel) (by decide) ?_
  obtain ⟨a1, a2, a3, h⟩ := h
  refine o_newaI (by decide +kernel) lc_176 a1 (by decide) (by decide) (by decide) a2 a3 ?_
  obtain ⟨a1, h⟩ := h
  refine o_putF (t := 1) (k := 10) (i := 31) (by decide +kernel) ho a1 rfl (by decide) rfl rfl rfl rfl (Or.inr ⟨_, rfl⟩) lc_256 ?_
  refine o_nameS (fun u7 eu7 => ?_)
  replace h := h u7 eu7
  exact o_vret rfl (by decide +kernel) h.1 h.2
set_option maxRecDepth 20000 in
theorem e_X2_init {d : Nat} {N0 : Nat} {Q : x_S → Option Value → Prop} {o : Nat} (ho : x_sh o = (2, 2)) {r1 : Nat} {r2 : Nat} {σ : x_S} (h : o < N0 ∧ (∀ u1, u1 = x_wr σ o 0 (some r1) → (o < N0 ∧ (∀ u2, u2 = x_wr u1 o 1 (some r2) → (N0 = N0 + 0 ∧ Q u2 none))))) : x_Mt (d + 1) mX2_init N0 [.ref o, .ref r1, .ref r2] σ Q := by
  refine x_of (by decide) (Nat.le_of_ble_eq_true rfl) ?_
  show x_Wg (d + 1) mX2_init N0 Q N0 0 [(0, .ref o), (1, .ref r1), (2, .ref r2)] [] σ
  refine o_aload_n (k := 0) 0 (by decide +kernel) rfl ?_
  refine o_objInit (i := 3) (by decide +kernel) lc_428 lc_obj (Nat.le_of_ble_eq_true rfl) ?_
  refine o_aload_n (k := 0) 0 (by decide +kernel) rfl ?_
  refine o_aload_n (k := 1) 1 (by decide +kernel) rfl ?_
  obtain ⟨a1, h⟩ := h
  refine o_putF (t := 2) (k := 0) (i := 9) (by decide +kernel) ho a1 rfl (by decide) rfl rfl rfl rfl (Or.inl ⟨_, rfl⟩) lc_429 ?_
  refine o_nameS (fun u1 eu1 => ?_)
  replace h := h u1 eu1
  refine o_aload_n (k := 0) 0 (by decide +kernel) rfl ?_
  refine o_aload_n (k := 2) 2 (by decide +kernel) rfl ?_
  obtain ⟨a1, h⟩ := h
  refine o_putF (t := 2) (k := 1) (i := 15) (by decide +kernel) ho a1 rfl (by decide) rfl rfl rfl rfl (Or.inl ⟨_, rfl⟩) lc_430 ?_
  refine o_nameS (fun u2 eu2 => ?_)
  replace h := h u2 eu2
  exact o_vret rfl (by decide +kernel) h.1 h.2
set_option maxRecDepth 20000 in
theorem e_X3_init {d : Nat} {N0 : Nat} {Q : x_S → Option Value → Prop} {o : Nat} (ho : x_sh o = (3, 9)) {σ : x_S} (h : x_sh N0 = (20, 8) ∧ N0 + 1 ≤ N0 + 11 ∧ x_sl N0 + 8 ≤ x_sl N0 + 186 ∧ (o < N0 + 1 ∧ (∀ u1, u1 = x_wr (x_nw σ N0) o 2 (some N0) → (x_sh (N0 + 1) = (20, 8) ∧ N0 + 1 + 1 ≤ N0 + 11 ∧ x_sl (N0 + 1) + 8 ≤ x_sl N0 + 186 ∧ (o < N0 + 2 ∧ (∀ u2, u2 = x_wr (x_nw u1 (N0 + 1)) o 3 (some (N0 + 1)) → (x_sh (N0 + 2) = (20, 4) ∧ N0 + 2 + 1 ≤ N0 + 11 ∧ x_sl (N0 + 2) + 4 ≤ x_sl N0 + 186 ∧ (o < N0 + 3 ∧ (∀ u3, u3 = x_wr (x_nw u2 (N0 + 2)) o 4 (some (N0 + 2)) → (x_sh (N0 + 3) = (20, 64) ∧ N0 + 3 + 1 ≤ N0 + 11 ∧ x_sl (N0 + 3) + 64 ≤ x_sl N0 + 186 ∧ (o < N0 + 4 ∧ (∀ u4, u4 = x_wr (x_nw u3 (N0 + 3)) o 5 (some (N0 + 3)) → (x_sh (N0 + 4) = (20, 64) ∧ N0 + 4 + 1 ≤ N0 + 11 ∧ x_sl (N0 + 4) + 64 ≤ x_sl N0 + 186 ∧ (o < N0 + 5 ∧ (∀ u5, u5 = x_wr (x_nw u4 (N0 + 4)) o 6 (some (N0 + 4)) → (x_sh (N0 + 5) = (5, 3) ∧ N0 + 5 + 1 ≤ N0 + 11 ∧ x_sl (N0 + 5) + 3 ≤ x_sl N0 + 186 ∧ (N0 + 6 + 2 ≤ N0 + 11 ∧ x_sl (N0 + 6) + 16 ≤ x_sl N0 + 186 ∧ x_sl (N0 + 6 + 2) = x_sl (N0 + 6) + 16 ∧ (x_Mt d mX5_init (N0 + 6) [.ref (N0 + 5)] (x_nw u5 (N0 + 5)) (fun u6 r => r = none ∧ (o < N0 + 8 ∧ (∀ u7, u7 = x_wr u6 o 7 (some (N0 + 5)) → (x_sh (N0 + 8) = (5, 3) ∧ N0 + 8 + 1 ≤ N0 + 11 ∧ x_sl (N0 + 8) + 3 ≤ x_sl N0 + 186 ∧ (N0 + 9 + 2 ≤ N0 + 11 ∧ x_sl (N0 + 9) + 16 ≤ x_sl N0 + 186 ∧ x_sl (N0 + 9 + 2) = x_sl (N0 + 9) + 16 ∧ (x_Mt d mX5_init (N0 + 9) [.ref (N0 + 8)] (x_nw u7 (N0 + 8)) (fun u8 r => r = none ∧ (o < N0 + 11 ∧ (∀ u9, u9 = x_wr u8 o 8 (some (N0 + 8)) → (N0 + 11 = N0 + 11 ∧ Q u9 none)))))))))))))))))))))))))))) : x_Mt (d + 1) mX3_init N0 [.ref o] σ Q := by
  refine x_of (by decide) (Nat.le_of_ble_eq_true rfl) ?_
  show x_Wg (d + 1) mX3_init N0 Q N0 0 [(0, .ref o)] [] σ
  refine o_aload_n (k := 0) 0 (by decide +kernel) rfl ?_
  refine o_objInit (i := 3) (by decide +kernel) lc_149 lc_obj (Nat.le_of_ble_eq_true rfl) ?_
  refine o_aload_n (k := 0) 0 (by decide +kernel) rfl ?_
  refine o_bipush (n := 8) (v := 8) (by decide +kernel) (by decide) ?_
  obtain ⟨a1, a2, a3, h⟩ := h
  refine o_newaI (by decide +kernel) lc_176 a1 (by decide) (by decide) (by decide) a2 a3 ?_
  obtain ⟨a1, h⟩ := h
  refine o_putF (t := 3) (k := 2) (i := 9) (by decide +kernel) ho a1 rfl (by decide) rfl rfl rfl rfl (Or.inr ⟨_, rfl⟩) lc_185 ?_
  refine o_nameS (fun u1 eu1 => ?_)
  replace h := h u1 eu1
  refine o_aload_n (k := 0) 0 (by decide +kernel) rfl ?_
  refine o_bipush (n := 8) (v := 8) (by decide +kernel) (by decide) ?_
  obtain ⟨a1, a2, a3, h⟩ := h
  refine o_newaI (by decide +kernel) lc_176 a1 (by decide) (by decide) (by decide) a2 a3 ?_
  obtain ⟨a1, h⟩ := h
  refine o_putF (t := 3) (k := 3) (i := 15) (by decide +kernel) ho a1 rfl (by decide) rfl rfl rfl rfl (Or.inr ⟨_, rfl⟩) lc_187 ?_
  refine o_nameS (fun u2 eu2 => ?_)
  replace h := h u2 eu2
  refine o_aload_n (k := 0) 0 (by decide +kernel) rfl ?_
  refine o_iconst (n := 4) (v := 4) (by decide +kernel) (by decide) ?_
  obtain ⟨a1, a2, a3, h⟩ := h
  refine o_newaI (by decide +kernel) lc_176 a1 (by decide) (by decide) (by decide) a2 a3 ?_
  obtain ⟨a1, h⟩ := h
  refine o_putF (t := 3) (k := 4) (i := 18) (by decide +kernel) ho a1 rfl (by decide) rfl rfl rfl rfl (Or.inr ⟨_, rfl⟩) lc_190 ?_
  refine o_nameS (fun u3 eu3 => ?_)
  replace h := h u3 eu3
  refine o_aload_n (k := 0) 0 (by decide +kernel) rfl ?_
  refine o_bipush (n := 64) (v := 64) (by decide +kernel) (by decide) ?_
  obtain ⟨a1, a2, a3, h⟩ := h
  refine o_newaI (by decide +kernel) lc_176 a1 (by decide) (by decide) (by decide) a2 a3 ?_
  obtain ⟨a1, h⟩ := h
  refine o_putF (t := 3) (k := 5) (i := 21) (by decide +kernel) ho a1 rfl (by decide) rfl rfl rfl rfl (Or.inr ⟨_, rfl⟩) lc_191 ?_
  refine o_nameS (fun u4 eu4 => ?_)
  replace h := h u4 eu4
  refine o_aload_n (k := 0) 0 (by decide +kernel) rfl ?_
  refine o_bipush (n := 64) (v := 64) (by decide +kernel) (by decide) ?_
  obtain ⟨a1, a2, a3, h⟩ := h
  refine o_newaI (by decide +kernel) lc_176 a1 (by decide) (by decide) (by decide) a2 a3 ?_
  obtain ⟨a1, h⟩ := h
  refine o_putF (t := 3) (k := 6) (i := 24) (by decide +kernel) ho a1 rfl (by decide) rfl rfl rfl rfl (Or.inr ⟨_, rfl⟩) lc_192 ?_
  refine o_nameS (fun u5 eu5 => ?_)
  replace h := h u5 eu5
  refine o_aload_n (k := 0) 0 (by decide +kernel) rfl ?_
  obtain ⟨a1, a2, a3, h⟩ := h
  refine o_new (t := 5) (i := 27) (by decide +kernel) lc_150 lc_151 lc_117 a1 rfl a2 a3 ?_
  refine o_dup (by decide +kernel) rfl ?_
  obtain ⟨a1, a2, a3, h⟩ := h
  refine o_callIN (o := N0 + 5) (μ' := mX5_init) (i := 29) (hn0 := "NoonOnABarrow") (vs := []) rfl (by decide +kernel) (by decide +kernel) cok_mX5_init lc_ins_mX5_init rfl rfl rfl (Nat.le_of_ble_eq_true rfl) a1 a2 a3 ?_
  refine x_Mt.mono h (fun u6 r h => ?_)
  obtain ⟨hr, h⟩ := h
  subst hr
  obtain ⟨a1, h⟩ := h
  refine o_putF (t := 3) (k := 7) (i := 30) (by decide +kernel) ho a1 rfl (by decide) rfl rfl rfl rfl (Or.inl ⟨_, rfl⟩) lc_193 ?_
  refine o_nameS (fun u7 eu7 => ?_)
  replace h := h u7 eu7
  refine o_aload_n (k := 0) 0 (by decide +kernel) rfl ?_
  obtain ⟨a1, a2, a3, h⟩ := h
  refine o_new (t := 5) (i := 27) (by decide +kernel) lc_150 lc_151 lc_117 a1 rfl a2 a3 ?_
  refine o_dup (by decide +kernel) rfl ?_
  obtain ⟨a1, a2, a3, h⟩ := h
  refine o_callIN (o := N0 + 8) (μ' := mX5_init) (i := 29) (hn0 := "NoonOnABarrow") (vs := []) rfl (by decide +kernel) (by decide +kernel) cok_mX5_init lc_ins_mX5_init rfl rfl rfl (Nat.le_of_ble_eq_true rfl) a1 a2 a3 ?_
  refine x_Mt.mono h (fun u8 r h => ?_)
  obtain ⟨hr, h⟩ := h
  subst hr
  obtain ⟨a1, h⟩ := h
  refine o_putF (t := 3) (k := 8) (i := 34) (by decide +kernel) ho a1 rfl (by decide) rfl rfl rfl rfl (Or.inl ⟨_, rfl⟩) lc_197 ?_
  refine o_nameS (fun u9 eu9 => ?_)
  replace h := h u9 eu9
  exact o_vret rfl (by decide +kernel) h.1 h.2
set_option maxRecDepth 20000 in
theorem e_X4_init {d : Nat} {N0 : Nat} {Q : x_S → Option Value → Prop} {o : Nat} (ho : x_sh o = (4, 5)) {r1 : Nat} {σ : x_S} (h : x_sh N0 = (20, 32) ∧ N0 + 1 ≤ N0 + 2 ∧ x_sl N0 + 32 ≤ x_sl N0 + 96 ∧ (o < N0 + 1 ∧ (∀ u1, u1 = x_wr (x_nw σ N0) o 1 (some N0) → (x_sh (N0 + 1) = (20, 64) ∧ N0 + 1 + 1 ≤ N0 + 2 ∧ x_sl (N0 + 1) + 64 ≤ x_sl N0 + 96 ∧ (o < N0 + 2 ∧ (∀ u2, u2 = x_wr (x_nw u1 (N0 + 1)) o 2 (some (N0 + 1)) → (o < N0 + 2 ∧ (∀ u3, u3 = x_wr u2 o 0 (some r1) → (N0 + 2 = N0 + 2 ∧ Q u3 none))))))))) : x_Mt (d + 1) mX4_init N0 [.ref o, .ref r1] σ Q := by
  refine x_of (by decide) (Nat.le_of_ble_eq_true rfl) ?_
  show x_Wg (d + 1) mX4_init N0 Q N0 0 [(0, .ref o), (1, .ref r1)] [] σ
  refine o_aload_n (k := 0) 0 (by decide +kernel) rfl ?_
  refine o_objInit (i := 3) (by decide +kernel) lc_405 lc_obj (Nat.le_of_ble_eq_true rfl) ?_
  refine o_aload_n (k := 0) 0 (by decide +kernel) rfl ?_
  refine o_bipush (n := 32) (v := 32) (by decide +kernel) (by decide) ?_
  obtain ⟨a1, a2, a3, h⟩ := h
  refine o_newaI (by decide +kernel) lc_176 a1 (by decide) (by decide) (by decide) a2 a3 ?_
  obtain ⟨a1, h⟩ := h
  refine o_putF (t := 4) (k := 1) (i := 9) (by decide +kernel) ho a1 rfl (by decide) rfl rfl rfl rfl (Or.inr ⟨_, rfl⟩) lc_407 ?_
  refine o_nameS (fun u1 eu1 => ?_)
  replace h := h u1 eu1
  refine o_aload_n (k := 0) 0 (by decide +kernel) rfl ?_
  refine o_bipush (n := 64) (v := 64) (by decide +kernel) (by decide) ?_
  obtain ⟨a1, a2, a3, h⟩ := h
  refine o_newaI (by decide +kernel) lc_176 a1 (by decide) (by decide) (by decide) a2 a3 ?_
  obtain ⟨a1, h⟩ := h
  refine o_putF (t := 4) (k := 2) (i := 15) (by decide +kernel) ho a1 rfl (by decide) rfl rfl rfl rfl (Or.inr ⟨_, rfl⟩) lc_408 ?_
  refine o_nameS (fun u2 eu2 => ?_)
  replace h := h u2 eu2
  refine o_aload_n (k := 0) 0 (by decide +kernel) rfl ?_
  refine o_aload_n (k := 1) 1 (by decide +kernel) rfl ?_
  obtain ⟨a1, h⟩ := h
  refine o_putF (t := 4) (k := 0) (i := 18) (by decide +kernel) ho a1 rfl (by decide) rfl rfl rfl rfl (Or.inl ⟨_, rfl⟩) lc_406 ?_
  refine o_nameS (fun u3 eu3 => ?_)
  replace h := h u3 eu3
  exact o_vret rfl (by decide +kernel) h.1 h.2
set_option maxRecDepth 20000 in
theorem e_X5_init {d : Nat} {N0 : Nat} {Q : x_S → Option Value → Prop} {o : Nat} (ho : x_sh o = (5, 3)) {σ : x_S} (h : x_sh N0 = (20, 8) ∧ N0 + 1 ≤ N0 + 2 ∧ x_sl N0 + 8 ≤ x_sl N0 + 16 ∧ (o < N0 + 1 ∧ (∀ u1, u1 = x_wr (x_nw σ N0) o 0 (some N0) → (x_sh (N0 + 1) = (20, 8) ∧ N0 + 1 + 1 ≤ N0 + 2 ∧ x_sl (N0 + 1) + 8 ≤ x_sl N0 + 16 ∧ (o < N0 + 2 ∧ (∀ u2, u2 = x_wr (x_nw u1 (N0 + 1)) o 1 (some (N0 + 1)) → (N0 + 2 = N0 + 2 ∧ Q u2 none))))))) : x_Mt (d + 1) mX5_init N0 [.ref o] σ Q := by
  refine x_of (by decide) (Nat.le_of_ble_eq_true rfl) ?_
  show x_Wg (d + 1) mX5_init N0 Q N0 0 [(0, .ref o)] [] σ
  refine o_aload_n (k := 0) 0 (by decide +kernel) rfl ?_
  refine o_objInit (i := 3) (by decide +kernel) lc_155 lc_obj (Nat.le_of_ble_eq_true rfl) ?_
  refine o_aload_n (k := 0) 0 (by decide +kernel) rfl ?_
  refine o_bipush (n := 8) (v := 8) (by decide +kernel) (by decide) ?_
  obtain ⟨a1, a2, a3, h⟩ := h
  refine o_newaI (by decide +kernel) lc_176 a1 (by decide) (by decide) (by decide) a2 a3 ?_
  obtain ⟨a1, h⟩ := h
  refine o_putF (t := 5) (k := 0) (i := 9) (by decide +kernel) ho a1 rfl (by decide) rfl rfl rfl rfl (Or.inr ⟨_, rfl⟩) lc_156 ?_
  refine o_nameS (fun u1 eu1 => ?_)
  replace h := h u1 eu1
  refine o_aload_n (k := 0) 0 (by decide +kernel) rfl ?_
  refine o_bipush (n := 8) (v := 8) (by decide +kernel) (by decide) ?_
  obtain ⟨a1, a2, a3, h⟩ := h
  refine o_newaI (by decide +kernel) lc_176 a1 (by decide) (by decide) (by decide) a2 a3 ?_
  obtain ⟨a1, h⟩ := h
  refine o_putF (t := 5) (k := 1) (i := 15) (by decide +kernel) ho a1 rfl (by decide) rfl rfl rfl rfl (Or.inr ⟨_, rfl⟩) lc_160 ?_
  refine o_nameS (fun u2 eu2 => ?_)
  replace h := h u2 eu2
  exact o_vret rfl (by decide +kernel) h.1 h.2
set_option maxRecDepth 20000 in
theorem e_X6_init {d : Nat} {N0 : Nat} {Q : x_S → Option Value → Prop} {o : Nat} (ho : x_sh o = (6, 6)) {r1 : Nat} {σ : x_S} (h : o < N0 ∧ (∀ u1, u1 = x_wi σ o 4 (-1) → (o < N0 ∧ (∀ u2, u2 = x_wi u1 o 5 (-1) → (o < N0 ∧ (∀ u3, u3 = x_wr u2 o 0 (some r1) → (x_sh N0 = (9, 10) ∧ N0 + 1 ≤ N0 + 9 ∧ x_sl N0 + 10 ≤ x_sl N0 + 714 ∧ (N0 + 1 + 8 ≤ N0 + 9 ∧ x_sl (N0 + 1) + 704 ≤ x_sl N0 + 714 ∧ x_sl (N0 + 1 + 8) = x_sl (N0 + 1) + 704 ∧ (x_Mt d mX9_init (N0 + 1) [.ref N0] (x_nw u3 N0) (fun u4 r => r = none ∧ (o < N0 + 9 ∧ (∀ u5, u5 = x_wr u4 o 1 (some N0) → (N0 + 9 = N0 + 9 ∧ Q u5 none))))))))))))) : x_Mt (d + 1) mX6_init N0 [.ref o, .ref r1] σ Q := by
  refine x_of (by decide) (Nat.le_of_ble_eq_true rfl) ?_
  show x_Wg (d + 1) mX6_init N0 Q N0 0 [(0, .ref o), (1, .ref r1)] [] σ
  refine o_aload_n (k := 0) 0 (by decide +kernel) rfl ?_
  refine o_objInit (i := 3) (by decide +kernel) lc_376 lc_obj (Nat.le_of_ble_eq_true rfl) ?_
  refine o_aload_n (k := 0) 0 (by decide +kernel) rfl ?_
  refine o_iconst (n := -1) (v := (-1)) (by decide +kernel) (by decide) ?_
  obtain ⟨a1, h⟩ := h
  refine o_putI (t := 6) (k := 4) (i := 9) (by decide +kernel) ho a1 rfl (by decide) rfl rfl lc_383 ?_
  refine o_nameS (fun u1 eu1 => ?_)
  replace h := h u1 eu1
  refine o_aload_n (k := 0) 0 (by decide +kernel) rfl ?_
  refine o_iconst (n := -1) (v := (-1)) (by decide +kernel) (by decide) ?_
  obtain ⟨a1, h⟩ := h
  refine o_putI (t := 6) (k := 5) (i := 15) (by decide +kernel) ho a1 rfl (by decide) rfl rfl lc_385 ?_
  refine o_nameS (fun u2 eu2 => ?_)
  replace h := h u2 eu2
  refine o_aload_n (k := 0) 0 (by decide +kernel) rfl ?_
  refine o_aload_n (k := 1) 1 (by decide +kernel) rfl ?_
  obtain ⟨a1, h⟩ := h
  refine o_putF (t := 6) (k := 0) (i := 18) (by decide +kernel) ho a1 rfl (by decide) rfl rfl rfl rfl (Or.inl ⟨_, rfl⟩) lc_379 ?_
  refine o_nameS (fun u3 eu3 => ?_)
  replace h := h u3 eu3
  refine o_aload_n (k := 0) 0 (by decide +kernel) rfl ?_
  obtain ⟨a1, a2, a3, h⟩ := h
  refine o_new (t := 9) (i := 22) (by decide +kernel) lc_377 lc_302 lc_120 a1 rfl a2 a3 ?_
  refine o_dup (by decide +kernel) rfl ?_
  obtain ⟨a1, a2, a3, h⟩ := h
  refine o_callIN (o := N0) (μ' := mX9_init) (i := 24) (hn0 := "NoonOnABarrow") (vs := []) rfl (by decide +kernel) (by decide +kernel) cok_mX9_init lc_ins_mX9_init rfl rfl rfl (Nat.le_of_ble_eq_true rfl) a1 a2 a3 ?_
  refine x_Mt.mono h (fun u4 r h => ?_)
  obtain ⟨hr, h⟩ := h
  subst hr
  obtain ⟨a1, h⟩ := h
  refine o_putR (r := some N0) (t := 6) (k := 1) (i := 25) (by decide +kernel) ho a1 rfl (by decide) rfl rfl lc_380 ?_
  refine o_nameS (fun u5 eu5 => ?_)
  replace h := h u5 eu5
  exact o_vret rfl (by decide +kernel) h.1 h.2
set_option maxRecDepth 20000 in
theorem e_X7_init {d : Nat} {N0 : Nat} {Q : x_S → Option Value → Prop} {o : Nat} (ho : x_sh o = (7, 3)) {σ : x_S} (h : x_sh N0 = (24, 30) ∧ N0 + 1 ≤ N0 + 121 ∧ x_sl N0 + 30 ≤ x_sl N0 + 3540 ∧ (o < N0 + 1 ∧ (∀ u1, u1 = x_wr (x_nw σ N0) o 0 (some N0) → (x_Wg (d + 1) mX7_init N0 Q (N0 + 1) 15 [(0, .ref o), (1, .int 0)] [] u1)))) : x_Mt (d + 1) mX7_init N0 [.ref o] σ Q := by
  refine x_of (by decide) (Nat.le_of_ble_eq_true rfl) ?_
  show x_Wg (d + 1) mX7_init N0 Q N0 0 [(0, .ref o)] [] σ
  refine o_aload_n (k := 0) 0 (by decide +kernel) rfl ?_
  refine o_objInit (i := 3) (by decide +kernel) lc_285 lc_obj (Nat.le_of_ble_eq_true rfl) ?_
  refine o_aload_n (k := 0) 0 (by decide +kernel) rfl ?_
  refine o_bipush (n := 30) (v := 30) (by decide +kernel) (by decide) ?_
  obtain ⟨a1, a2, a3, h⟩ := h
  refine o_anewaD (j := 9) (by decide +kernel) lc_286 a1 (by decide) (by decide) (by decide) a2 a3 ?_
  obtain ⟨a1, h⟩ := h
  refine o_putF (t := 7) (k := 0) (i := 11) (by decide +kernel) ho a1 rfl (by decide) rfl rfl rfl rfl (Or.inr ⟨_, rfl⟩) lc_289 ?_
  refine o_nameS (fun u1 eu1 => ?_)
  replace h := h u1 eu1
  refine o_iconst (n := 0) (v := 0) (by decide +kernel) (by decide) ?_
  refine o_istore_n (k := 1) (L' := [(1, .int 0), (0, .ref o)]) (by decide +kernel) (by decide) rfl ?_
  refine o_sub [1, 0] rfl ?_
  exact h
set_option maxRecDepth 20000 in
theorem k_X7_init_15 {d : Nat} {N0 N : Nat} {Q : x_S → Option Value → Prop} {o : Nat} (ho : x_sh o = (7, 3)) {v1 : Int32} {σ : x_S} (h : (30 ≤ v1 → N = N0 + 121 ∧ Q σ none) ∧ (¬ 30 ≤ v1 → o < N ∧ (∃ c1, σ.2.2 o 0 = some c1 ∧ (x_sh N = (1, 11) ∧ N + 1 ≤ N0 + 121 ∧ x_sl N + 11 ≤ x_sl N0 + 3540 ∧ (N + 1 + 3 ≤ N0 + 121 ∧ x_sl (N + 1) + 106 ≤ x_sl N0 + 3540 ∧ x_sl (N + 1 + 3) = x_sl (N + 1) + 106 ∧ (x_Mt d mX1_init (N + 1) [.ref N] (x_nw σ N) (fun u2 r => r = none ∧ (x_sh c1 = (24, 30) ∧ c1 < N + 4 ∧ vp_in v1 30 ∧ x_sh N = (1, 11) ∧ N < N + 4 ∧ (∀ u3, u3 = x_wr u2 c1 v1.toNatClampNeg (some N) → (∀ y4, y4 = v1 + 1 → (x_Wg (d + 1) mX7_init N0 Q (N + 4) 15 [(0, .ref o), (1, .int y4)] [] u3))))))))))) : x_Wg (d + 1) mX7_init N0 Q N 15 [(0, .ref o), (1, .int v1)] [] σ := by
  refine o_iload_n (k := 1) 1 (by decide +kernel) rfl ?_
  refine o_bipush (n := 30) (v := 30) (by decide +kernel) (by decide) ?_
  refine o_icmp_ge (off := 22) 40 (by decide +kernel) (by decide) (fun q => ?_) (fun q => ?_)
  · replace h := h.1 q
    exact o_vret rfl (by decide +kernel) h.1 h.2
  · replace h := h.2 q
    refine o_aload_n (k := 0) 0 (by decide +kernel) rfl ?_
    obtain ⟨a1, c1, ec1, h⟩ := h
    refine o_get (v := .ref c1) (t := 7) (k := 0) (i := 11) (by decide +kernel) ho a1 rfl (by decide) lc_289 (by simp [x_av, x_ty, tyX7, ec1, x_rf]) ?_
    refine o_iload_n (k := 1) 1 (by decide +kernel) rfl ?_
    obtain ⟨a1, a2, a3, h⟩ := h
    refine o_new (t := 1) (i := 9) (by decide +kernel) lc_286 lc_220 lc_118 a1 rfl a2 a3 ?_
    refine o_dup (by decide +kernel) rfl ?_
    obtain ⟨a1, a2, a3, h⟩ := h
    refine o_callIN (o := N) (μ' := mX1_init) (i := 17) (hn0 := "NoonOnABarrow") (vs := []) rfl (by decide +kernel) (by decide +kernel) cok_mX1_init lc_ins_mX1_init rfl rfl rfl (Nat.le_of_ble_eq_true rfl) a1 a2 a3 ?_
    refine x_Mt.mono h (fun u2 r h => ?_)
    obtain ⟨hr, h⟩ := h
    subst hr
    obtain ⟨a1, a2, a3, a4, a5, h⟩ := h
    refine o_aastD (t := 1) (by decide +kernel) a1 a2 a3 a4 a5 rfl rfl ?_
    refine o_nameS (fun u3 eu3 => ?_)
    replace h := h u3 eu3
    obtain ⟨y4, ey4⟩ : ∃ y : Int32, y = v1 + 1 := ⟨_, rfl⟩
    replace h := h y4 ey4
    refine o_iinc (i := 1) (n := 1) (v := y4) (L' := [(1, .int y4), (0, .ref o)]) 1 (by decide +kernel) rfl (by rw [ey4]; rfl) (by decide) rfl ?_
    refine o_goto (off := -22) 15 (by decide +kernel) (by decide) ?_
    refine o_sub [1, 0] rfl ?_
    exact h
set_option maxRecDepth 20000 in
theorem e_X8_init {d : Nat} {N0 : Nat} {Q : x_S → Option Value → Prop} {o : Nat} (ho : x_sh o = (8, 6)) {σ : x_S} (h : x_sh N0 = (20, 300) ∧ N0 + 1 ≤ N0 + 4 ∧ x_sl N0 + 300 ≤ x_sl N0 + 1203 ∧ (o < N0 + 1 ∧ (∀ u1, u1 = x_wr (x_nw σ N0) o 0 (some N0) → (x_sh (N0 + 1) = (20, 301) ∧ N0 + 1 + 1 ≤ N0 + 4 ∧ x_sl (N0 + 1) + 301 ≤ x_sl N0 + 1203 ∧ (o < N0 + 2 ∧ (∀ u2, u2 = x_wr (x_nw u1 (N0 + 1)) o 2 (some (N0 + 1)) → (x_sh (N0 + 2) = (20, 301) ∧ N0 + 2 + 1 ≤ N0 + 4 ∧ x_sl (N0 + 2) + 301 ≤ x_sl N0 + 1203 ∧ (o < N0 + 3 ∧ (∀ u3, u3 = x_wr (x_nw u2 (N0 + 2)) o 3 (some (N0 + 2)) → (x_sh (N0 + 3) = (20, 301) ∧ N0 + 3 + 1 ≤ N0 + 4 ∧ x_sl (N0 + 3) + 301 ≤ x_sl N0 + 1203 ∧ (o < N0 + 4 ∧ (∀ u4, u4 = x_wr (x_nw u3 (N0 + 3)) o 4 (some (N0 + 3)) → (N0 + 4 = N0 + 4 ∧ Q u4 none))))))))))))) : x_Mt (d + 1) mX8_init N0 [.ref o] σ Q := by
  refine x_of (by decide) (Nat.le_of_ble_eq_true rfl) ?_
  show x_Wg (d + 1) mX8_init N0 Q N0 0 [(0, .ref o)] [] σ
  refine o_aload_n (k := 0) 0 (by decide +kernel) rfl ?_
  refine o_objInit (i := 3) (by decide +kernel) lc_350 lc_obj (Nat.le_of_ble_eq_true rfl) ?_
  refine o_aload_n (k := 0) 0 (by decide +kernel) rfl ?_
  refine o_sipush (n := 300) (v := 300) (by decide +kernel) (by decide) ?_
  obtain ⟨a1, a2, a3, h⟩ := h
  refine o_newaI (by decide +kernel) lc_176 a1 (by decide) (by decide) (by decide) a2 a3 ?_
  obtain ⟨a1, h⟩ := h
  refine o_putF (t := 8) (k := 0) (i := 9) (by decide +kernel) ho a1 rfl (by decide) rfl rfl rfl rfl (Or.inr ⟨_, rfl⟩) lc_351 ?_
  refine o_nameS (fun u1 eu1 => ?_)
  replace h := h u1 eu1
  refine o_aload_n (k := 0) 0 (by decide +kernel) rfl ?_
  refine o_sipush (n := 301) (v := 301) (by decide +kernel) (by decide) ?_
  obtain ⟨a1, a2, a3, h⟩ := h
  refine o_newaI (by decide +kernel) lc_176 a1 (by decide) (by decide) (by decide) a2 a3 ?_
  obtain ⟨a1, h⟩ := h
  refine o_putF (t := 8) (k := 2) (i := 15) (by decide +kernel) ho a1 rfl (by decide) rfl rfl rfl rfl (Or.inr ⟨_, rfl⟩) lc_354 ?_
  refine o_nameS (fun u2 eu2 => ?_)
  replace h := h u2 eu2
  refine o_aload_n (k := 0) 0 (by decide +kernel) rfl ?_
  refine o_sipush (n := 301) (v := 301) (by decide +kernel) (by decide) ?_
  obtain ⟨a1, a2, a3, h⟩ := h
  refine o_newaI (by decide +kernel) lc_176 a1 (by decide) (by decide) (by decide) a2 a3 ?_
  obtain ⟨a1, h⟩ := h
  refine o_putF (t := 8) (k := 3) (i := 18) (by decide +kernel) ho a1 rfl (by decide) rfl rfl rfl rfl (Or.inr ⟨_, rfl⟩) lc_355 ?_
  refine o_nameS (fun u3 eu3 => ?_)
  replace h := h u3 eu3
  refine o_aload_n (k := 0) 0 (by decide +kernel) rfl ?_
  refine o_sipush (n := 301) (v := 301) (by decide +kernel) (by decide) ?_
  obtain ⟨a1, a2, a3, h⟩ := h
  refine o_newaI (by decide +kernel) lc_176 a1 (by decide) (by decide) (by decide) a2 a3 ?_
  obtain ⟨a1, h⟩ := h
  refine o_putF (t := 8) (k := 4) (i := 21) (by decide +kernel) ho a1 rfl (by decide) rfl rfl rfl rfl (Or.inr ⟨_, rfl⟩) lc_356 ?_
  refine o_nameS (fun u4 eu4 => ?_)
  replace h := h u4 eu4
  exact o_vret rfl (by decide +kernel) h.1 h.2
set_option maxRecDepth 20000 in
theorem e_X9_init {d : Nat} {N0 : Nat} {Q : x_S → Option Value → Prop} {o : Nat} (ho : x_sh o = (9, 10)) {σ : x_S} (h : x_sh N0 = (20, 24) ∧ N0 + 1 ≤ N0 + 8 ∧ x_sl N0 + 24 ≤ x_sl N0 + 704 ∧ (o < N0 + 1 ∧ (∀ u1, u1 = x_wr (x_nw σ N0) o 0 (some N0) → (x_sh (N0 + 1) = (20, 24) ∧ N0 + 1 + 1 ≤ N0 + 8 ∧ x_sl (N0 + 1) + 24 ≤ x_sl N0 + 704 ∧ (o < N0 + 2 ∧ (∀ u2, u2 = x_wr (x_nw u1 (N0 + 1)) o 1 (some (N0 + 1)) → (x_sh (N0 + 2) = (20, 24) ∧ N0 + 2 + 1 ≤ N0 + 8 ∧ x_sl (N0 + 2) + 24 ≤ x_sl N0 + 704 ∧ (o < N0 + 3 ∧ (∀ u3, u3 = x_wr (x_nw u2 (N0 + 2)) o 2 (some (N0 + 2)) → (x_sh (N0 + 3) = (20, 24) ∧ N0 + 3 + 1 ≤ N0 + 8 ∧ x_sl (N0 + 3) + 24 ≤ x_sl N0 + 704 ∧ (o < N0 + 4 ∧ (∀ u4, u4 = x_wr (x_nw u3 (N0 + 3)) o 3 (some (N0 + 3)) → (x_sh (N0 + 4) = (20, 4) ∧ N0 + 4 + 1 ≤ N0 + 8 ∧ x_sl (N0 + 4) + 4 ≤ x_sl N0 + 704 ∧ (o < N0 + 5 ∧ (∀ u5, u5 = x_wr (x_nw u4 (N0 + 4)) o 5 (some (N0 + 4)) → (x_sh (N0 + 5) = (20, 4) ∧ N0 + 5 + 1 ≤ N0 + 8 ∧ x_sl (N0 + 5) + 4 ≤ x_sl N0 + 704 ∧ (o < N0 + 6 ∧ (∀ u6, u6 = x_wr (x_nw u5 (N0 + 5)) o 6 (some (N0 + 5)) → (x_sh (N0 + 6) = (20, 300) ∧ N0 + 6 + 1 ≤ N0 + 8 ∧ x_sl (N0 + 6) + 300 ≤ x_sl N0 + 704 ∧ (o < N0 + 7 ∧ (∀ u7, u7 = x_wr (x_nw u6 (N0 + 6)) o 7 (some (N0 + 6)) → (x_sh (N0 + 7) = (20, 300) ∧ N0 + 7 + 1 ≤ N0 + 8 ∧ x_sl (N0 + 7) + 300 ≤ x_sl N0 + 704 ∧ (o < N0 + 8 ∧ (∀ u8, u8 = x_wr (x_nw u7 (N0 + 7)) o 8 (some (N0 + 7)) → (N0 + 8 = N0 + 8 ∧ Q u8 none))))))))))))))))))))))))) : x_Mt (d + 1) mX9_init N0 [.ref o] σ Q := by
  refine x_of (by decide) (Nat.le_of_ble_eq_true rfl) ?_
  show x_Wg (d + 1) mX9_init N0 Q N0 0 [(0, .ref o)] [] σ
  refine o_aload_n (k := 0) 0 (by decide +kernel) rfl ?_
  refine o_objInit (i := 3) (by decide +kernel) lc_306 lc_obj (Nat.le_of_ble_eq_true rfl) ?_
  refine o_aload_n (k := 0) 0 (by decide +kernel) rfl ?_
  refine o_bipush (n := 24) (v := 24) (by decide +kernel) (by decide) ?_
  obtain ⟨a1, a2, a3, h⟩ := h
  refine o_newaI (by decide +kernel) lc_176 a1 (by decide) (by decide) (by decide) a2 a3 ?_
  obtain ⟨a1, h⟩ := h
  refine o_putF (t := 9) (k := 0) (i := 9) (by decide +kernel) ho a1 rfl (by decide) rfl rfl rfl rfl (Or.inr ⟨_, rfl⟩) lc_307 ?_
  refine o_nameS (fun u1 eu1 => ?_)
  replace h := h u1 eu1
  refine o_aload_n (k := 0) 0 (by decide +kernel) rfl ?_
  refine o_bipush (n := 24) (v := 24) (by decide +kernel) (by decide) ?_
  obtain ⟨a1, a2, a3, h⟩ := h
  refine o_newaI (by decide +kernel) lc_176 a1 (by decide) (by decide) (by decide) a2 a3 ?_
  obtain ⟨a1, h⟩ := h
  refine o_putF (t := 9) (k := 1) (i := 15) (by decide +kernel) ho a1 rfl (by decide) rfl rfl rfl rfl (Or.inr ⟨_, rfl⟩) lc_309 ?_
  refine o_nameS (fun u2 eu2 => ?_)
  replace h := h u2 eu2
  refine o_aload_n (k := 0) 0 (by decide +kernel) rfl ?_
  refine o_bipush (n := 24) (v := 24) (by decide +kernel) (by decide) ?_
  obtain ⟨a1, a2, a3, h⟩ := h
  refine o_newaI (by decide +kernel) lc_176 a1 (by decide) (by decide) (by decide) a2 a3 ?_
  obtain ⟨a1, h⟩ := h
  refine o_putF (t := 9) (k := 2) (i := 18) (by decide +kernel) ho a1 rfl (by decide) rfl rfl rfl rfl (Or.inr ⟨_, rfl⟩) lc_311 ?_
  refine o_nameS (fun u3 eu3 => ?_)
  replace h := h u3 eu3
  refine o_aload_n (k := 0) 0 (by decide +kernel) rfl ?_
  refine o_bipush (n := 24) (v := 24) (by decide +kernel) (by decide) ?_
  obtain ⟨a1, a2, a3, h⟩ := h
  refine o_newaI (by decide +kernel) lc_176 a1 (by decide) (by decide) (by decide) a2 a3 ?_
  obtain ⟨a1, h⟩ := h
  refine o_putF (t := 9) (k := 3) (i := 21) (by decide +kernel) ho a1 rfl (by decide) rfl rfl rfl rfl (Or.inr ⟨_, rfl⟩) lc_313 ?_
  refine o_nameS (fun u4 eu4 => ?_)
  replace h := h u4 eu4
  refine o_aload_n (k := 0) 0 (by decide +kernel) rfl ?_
  refine o_iconst (n := 4) (v := 4) (by decide +kernel) (by decide) ?_
  obtain ⟨a1, a2, a3, h⟩ := h
  refine o_newaI (by decide +kernel) lc_176 a1 (by decide) (by decide) (by decide) a2 a3 ?_
  obtain ⟨a1, h⟩ := h
  refine o_putF (t := 9) (k := 5) (i := 24) (by decide +kernel) ho a1 rfl (by decide) rfl rfl rfl rfl (Or.inr ⟨_, rfl⟩) lc_318 ?_
  refine o_nameS (fun u5 eu5 => ?_)
  replace h := h u5 eu5
  refine o_aload_n (k := 0) 0 (by decide +kernel) rfl ?_
  refine o_iconst (n := 4) (v := 4) (by decide +kernel) (by decide) ?_
  obtain ⟨a1, a2, a3, h⟩ := h
  refine o_newaI (by decide +kernel) lc_176 a1 (by decide) (by decide) (by decide) a2 a3 ?_
  obtain ⟨a1, h⟩ := h
  refine o_putF (t := 9) (k := 6) (i := 27) (by decide +kernel) ho a1 rfl (by decide) rfl rfl rfl rfl (Or.inr ⟨_, rfl⟩) lc_319 ?_
  refine o_nameS (fun u6 eu6 => ?_)
  replace h := h u6 eu6
  refine o_aload_n (k := 0) 0 (by decide +kernel) rfl ?_
  refine o_sipush (n := 300) (v := 300) (by decide +kernel) (by decide) ?_
  obtain ⟨a1, a2, a3, h⟩ := h
  refine o_newaI (by decide +kernel) lc_176 a1 (by decide) (by decide) (by decide) a2 a3 ?_
  obtain ⟨a1, h⟩ := h
  refine o_putF (t := 9) (k := 7) (i := 30) (by decide +kernel) ho a1 rfl (by decide) rfl rfl rfl rfl (Or.inr ⟨_, rfl⟩) lc_320 ?_
  refine o_nameS (fun u7 eu7 => ?_)
  replace h := h u7 eu7
  refine o_aload_n (k := 0) 0 (by decide +kernel) rfl ?_
  refine o_sipush (n := 300) (v := 300) (by decide +kernel) (by decide) ?_
  obtain ⟨a1, a2, a3, h⟩ := h
  refine o_newaI (by decide +kernel) lc_176 a1 (by decide) (by decide) (by decide) a2 a3 ?_
  obtain ⟨a1, h⟩ := h
  refine o_putF (t := 9) (k := 8) (i := 33) (by decide +kernel) ho a1 rfl (by decide) rfl rfl rfl rfl (Or.inr ⟨_, rfl⟩) lc_321 ?_
  refine o_nameS (fun u8 eu8 => ?_)
  replace h := h u8 eu8
  exact o_vret rfl (by decide +kernel) h.1 h.2
set_option maxRecDepth 20000 in
theorem e_X10_init {d : Nat} {N0 : Nat} {Q : x_S → Option Value → Prop} {o : Nat} (ho : x_sh o = (10, 10)) {r1 : Nat} {r2 : Nat} {σ : x_S} (h : x_sh N0 = (20, 72) ∧ N0 + 1 ≤ N0 + 5 ∧ x_sl N0 + 72 ≤ x_sl N0 + 224 ∧ (o < N0 + 1 ∧ (∀ u1, u1 = x_wr (x_nw σ N0) o 2 (some N0) → (x_sh (N0 + 1) = (20, 72) ∧ N0 + 1 + 1 ≤ N0 + 5 ∧ x_sl (N0 + 1) + 72 ≤ x_sl N0 + 224 ∧ (o < N0 + 2 ∧ (∀ u2, u2 = x_wr (x_nw u1 (N0 + 1)) o 3 (some (N0 + 1)) → (x_sh (N0 + 2) = (20, 64) ∧ N0 + 2 + 1 ≤ N0 + 5 ∧ x_sl (N0 + 2) + 64 ≤ x_sl N0 + 224 ∧ (o < N0 + 3 ∧ (∀ u3, u3 = x_wr (x_nw u2 (N0 + 2)) o 6 (some (N0 + 2)) → (x_sh (N0 + 3) = (20, 8) ∧ N0 + 3 + 1 ≤ N0 + 5 ∧ x_sl (N0 + 3) + 8 ≤ x_sl N0 + 224 ∧ (o < N0 + 4 ∧ (∀ u4, u4 = x_wr (x_nw u3 (N0 + 3)) o 7 (some (N0 + 3)) → (x_sh (N0 + 4) = (20, 8) ∧ N0 + 4 + 1 ≤ N0 + 5 ∧ x_sl (N0 + 4) + 8 ≤ x_sl N0 + 224 ∧ (o < N0 + 5 ∧ (∀ u5, u5 = x_wr (x_nw u4 (N0 + 4)) o 8 (some (N0 + 4)) → (o < N0 + 5 ∧ (∀ u6, u6 = x_wr u5 o 0 (some r1) → (o < N0 + 5 ∧ (∀ u7, u7 = x_wr u6 o 1 (some r2) → (N0 + 5 = N0 + 5 ∧ Q u7 none)))))))))))))))))))) : x_Mt (d + 1) mX10_init N0 [.ref o, .ref r1, .ref r2] σ Q := by
  refine x_of (by decide) (Nat.le_of_ble_eq_true rfl) ?_
  show x_Wg (d + 1) mX10_init N0 Q N0 0 [(0, .ref o), (1, .ref r1), (2, .ref r2)] [] σ
  refine o_aload_n (k := 0) 0 (by decide +kernel) rfl ?_
  refine o_objInit (i := 3) (by decide +kernel) lc_441 lc_obj (Nat.le_of_ble_eq_true rfl) ?_
  refine o_aload_n (k := 0) 0 (by decide +kernel) rfl ?_
  refine o_bipush (n := 72) (v := 72) (by decide +kernel) (by decide) ?_
  obtain ⟨a1, a2, a3, h⟩ := h
  refine o_newaI (by decide +kernel) lc_176 a1 (by decide) (by decide) (by decide) a2 a3 ?_
  obtain ⟨a1, h⟩ := h
  refine o_putF (t := 10) (k := 2) (i := 11) (by decide +kernel) ho a1 rfl (by decide) rfl rfl rfl rfl (Or.inr ⟨_, rfl⟩) lc_444 ?_
  refine o_nameS (fun u1 eu1 => ?_)
  replace h := h u1 eu1
  refine o_aload_n (k := 0) 0 (by decide +kernel) rfl ?_
  refine o_bipush (n := 72) (v := 72) (by decide +kernel) (by decide) ?_
  obtain ⟨a1, a2, a3, h⟩ := h
  refine o_newaI (by decide +kernel) lc_176 a1 (by decide) (by decide) (by decide) a2 a3 ?_
  obtain ⟨a1, h⟩ := h
  refine o_putF (t := 10) (k := 3) (i := 15) (by decide +kernel) ho a1 rfl (by decide) rfl rfl rfl rfl (Or.inr ⟨_, rfl⟩) lc_445 ?_
  refine o_nameS (fun u2 eu2 => ?_)
  replace h := h u2 eu2
  refine o_aload_n (k := 0) 0 (by decide +kernel) rfl ?_
  refine o_bipush (n := 64) (v := 64) (by decide +kernel) (by decide) ?_
  obtain ⟨a1, a2, a3, h⟩ := h
  refine o_newaI (by decide +kernel) lc_176 a1 (by decide) (by decide) (by decide) a2 a3 ?_
  obtain ⟨a1, h⟩ := h
  refine o_putF (t := 10) (k := 6) (i := 18) (by decide +kernel) ho a1 rfl (by decide) rfl rfl rfl rfl (Or.inr ⟨_, rfl⟩) lc_448 ?_
  refine o_nameS (fun u3 eu3 => ?_)
  replace h := h u3 eu3
  refine o_aload_n (k := 0) 0 (by decide +kernel) rfl ?_
  refine o_bipush (n := 8) (v := 8) (by decide +kernel) (by decide) ?_
  obtain ⟨a1, a2, a3, h⟩ := h
  refine o_newaI (by decide +kernel) lc_176 a1 (by decide) (by decide) (by decide) a2 a3 ?_
  obtain ⟨a1, h⟩ := h
  refine o_putF (t := 10) (k := 7) (i := 21) (by decide +kernel) ho a1 rfl (by decide) rfl rfl rfl rfl (Or.inr ⟨_, rfl⟩) lc_449 ?_
  refine o_nameS (fun u4 eu4 => ?_)
  replace h := h u4 eu4
  refine o_aload_n (k := 0) 0 (by decide +kernel) rfl ?_
  refine o_bipush (n := 8) (v := 8) (by decide +kernel) (by decide) ?_
  obtain ⟨a1, a2, a3, h⟩ := h
  refine o_newaI (by decide +kernel) lc_176 a1 (by decide) (by decide) (by decide) a2 a3 ?_
  obtain ⟨a1, h⟩ := h
  refine o_putF (t := 10) (k := 8) (i := 24) (by decide +kernel) ho a1 rfl (by decide) rfl rfl rfl rfl (Or.inr ⟨_, rfl⟩) lc_450 ?_
  refine o_nameS (fun u5 eu5 => ?_)
  replace h := h u5 eu5
  refine o_aload_n (k := 0) 0 (by decide +kernel) rfl ?_
  refine o_aload_n (k := 1) 1 (by decide +kernel) rfl ?_
  obtain ⟨a1, h⟩ := h
  refine o_putF (t := 10) (k := 0) (i := 27) (by decide +kernel) ho a1 rfl (by decide) rfl rfl rfl rfl (Or.inl ⟨_, rfl⟩) lc_442 ?_
  refine o_nameS (fun u6 eu6 => ?_)
  replace h := h u6 eu6
  refine o_aload_n (k := 0) 0 (by decide +kernel) rfl ?_
  refine o_aload_n (k := 2) 2 (by decide +kernel) rfl ?_
  obtain ⟨a1, h⟩ := h
  refine o_putF (t := 10) (k := 1) (i := 31) (by decide +kernel) ho a1 rfl (by decide) rfl rfl rfl rfl (Or.inl ⟨_, rfl⟩) lc_443 ?_
  refine o_nameS (fun u7 eu7 => ?_)
  replace h := h u7 eu7
  exact o_vret rfl (by decide +kernel) h.1 h.2
