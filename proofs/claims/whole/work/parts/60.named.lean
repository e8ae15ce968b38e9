theorem o_named {d : Nat} {μ : x_M} {N0 : Nat} {Q : x_S → Option Value → Prop} {N pc : Nat} {L : List (Nat × Value)} {st : List Value} {σ : x_S} {k : Fin 4} {x : Int32} (j : Nat) (hcl : μ.1.cls = "NoonOnABarrow$Reader") (d1 : decode μ.2.1 pc = .ok (.getstatic 115, 3)) (d2 : decode μ.2.1 (pc + 3) = .ok (.iload_n k, 1)) (d3 : decode μ.2.1 (pc + 3 + 1) = .ok (.iaload, 1)) (hL : L[j]? = some ((k : Nat), .int x)) (hi : vp_in x 32) (h : x_Wg d μ N0 Q N (pc + 3 + 1 + 1) L (.int (x_named.getD x.toNatClampNeg 0) :: st) σ) : x_Wg d μ N0 Q N pc L st σ := by
  intro l G p e s m args below meth c C h0 h1 h2 H locs ls hW hS hl
  have hz := C.2.2.2.2.2.2.2.2.1.2
  refine va_getsN C.1 C.2.1 hz.1 hS (own := "NoonOnABarrow$Reader") (ref := "NoonOnABarrow") (host := "NoonOnABarrow") (by rw [← hcl]; exact C.2.2.2.2.1) (va_Nw.use rfl hz.2.2.2.2.2.2.2.1) (fun _ h => h) d1 ?_
  refine lv_iload_n (i := k) (x := x) C.1 C.2.1 d2 rfl (x_lat hl hL) ?_
  exact va_ti C.1 C.2.1 hz.2.1 hS hi rfl d3 (h l G p e s m args below meth c C h0 h1 h2 H locs ls hW hS hl)
set_option maxRecDepth 20000 in
theorem e_X6_readName {d : Nat} {K : x_T → Prop}  {τ : x_T} (h : x_CI d mX8_kindAt [.ref 314, .int (τ.1 319 2)] τ (fun t1 a2 => (a2 < 0 → x_WV (d + 1) mX6_readName K 30 [(0, .ref 319), (1, .int a2)] [] t1) ∧ (¬ a2 < 0 → (32 ≤ a2 → x_WV (d + 1) mX6_readName K 30 [(0, .ref 319), (1, .int a2)] [] t1) ∧ (¬ 32 ≤ a2 → vp_in a2 32 ∧ (x_WV (d + 1) mX6_readName K 31 [(0, .ref 319), (1, .int a2)] [.int (x_named.getD a2.toNatClampNeg 0)] t1))))) : x_CV (d + 1) mX6_readName [.ref 319] τ K := by
  refine x_CV_of (by decide) (Nat.le_of_ble_eq_true rfl) ?_
  show x_WV (d + 1) mX6_readName K 0 [(0, .ref 319)] [] τ
  refine o_aload_n (k := 0) 0 (by decide +kernel) rfl ?_
  refine f_getR (r := 314) (t := 6) (k := 0) (i := 18) (by decide +kernel) sh_319 rfl (by decide) lk_379 (by simp [x_ty, tyX6]) (gr_6_0 sh_319) ?_
  refine o_aload_n (k := 0) 0 (by decide +kernel) rfl ?_
  refine f_getI (t := 6) (k := 2) (i := 29) (by decide +kernel) sh_319 rfl (by decide) lk_381 rfl ?_
  refine f_callVI (μ' := mX8_kindAt) (i := 40) (vs := [.int (τ.1 319 2)]) (by decide +kernel) lk_944 (vok_mX8_kindAt) sh_314 rfl rfl rfl rfl (Nat.le_of_ble_eq_true rfl) ?_
  refine x_CI.mono h (fun t1 a2 h => ?_)
  refine o_istore_n (k := 1) (L' := [(1, .int a2), (0, .ref 319)]) (by decide +kernel) (by decide) rfl ?_
  refine o_iload_n (k := 1) 0 (by decide +kernel) rfl ?_
  refine o_if_lt (off := 17) 30 (by decide +kernel) (by decide) (fun q => ?_) (fun q => ?_)
  · replace h := h.1 q
    refine o_sub [1, 0] rfl ?_
    exact h
  · replace h := h.2 q
    refine o_iload_n (k := 1) 0 (by decide +kernel) rfl ?_
    refine o_bipush (n := 32) (v := 32) (by decide +kernel) (by decide) ?_
    refine o_icmp_ge (off := 11) 30 (by decide +kernel) (by decide) (fun q => ?_) (fun q => ?_)
    · replace h := h.1 q
      refine o_sub [1, 0] rfl ?_
      exact h
    · replace h := h.2 q
      obtain ⟨hi, h⟩ := h
      refine o_named (k := 1) 0 rfl (by decide +kernel) (by decide +kernel) (by decide +kernel) rfl hi ?_
      refine o_goto (off := 4) 31 (by decide +kernel) (by decide) ?_
      refine o_sub [1, 0] rfl ?_
      exact h
set_option maxRecDepth 20000 in
theorem k_X6_readName_30 {d : Nat} {K : x_T → Prop} {v1 : Int32} {τ : x_T} (h : x_WV (d + 1) mX6_readName K 31 [(0, .ref 319), (1, .int v1)] [.int 0] τ) : x_WV (d + 1) mX6_readName K 30 [(0, .ref 319), (1, .int v1)] [] τ := by
  refine o_iconst (n := 0) (v := 0) (by decide +kernel) (by decide) ?_
  exact h
set_option maxRecDepth 20000 in
theorem k_X6_readName_31 {d : Nat} {K : x_T → Prop} {v1 : Int32} {s0 : Int32} {τ : x_T} (h : (¬ s0 = 0 → (¬ (s0 >>> ((τ.1 319 3) &&& 31)) &&& 1 = 0 → x_sh τ.2.2.1 = (9, 10) ∧ (x_CI d mX9_ask [.ref τ.2.2.1, .int 48, .int v1] τ (fun t2 a3 => ∀ t4, t4 = x_w1 t2 319 2 ((t2.1 319 2) + 1) → (K t4)))) ∧ ((s0 >>> ((τ.1 319 3) &&& 31)) &&& 1 = 0 → x_CV d mX6_refuse [.ref 319, .int 5] τ (fun t5 => K t5))) ∧ (s0 = 0 → x_CV d mX6_refuse [.ref 319, .int 1] τ (fun t7 => K t7))) : x_WV (d + 1) mX6_readName K 31 [(0, .ref 319), (1, .int v1)] [.int s0] τ := by
  refine o_istore_n (k := 2) (L' := [(2, .int s0), (0, .ref 319), (1, .int v1)]) (by decide +kernel) (by decide) rfl ?_
  refine o_iload_n (k := 2) 0 (by decide +kernel) rfl ?_
  refine o_if_ne (off := 11) 44 (by decide +kernel) (by decide) (fun q => ?_) (fun q => ?_)
  · replace h := h.1 q
    refine o_iload_n (k := 2) 0 (by decide +kernel) rfl ?_
    refine o_aload_n (k := 0) 1 (by decide +kernel) rfl ?_
    refine f_getI (t := 6) (k := 3) (i := 70) (by decide +kernel) sh_319 rfl (by decide) lk_382 rfl ?_
    refine o_ishr (by decide +kernel) ?_
    refine o_iconst (n := 1) (v := 1) (by decide +kernel) (by decide) ?_
    refine o_iand (by decide +kernel) ?_
    refine o_if_ne (off := 11) 63 (by decide +kernel) (by decide) (fun q => ?_) (fun q => ?_)
    · replace h := h.1 q
      refine o_aload_n (k := 0) 1 (by decide +kernel) rfl ?_
      obtain ⟨hsc1, h⟩ := h
      refine f_getR (r := τ.2.2.1) (t := 6) (k := 1) (i := 25) (by decide +kernel) sh_319 rfl (by decide) lk_380 (by simp [x_ty, tyX6]) rfl ?_
      refine o_bipush (n := 48) (v := 48) (by decide +kernel) (by decide) ?_
      refine o_iload_n (k := 1) 2 (by decide +kernel) rfl ?_
      refine f_callVI (μ' := mX9_ask) (i := 97) (vs := [.int 48, .int v1]) (by decide +kernel) lk_985 (vok_mX9_ask) hsc1 rfl rfl rfl rfl (Nat.le_of_ble_eq_true rfl) ?_
      refine x_CI.mono h (fun t2 a3 h => ?_)
      refine o_pop (by decide +kernel) rfl ?_
      refine o_aload_n (k := 0) 1 (by decide +kernel) rfl ?_
      refine o_dup (by decide +kernel) rfl ?_
      refine f_getI (t := 6) (k := 2) (i := 29) (by decide +kernel) sh_319 rfl (by decide) lk_381 rfl ?_
      refine o_iconst (n := 1) (v := 1) (by decide +kernel) (by decide) ?_
      refine o_iadd (by decide +kernel) ?_
      refine f_putI (t := 6) (k := 2) (i := 29) (by decide +kernel) sh_319 rfl (by decide) lk_381 rfl rfl ?_
      refine f_name (fun t4 et4 => ?_)
      replace h := h t4 et4
      exact f_vret rfl (by decide +kernel) rfl h
    · replace h := h.2 q
      refine o_aload_n (k := 0) 1 (by decide +kernel) rfl ?_
      refine o_iconst (n := 5) (v := 5) (by decide +kernel) (by decide) ?_
      refine f_callVV (μ' := mX6_refuse) (i := 54) (vs := [.int 5]) (by decide +kernel) lk_952 (vok_mX6_refuse) sh_319 rfl rfl rfl rfl (Nat.le_of_ble_eq_true rfl) ?_
      refine x_CV.mono h (fun t5 h => ?_)
      refine o_goto (off := 24) 84 (by decide +kernel) (by decide) ?_
      exact f_vret rfl (by decide +kernel) rfl h
  · replace h := h.2 q
    refine o_aload_n (k := 0) 1 (by decide +kernel) rfl ?_
    refine o_iconst (n := 1) (v := 1) (by decide +kernel) (by decide) ?_
    refine f_callVV (μ' := mX6_refuse) (i := 54) (vs := [.int 1]) (by decide +kernel) lk_952 (vok_mX6_refuse) sh_319 rfl rfl rfl rfl (Nat.le_of_ble_eq_true rfl) ?_
    refine x_CV.mono h (fun t7 h => ?_)
    refine o_goto (off := 43) 84 (by decide +kernel) (by decide) ?_
    exact f_vret rfl (by decide +kernel) rfl h
