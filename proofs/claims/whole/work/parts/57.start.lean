theorem lc_ins11 : Cond.instantiable "NoonOnABarrow" 18 ∈ x_tb := x_tb_in (List.mem_of_getElem? (i := 137) (by decide +kernel)) (by decide +kernel)
theorem lc_ini11 : Cond.initialized "NoonOnABarrow" ∈ x_tb := x_tb_in (List.mem_of_getElem? (i := 115) (by decide +kernel)) (by decide +kernel)
theorem lc_ins12 : Cond.instantiable "NoonOnABarrowModel" 47 ∈ x_tb := x_tb_in (List.mem_of_getElem? (i := 1352) (by decide +kernel)) (by decide +kernel)
theorem lc_ini12 : Cond.initialized "NoonOnABarrowModel" ∈ x_tb := x_tb_in (List.mem_of_getElem? (i := 127) (by decide +kernel)) (by decide +kernel)
theorem x_slot48 : ∀ c, c < 376 → ∀ k, k < (x_sh c).2 → x_isr c k = true → k < 48 := by
  intro c hc k hk hr
  have h1 : ∀ c, c < 376 → (20 ≤ (x_sh c).1 ∧ (x_sh c).1 ≤ 22) ∨ (x_sh c).2 ≤ 48 := by decide +kernel
  rcases h1 c hc with h | h
  · exfalso
    cases hs : x_sh c with
    | mk t n =>
      rw [hs] at h
      unfold x_isr at hr
      rw [hs] at hr
      have h : 20 ≤ t ∧ t ≤ 22 := h
      rcases (show t = 20 ∨ t = 21 ∨ t = 22 by omega) with rfl | rfl | rfl <;> exact absurd (show false = true from hr) (by decide)
  · omega
theorem x_startW (G : x_G) (H : Heap) (h : x_W G 376 x_sM H) : x_W G 376 (x_fu x_tM) H := x_W_of (σ := x_sM) rfl rfl (fun c hc k hk hr => x_refs c hc k (x_slot48 c hc k hk hr) hk hr) h
theorem x_slC : x_sl (1 + 344) = x_sl 1 + 12964 := by decide +kernel
theorem x_slM : x_sl (346 + 30) = x_sl 346 + 13004 := by decide +kernel
set_option maxRecDepth 20000 in
/-- THE LAW FROM ITS FIRST INSTRUCTION -/
theorem L_start {Ln : Nat} {xs : Nat → Int32} {J : x_T → Prop} (hL : Ln ≤ 3072) (hcp : x_CV 1999 mX12_copies [.ref 345, .int 1] x_tM J) (hs : ∀ τ, J τ → x_Steps J τ) : x_Lj Ln xs 0 0 [] [] x_s00 := by
  refine L_new (t := 11) (i := 7) (by decide +kernel) (x_tb_in (List.mem_of_getElem? (i := 136) (by decide +kernel)) (by decide +kernel)) lc_ins11 lc_ini11 (by decide +kernel) rfl (by decide) (by decide +kernel) ?_
  refine L_dup (by decide +kernel) rfl ?_
  refine L_callI (o := 0) (vs := []) (i := 9) (μ' := mX11_init) rfl (by decide +kernel) (x_tb_in (List.mem_of_getElem? (i := 138) (by decide +kernel)) (by decide +kernel)) cok_mX11_init lc_ins_mX11_init rfl rfl rfl (Nat.le_of_ble_eq_true rfl) (by decide) (by decide +kernel) x_slC ?_
  refine c11 ?_
  show x_Lj Ln xs 345 7 [] [.ref 0] x_sC
  refine L_astore (k := 1) (L' := [(1, .ref 0)]) (by decide) (by decide +kernel) rfl ?_
  refine L_new (t := 12) (i := 10) (by decide +kernel) (x_tb_in (List.mem_of_getElem? (i := 1351) (by decide +kernel)) (by decide +kernel)) lc_ins12 lc_ini12 (by decide +kernel) rfl (by decide) (by decide +kernel) ?_
  refine L_dup (by decide +kernel) rfl ?_
  refine L_callI (o := 345) (vs := []) (i := 12) (μ' := mX12_init) rfl (by decide +kernel) (x_tb_in (List.mem_of_getElem? (i := 1353) (by decide +kernel)) (by decide +kernel)) cok_mX12_init lc_ins_mX12_init rfl rfl rfl (Nat.le_of_ble_eq_true rfl) (by decide) (by decide +kernel) x_slM ?_
  refine c12 ?_
  refine x_Mt.congr' x_startW ?_
  refine x_Mt.mono hcp (fun σ v ⟨τ', e, e1, e2⟩ => ?_)
  subst e; subst e1
  refine ⟨rfl, ?_⟩
  show x_Lj Ln xs 376 15 [(1, .ref 0)] [.ref 345] (x_fu τ')
  refine L_astore (k := 2) (L' := [(2, .ref 345), (1, .ref 0)]) (by decide) (by decide +kernel) rfl ?_
  refine L_iconst (n := 0) (v := 0) (by decide +kernel) (by decide) ?_
  refine L_istore (k := 3) (L' := [(3, .int 0), (2, .ref 345), (1, .ref 0)]) (by decide) (by decide +kernel) rfl ?_
  refine L_sub [2, 1, 0] rfl ?_
  exact L_loop hL hs (Ln + 1) 0 τ' e2 (by omega) (by omega)
