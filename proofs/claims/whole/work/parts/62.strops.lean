section XSO
variable {d : Nat} {μ : x_M} {N0 : Nat} {Q : x_S → Option Value → Prop} {N pc : Nat} {L : List (Nat × Value)} {st : List Value} {σ : x_S}
theorem x_sCall {μ' : x_M} {n i b : Nat} {As rest : List Value} {w : Option Value} {l : Launch} {G : x_G} {p : Program} {e : Env} {s : State} {m : MethodId} {args : Array Value} {below : List Frame} {meth : Method} {c : Code} {H : Heap} {locs : List Loc} {ls : Array Slot} {Q0 : State → Prop} (X : x_Cx l G p e s m args meth c μ N0) (h1 : N ≤ N0 + μ.2.2.2.2.1) (h2 : x_sl N ≤ x_sl N0 + μ.2.2.2.2.2) (hS : va_S (x_A G) s.heap H locs) (hls : ls.size = μ.2.2.1) (hb : b < 2) (hd : decode μ.2.1 pc = .ok (.invokevirtual i, 3)) (hl' : Cond.methodLink μ.1.cls i μ'.1 ∈ x_tb) (hk : x_vok μ' n) (hC : μ'.1.cls = "java/lang/String") (hn : As.length = n) (hcat : (rest.map fun v => v.category).sum ≤ 8) (hM : x_JM d μ' G (.ref (G.2.2.2.2.1 b) :: As) w)
    (kk : ∀ locs1 : List Loc, va_S (x_A G) s.heap H locs1 → W p l e (x_rm (d + 1) μ) s m args below meth c H locs1 (N - N0) (x_sl N - x_sl N0) Q0 (F0 m (pc + 3) ls (w.toList ++ rest))) : W p l e (x_rm (d + 1) μ) s m args below meth c H locs (N - N0) (x_sl N - x_sl N0) Q0 (F0 m pc ls (As.reverse ++ .ref (G.2.2.2.2.1 b) :: rest)) := by
  obtain ⟨⟨ki, kc, kd, km⟩, kin, ksel, k0⟩ := hk
  have e1 : μ'.2.2.2.2.1 = 0 := by rw [k0]
  have e2 : μ'.2.2.2.2.2 = 0 := by rw [k0]
  exact x_Jrun (va_runV (nL := μ.2.2.1) (own := μ.1.cls) (C := "java/lang/String") ⟨X.1, X.2.1, X.2.2.2.1, X.2.2.2.2.1, X.2.2.2.2.2.2.2.1⟩ (hM l)
    (cwV n X.2.2.2.2.2.2.2.1 (by
      intro w hw
      unfold wsV at hw
      rcases List.mem_append.mp hw with hw | hw
      · refine x_goodL (ws := [.methodLink μ.1.cls i μ'.1, .instanceMethod μ'.1, .selects "java/lang/String" μ'.1 μ'.1, .initialized "java/lang/String"]) (fun w hw => ?_) w hw
        rw [← hC] at hw
        simp only [List.mem_cons, List.not_mem_nil, or_false] at hw
        rcases hw with rfl | rfl | rfl | rfl
        · exact hl'
        · exact kin
        · exact ksel
        · exact ki
      · exact x_good kc w hw) rfl e1 e2 ⟨hC, kd⟩ ⟨by show d + 1 ≤ d + 1; omega, by show 8 + (μ'.2.2.1 + 11) + 40 * d ≤ 40 * (d + 1); omega⟩)
    ⟨x_blindJ, vk_recv X.2.2.2.2.2.2.2.2.1.2.2.2.2.1 hb hS, fun U hU hV => ⟨rfl, x_enterJ X.2.2.2.2.2.2.2.2.1 hS hU hV⟩⟩ rfl hn hls rfl (lv_room hcat) hd ⟨by show N - N0 + 0 ≤ μ.2.2.2.2.1; omega, by show x_sl N - x_sl N0 + 0 ≤ μ.2.2.2.2.2; omega⟩) hS kk
/-- WORDS.length() -/
theorem o_wlen (hcl : μ.1.cls = "NoonOnABarrow$Tape") (d1 : decode μ.2.1 pc = .ok (.ldc 59, 2)) (d2 : decode μ.2.1 (pc + 2) = .ok (.invokevirtual 61, 3)) (hcat : (st.map fun v => v.category).sum ≤ 8) (h : x_Wg (d + 1 + 1) μ N0 Q N (pc + 2 + 3) L (.int 160 :: st) σ) : x_Wg (d + 1 + 1) μ N0 Q N pc L st σ := by
  intro l G p e s m args below meth c X h0 h1 h2 H locs ls hW hS hl
  refine va_ldcS X.1 X.2.1 (own := "NoonOnABarrow$Tape") (by rw [← hcl]; exact X.2.2.2.2.1) X.2.2.2.2.2.2.2.2.1.2.2.2.2.2.1 d1 ?_
  exact x_sCall (b := 0) (As := []) X h1 h2 hS hl.1 (by decide) d2 (by rw [hcl]; exact jl_T_61) jvk_len rfl rfl (by rw [x_cats]; exact hcat) (j_len (by decide)) (fun locs1 hS1 => h l G p e s m args below meth c X h0 h1 h2 H locs1 ls hW hS1 hl)
/-- WORDS.charAt(i) -/
theorem o_wchar {k j q : Nat} (hcl : μ.1.cls = "NoonOnABarrow$Tape") (d1 : decode μ.2.1 pc = .ok (.ldc 59, 2)) (d2 : decode μ.2.1 (pc + 2) = .ok (.iload k, 2)) (d3 : decode μ.2.1 (pc + 2 + 2) = .ok (.invokevirtual 66, 3)) (hL : L[j]? = some (k, .int (nI q))) (hq : q < 160) (hcat : (st.map fun v => v.category).sum ≤ 8) (h : x_Wg (d + 1 + 1 + 1 + 1) μ N0 Q N (pc + 2 + 2 + 3) L (.int (x_ch 0 q) :: st) σ) : x_Wg (d + 1 + 1 + 1 + 1) μ N0 Q N pc L st σ := by
  intro l G p e s m args below meth c X h0 h1 h2 H locs ls hW hS hl
  refine va_ldcS X.1 X.2.1 (own := "NoonOnABarrow$Tape") (by rw [← hcl]; exact X.2.2.2.2.1) X.2.2.2.2.2.2.2.2.1.2.2.2.2.2.1 d1 ?_
  refine lv_iload (x := nI q) X.1 X.2.1 d2 (x_lat hl hL) ?_
  exact x_sCall (b := 0) (As := [.int (nI q)]) X h1 h2 hS hl.1 (by decide) d3 (by rw [hcl]; exact jl_T_66) jvk_charAt rfl rfl (by rw [x_cats]; exact hcat) (j_charAt (by decide) hq) (fun locs1 hS1 => h l G p e s m args below meth c X h0 h1 h2 H locs1 ls hW hS1 hl)
/-- SIGNS.indexOf((char) x) -/
theorem o_sidx {j : Nat} {k : Fin 4} {x : Int32} (hcl : μ.1.cls = "NoonOnABarrow$Tape") (d1 : decode μ.2.1 pc = .ok (.ldc 75, 2)) (d2 : decode μ.2.1 (pc + 2) = .ok (.iload_n k, 1)) (d3 : decode μ.2.1 (pc + 2 + 1) = .ok (.i2c, 1)) (d4 : decode μ.2.1 (pc + 2 + 1 + 1) = .ok (.invokevirtual 77, 3)) (hL : L[j]? = some ((k : Nat), .int x)) (hx0 : ¬ (x.toUInt32 % 65536).toInt32 < 0) (hx1 : ¬ 255 < (x.toUInt32 % 65536).toInt32) (hcat : (st.map fun v => v.category).sum ≤ 8) (h : x_Wg (d + 1 + 1 + 1 + 1) μ N0 Q N (pc + 2 + 1 + 1 + 3) L (.int (x_ix (x.toUInt32 % 65536).toInt32) :: st) σ) : x_Wg (d + 1 + 1 + 1 + 1) μ N0 Q N pc L st σ := by
  intro l G p e s m args below meth c X h0 h1 h2 H locs ls hW hS hl
  refine va_ldcS X.1 X.2.1 (own := "NoonOnABarrow$Tape") (by rw [← hcl]; exact X.2.2.2.2.1) X.2.2.2.2.2.2.2.2.1.2.2.2.2.2.2.1 d1 ?_
  refine lv_iload_n (i := k) (x := x) X.1 X.2.1 d2 rfl (x_lat hl hL) ?_
  refine lv_i2c X.1 X.2.1 d3 rfl ?_
  exact x_sCall (b := 1) (As := [.int (x.toUInt32 % 65536).toInt32]) X h1 h2 hS hl.1 (by decide) d4 (by rw [hcl]; exact jl_T_77) jvk_ix rfl rfl (by rw [x_cats]; exact hcat) (j_ix hx0 hx1) (fun locs1 hS1 => h l G p e s m args below meth c X h0 h1 h2 H locs1 ls hW hS1 hl)
end XSO
