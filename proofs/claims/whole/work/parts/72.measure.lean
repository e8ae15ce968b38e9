set_option maxRecDepth 20000 in
theorem p_shorten {d : Nat} {τ : x_T} {K : x_T → Prop} (F : Nat → Int) (hF : ∀ k, k < 64 → 0 ≤ F k ∧ F k ≤ 1000) {i b : Nat} (hi : i < 8) (hb : b < 8) (h : K (x_st τ 6 64 (fun k => if k / 8 = i then (if F k ≤ F (8 * i + b) + F (8 * b + k % 8) then F k else F (8 * i + b) + F (8 * b + k % 8)) else F k))) : x_CV (d + 1) mX3_shorten [.ref 1, .int (nI i), .int (nI b)] (x_st τ 6 64 F) K := by
  have e8 : (8 : Int32) = nI 8 := rfl
  have e0 : (0 : Int32) = nI 0 := rfl
  refine e_X3_shorten ⟨fun q => absurd q (nI_pos (by omega)), fun _ => ⟨fun q => absurd q (nI_ge (a := i) (b := 8) (by omega) (by decide)), fun _ => ⟨fun q => absurd q (nI_pos (by omega)), fun _ => ⟨fun _ => ?_, fun q => absurd (nI_lt (a := b) (b := 8) (by omega) (by decide)) q⟩⟩⟩⟩
  rw [e8, n_mul, n_add, Nat.mul_comm i 8]
  refine ⟨vp_in_nI (by omega) (by decide), fun y1 e1 => ?_⟩
  rw [nI_clamp (by omega), st_at (by omega)] at e1
  have r1 := hF (8 * i + b) (by omega)
  have ey : y1.toInt = F (8 * i + b) := by rw [e1]; exact z_oi (by omega)
  clear e1
  have loop : ∀ n j : Nat, n + j = 8 → x_WV (d + 1) mX3_shorten K 36 [(0, .ref 1), (1, .int (nI i)), (2, .int (nI b)), (3, .int y1), (4, .int (nI j))] [] (x_st τ 6 64 (fun k => if k / 8 = i ∧ k % 8 < j then (if F k ≤ F (8 * i + b) + F (8 * b + k % 8) then F k else F (8 * i + b) + F (8 * b + k % 8)) else F k)) := by
    intro n
    induction n with
    | zero =>
      intro j hj
      have : j = 8 := by omega
      subst this
      refine k_X3_shorten_36 ⟨fun _ => ?_, fun q => absurd (by decide) q⟩
      rw [st_cg (F' := fun k => if k / 8 = i then (if F k ≤ F (8 * i + b) + F (8 * b + k % 8) then F k else F (8 * i + b) + F (8 * b + k % 8)) else F k) (fun k hk => by
        by_cases h1 : k / 8 = i
        · rw [if_pos h1, if_pos ⟨h1, by omega⟩]
        · rw [if_neg h1, if_neg (fun z => h1 z.1)])]
      exact h
    | succ n ih =>
      intro j hj
      refine k_X3_shorten_36 ⟨fun q => absurd q (nI_ge (a := j) (b := 8) (by omega) (by decide)), fun _ y e => ?_⟩
      rw [e8, n_mul, n_add, Nat.mul_comm i 8] at e
      subst e
      rw [e8, n_mul, n_add, Nat.mul_comm b 8]
      refine ⟨vp_in_nI (by omega) (by decide), vp_in_nI (by omega) (by decide), fun y2 e2 => ⟨vp_in_nI (by omega) (by decide), fun t3 e3 y4 e4 => ?_⟩⟩
      subst e3; subst e4
      rw [nI_clamp (by omega), nI_clamp (by omega), st_at (by omega), st_at (by omega)] at e2
      have g1 : (if (8 * i + j) / 8 = i ∧ (8 * i + j) % 8 < j then (if F (8 * i + j) ≤ F (8 * i + b) + F (8 * b + (8 * i + j) % 8) then F (8 * i + j) else F (8 * i + b) + F (8 * b + (8 * i + j) % 8)) else F (8 * i + j)) = F (8 * i + j) := by rw [if_neg (by omega)]
      have g2 : (if (8 * b + j) / 8 = i ∧ (8 * b + j) % 8 < j then (if F (8 * b + j) ≤ F (8 * i + b) + F (8 * b + (8 * b + j) % 8) then F (8 * b + j) else F (8 * i + b) + F (8 * b + (8 * b + j) % 8)) else F (8 * b + j)) = F (8 * b + j) := by rw [if_neg (by omega)]
      rw [g1, g2] at e2
      have r2 := hF (8 * i + j) (by omega)
      have r3 := hF (8 * b + j) (by omega)
      have o1 : (Int32.ofInt (F (8 * i + j))).toInt = F (8 * i + j) := z_oi (by omega)
      have o2 : (y1 + Int32.ofInt (F (8 * b + j))).toInt = F (8 * i + b) + F (8 * b + j) := by rw [z_add (by rw [ey, z_oi (by omega)]; omega), ey, z_oi (by omega)]
      have ey2 : y2.toInt = if F (8 * i + j) ≤ F (8 * i + b) + F (8 * b + j) then F (8 * i + j) else F (8 * i + b) + F (8 * b + j) := by
        rw [e2]
        by_cases hc : F (8 * i + j) ≤ F (8 * i + b) + F (8 * b + j)
        · rw [if_pos hc, if_neg (by rw [z_lt, o1, o2]; omega), o1]
        · rw [if_neg hc, if_pos (by rw [z_lt, o1, o2]; omega), o2]
      rw [nI_clamp (by omega), st_w (by omega), ← nI_succ, ey2]
      rw [st_cg (F' := fun k => if k / 8 = i ∧ k % 8 < j + 1 then (if F k ≤ F (8 * i + b) + F (8 * b + k % 8) then F k else F (8 * i + b) + F (8 * b + k % 8)) else F k) (fun k hk => by
        by_cases h1 : k = 8 * i + j
        · rw [if_pos h1, if_pos (show k / 8 = i ∧ k % 8 < j + 1 by omega), show k % 8 = j by omega, h1]
        · rw [if_neg h1]
          by_cases h2 : k / 8 = i ∧ k % 8 < j
          · rw [if_pos h2, if_pos (show k / 8 = i ∧ k % 8 < j + 1 from ⟨h2.1, by omega⟩)]
          · rw [if_neg h2, if_neg (show ¬ (k / 8 = i ∧ k % 8 < j + 1) by omega)])]
      exact ih (j + 1) (by omega)
  have h0 := loop 8 0 (by omega)
  rw [st_cg (F' := F) (fun k hk => by rw [if_neg (by omega)])] at h0
  exact h0
set_option maxRecDepth 20000 in
theorem p_measure {d : Nat} {τ : x_T} {K : x_T → Prop} (ln : Nat → Int) (hl : ∀ k, k < 64 → (τ.1 5 k).toInt = ln k) (hr : ∀ k, 0 ≤ ln k ∧ ln k ≤ 9) (h : K (x_st τ 6 64 (fun k => z_fw ln 8 (k / 8) (k % 8)))) : x_CV (d + 1 + 1) mX3_measure [.ref 1] τ K := by
  have e8 : (8 : Int32) = nI 8 := rfl
  refine e_X3_measure ?_
  have inner : ∀ b : Nat, b < 8 → (x_WV (d + 1 + 1) mX3_measure K 72 [(0, .ref 1), (1, .int (nI (b + 1)))] [] (x_st τ 6 64 (fun k => z_fw ln (b + 1) (k / 8) (k % 8)))) → ∀ n i : Nat, n + i = 8 → x_WV (d + 1 + 1) mX3_measure K 80 [(0, .ref 1), (1, .int (nI b)), (2, .int (nI i))] [] (x_st τ 6 64 (fun k => if k / 8 < i then z_fw ln (b + 1) (k / 8) (k % 8) else z_fw ln b (k / 8) (k % 8))) := by
    intro b hb hx n
    induction n with
    | zero =>
      intro i hi
      have : i = 8 := by omega
      subst this
      refine k_X3_measure_80 ⟨fun _ y1 e1 => ?_, fun q => absurd (by decide) q⟩
      subst e1
      rw [← nI_succ, st_cg (F' := fun k => z_fw ln (b + 1) (k / 8) (k % 8)) (fun k hk => by rw [if_pos (by omega)])]
      exact hx
    | succ n ih =>
      intro i hi
      refine k_X3_measure_80 ⟨fun q => absurd q (nI_ge (a := i) (b := 8) (by omega) (by decide)), fun _ => ?_⟩
      refine p_shorten _ (fun k hk => ?_) (by omega) hb (fun y4 e4 => ?_)
      · have a1 := z_fw_nn hr (b + 1) (k / 8) (k % 8)
        have a2 := z_fw_nn hr b (k / 8) (k % 8)
        split <;> omega
      · subst e4
        rw [← nI_succ]
        rw [st_cg (F' := fun k => if k / 8 < i + 1 then z_fw ln (b + 1) (k / 8) (k % 8) else z_fw ln b (k / 8) (k % 8)) (fun k hk => by
          by_cases h1 : k / 8 = i
          · have g1 : (8 * i + b) / 8 = i := by omega
            have g2 : (8 * i + b) % 8 = b := by omega
            have g3 : (8 * b + k % 8) / 8 = b := by omega
            have g4 : (8 * b + k % 8) % 8 = k % 8 := by omega
            rw [if_pos h1, if_pos (by omega : k / 8 < i + 1)]
            simp only [g1, g2, g3, g4, h1, Nat.lt_irrefl, if_false, z_fw_r hr, ite_self]
            rfl
          · rw [if_neg h1]
            by_cases h2 : k / 8 < i
            · rw [if_pos h2, if_pos (by omega)]
            · rw [if_neg h2, if_neg (by omega)])]
        exact ih (i + 1) (by omega)
  have outer : ∀ n b : Nat, n + b = 8 → x_WV (d + 1 + 1) mX3_measure K 72 [(0, .ref 1), (1, .int (nI b))] [] (x_st τ 6 64 (fun k => z_fw ln b (k / 8) (k % 8))) := by
    intro n
    induction n with
    | zero =>
      intro b hb
      have : b = 8 := by omega
      subst this
      exact k_X3_measure_72 ⟨fun _ => h, fun q => absurd (by decide) q⟩
    | succ n ih =>
      intro b hb
      refine k_X3_measure_72 ⟨fun q => absurd q (nI_ge (a := b) (b := 8) (by omega) (by decide)), fun _ => ?_⟩
      have := inner b (by omega) (ih (b + 1) (by omega)) 8 0 (by omega)
      rw [st_cg (F' := fun k => z_fw ln b (k / 8) (k % 8)) (fun k hk => by rw [if_neg (by omega)])] at this
      exact this
  have row : ∀ i : Nat, i < 8 → (x_WV (d + 1 + 1) mX3_measure K 2 [(0, .ref 1), (1, .int (nI (i + 1)))] [] (x_st τ 6 64 (fun k => if k < 8 * (i + 1) then z_f0 ln (k / 8) (k % 8) else (τ.1 6 k).toInt))) → ∀ n j : Nat, n + j = 8 → x_WV (d + 1 + 1) mX3_measure K 10 [(0, .ref 1), (1, .int (nI i)), (2, .int (nI j))] [] (x_st τ 6 64 (fun k => if k < 8 * i + j then z_f0 ln (k / 8) (k % 8) else (τ.1 6 k).toInt)) := by
    intro i hi hx n
    induction n with
    | zero =>
      intro j hj
      have : j = 8 := by omega
      subst this
      refine k_X3_measure_10 ⟨fun _ y1 e1 => ?_, fun q => absurd (by decide) q⟩
      subst e1
      rw [← nI_succ]
      exact hx
    | succ n ih =>
      intro j hj
      have fin : ∀ v : Int32, v.toInt = z_f0 ln i j → x_WV (d + 1 + 1) mX3_measure K 57 [(0, .ref 1), (1, .int (nI i)), (2, .int (nI j))] [.int v, .int (nI (8 * i + j)), .ref 6] (x_st τ 6 64 (fun k => if k < 8 * i + j then z_f0 ln (k / 8) (k % 8) else (τ.1 6 k).toInt)) := by
        intro v hv
        refine k_X3_measure_57 ⟨vp_in_nI (by omega) (by decide), fun t1 e1 y2 e2 => ?_⟩
        subst e1; subst e2
        rw [nI_clamp (by omega), st_w (by omega), ← nI_succ, hv]
        rw [st_cg (F' := fun k => if k < 8 * i + (j + 1) then z_f0 ln (k / 8) (k % 8) else (τ.1 6 k).toInt) (fun k hk => by
          by_cases h1 : k = 8 * i + j
          · rw [if_pos h1, if_pos (by omega), show k / 8 = i by omega, show k % 8 = j by omega]
          · rw [if_neg h1]
            by_cases h2 : k < 8 * i + j
            · rw [if_pos h2, if_pos (by omega)]
            · rw [if_neg h2, if_neg (by omega)])]
        exact ih (j + 1) (by omega)
      refine k_X3_measure_10 ⟨fun q => absurd q (nI_ge (a := j) (b := 8) (by omega) (by decide)), fun _ y2 e2 => ?_⟩
      rw [e8, n_mul, n_add, Nat.mul_comm i 8] at e2
      subst e2
      rw [nI_clamp (by omega), st_ne (by decide)]
      have hv := hl (8 * i + j) (by omega)
      have r0 : (0 : Int32).toInt = 0 := by decide
      refine ⟨fun q => ⟨vp_in_nI (by omega) (by decide), fun r => fin _ ?_, fun r => ⟨vp_in_nI (by omega) (by decide), fin _ ?_⟩⟩, fun q => fin _ ?_⟩
      · rw [z_le, hv, r0] at r
        have hne : ¬ i = j := fun z => q (by rw [z])
        simp only [z_f0, if_neg hne, if_neg (show ¬ 0 < ln (8 * i + j) by omega)]
        decide
      · rw [z_le, hv, r0] at r
        have hne : ¬ i = j := fun z => q (by rw [z])
        simp only [z_f0, if_neg hne, if_pos (show 0 < ln (8 * i + j) by omega)]
        exact hv
      · have he : i = j := by
          have := (z_eq.mp q)
          rw [z_n (by omega), z_n (by omega)] at this
          omega
        simp only [z_f0, if_pos he]
        decide
  have first : ∀ n i : Nat, n + i = 8 → x_WV (d + 1 + 1) mX3_measure K 2 [(0, .ref 1), (1, .int (nI i))] [] (x_st τ 6 64 (fun k => if k < 8 * i then z_f0 ln (k / 8) (k % 8) else (τ.1 6 k).toInt)) := by
    intro n
    induction n with
    | zero =>
      intro i hi
      have : i = 8 := by omega
      subst this
      refine k_X3_measure_2 ⟨fun _ => ?_, fun q => absurd (by decide) q⟩
      rw [st_cg (F' := fun k => z_fw ln 0 (k / 8) (k % 8)) (fun k hk => by rw [if_pos (by omega)]; rfl)]
      exact outer 8 0 (by omega)
    | succ n ih =>
      intro i hi
      refine k_X3_measure_2 ⟨fun q => absurd q (nI_ge (a := i) (b := 8) (by omega) (by decide)), fun _ => ?_⟩
      exact row i (by omega) (ih (i + 1) (by omega)) 8 0 (by omega)
  have h0 := first 8 0 (by omega)
  rw [st_cg (F' := fun k => (τ.1 6 k).toInt) (fun k hk => by rw [if_neg (by omega)]), st_self] at h0
  exact h0
