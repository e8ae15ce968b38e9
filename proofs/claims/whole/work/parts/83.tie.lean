/-! what ties the class and the model -/
def x_op (o : Int) : Int := if o = 400 then 45 else if o = 401 then 48 else if o = 402 then 49 else if o = 403 then 14 else if o = 404 then 50 else if o = 405 then 19 else if o = 406 then 21 else if o = 407 then 20 else if o = 409 then 51 else if o = 43 then 36 else if o = 45 then 37 else if o = 42 then 38 else if o = 47 then 39 else if o = 60 then 32 else if o = 62 then 33 else if o = 61 then 34 else if o = 35 then 35 else if o = 300 then 43 else 44
/-- a law's steps take what they join from a stack of the right shape -/
def z_ty (O V : Nat → Int) (N w : Nat) (T : Nat → List Bool) : Prop := T 0 = [] ∧ T N = [false] ∧ (∀ i, i ≤ N → (T i).length ≤ 60) ∧ ∀ i, i < N →
  (O i = 400 ∧ 0 ≤ V i ∧ V i ≤ 9999 ∧ T (i + 1) = false :: T i)
  ∨ (O i = 401 ∧ (∃ j : Nat, x_al w j ∧ j < 12 ∧ V i = j) ∧ T (i + 1) = false :: T i)
  ∨ (O i = 402 ∧ ∃ r, T i = false :: r ∧ T (i + 1) = false :: r)
  ∨ (O i = 405 ∧ ∃ r, T i = true :: r ∧ T (i + 1) = true :: r)
  ∨ (O i = 404 ∧ ∃ (r : List Bool) (j : Nat), T i = true :: r ∧ T (i + 1) = r ∧ V i = j ∧ i < j ∧ j ≤ N ∧ T j = r)
  ∨ (O i = 409 ∧ ∃ j : Nat, V i = j ∧ i < j ∧ j ≤ N ∧ T j = T i)
  ∨ ((O i = 43 ∨ O i = 45 ∨ O i = 42 ∨ O i = 47 ∨ O i = 403) ∧ ∃ r, T i = false :: false :: r ∧ T (i + 1) = false :: r)
  ∨ ((O i = 60 ∨ O i = 62 ∨ O i = 61 ∨ O i = 35 ∨ O i = 300 ∨ O i = 301) ∧ ∃ r, T i = false :: false :: r ∧ T (i + 1) = true :: r)
  ∨ ((O i = 406 ∨ O i = 407) ∧ ∃ r, T i = true :: true :: r ∧ T (i + 1) = true :: r)
def z_gv (F : Nat) (o v g : Int) : Prop := (o = 400 → g = v) ∧ (o = 401 → g = (x_wd v.toNat : Nat)) ∧ (o = 404 ∨ o = 409 → g = F + v)
def z_vv (P : Nat) (o v g : Int) : Prop := (o = 400 ∨ o = 401 → g = v) ∧ (o = 404 ∨ o = 409 → g = P + v)
def j_code (τ : x_T) (t w P : Nat) : Prop := ∃ (F N : Nat) (O V : Nat → Int) (T : Nat → List Bool), (τ.1 (140 + 9 * t + 5) w).toInt = F ∧ (τ.1 (140 + 9 * t + 6) w).toInt = F + N ∧ 0 < N ∧ F + N ≤ 300 ∧ P + N < 400 * t + 400 ∧ z_ty O V N w T
  ∧ (∀ i, i < N → (τ.1 355 (P + i)).toInt = O i ∧ z_vv P (O i) (V i) (τ.1 356 (P + i)).toInt ∧ (τ.1 (140 + 9 * t + 7) (F + i)).toInt = x_op (O i) ∧ z_gv F (O i) (V i) (τ.1 (140 + 9 * t + 8) (F + i)).toInt)
  ∧ (τ.1 355 (P + N)).toInt = 408
def j_num (τ : x_T) (t k : Nat) (w : Int) : Prop := (w = 4 ∨ w = 5 ∨ w = 6 ∨ w = 7 ∨ w = 10 → (τ.1 (140 + 9 * t + 2) k).toInt = (τ.1 352 (24 * t + k)).toInt)
  ∧ (w = 5 ∨ w = 7 → (τ.1 (140 + 9 * t + 3) k).toInt = (τ.1 353 (24 * t + k)).toInt)
  ∧ (w = 5 → (τ.1 (140 + 9 * t + 4) k).toInt = (τ.1 354 (24 * t + k)).toInt)
  ∧ (w = 10 → 1 ≤ (τ.1 352 (24 * t + k)).toInt ∧ (τ.1 352 (24 * t + k)).toInt ≤ 60)
def j_text (τ : x_T) (t : Nat) : Prop := ∃ n : Nat, n ≤ 24 ∧ (τ.1 (140 + 9 * t) 4).toInt = n ∧ (τ.1 349 t).toInt = n
  ∧ (∀ k, k < n → (τ.1 (140 + 9 * t + 1) k).toInt = (τ.1 350 (24 * t + k)).toInt ∧ 0 ≤ (τ.1 350 (24 * t + k)).toInt ∧ (τ.1 350 (24 * t + k)).toInt ≤ 10 ∧ j_num τ t k (τ.1 350 (24 * t + k)).toInt)
  ∧ (∀ w : Nat, w < 4 → ((τ.1 (140 + 9 * t + 6) w).toInt ≤ (τ.1 (140 + 9 * t + 5) w).toInt ∧ ∀ k, k < n → ¬ (τ.1 350 (24 * t + k)).toInt = w)
    ∨ (∃ (k P : Nat), k < n ∧ (τ.1 350 (24 * t + k)).toInt = w ∧ (∀ k', k' < n → (τ.1 350 (24 * t + k')).toInt = w → k' = k) ∧ (τ.1 351 (24 * t + k)).toInt = P ∧ j_code τ t w P))
/-- the steps kept -/
def x_cs (P : Nat) (τ : x_T) (A : Nat → Int) : Prop := (τ.1 P 2).toInt = A 4 ∧ 0 ≤ A 4 ∧ A 4 ≤ 30 ∧ ∃ f : Nat, f < 30 ∧ (τ.1 P 1).toInt = f ∧ ∀ i : Nat, (i : Int) < A 4 → x_cd (P + 2 + 4 * ((f + i) % 30)) τ (fun k => A (250 + 114 * i + k)) ∧ w_D A (fun k => A (250 + 114 * i + k))
/-- land, day and steps -/
def x_hf (B D P : Nat) (τ : x_T) (A : Nat → Int) : Prop := w_A A ∧ x_cl B τ A ∧ w_D A (fun k => A (130 + k)) ∧ x_cd D τ (fun k => A (130 + k)) ∧ x_cs P τ A
def j_A (τ : x_T) (k : Nat) : Int := (τ.1 346 k).toInt
def j_I (τ : x_T) (k : Nat) : Int := (τ.1 347 k).toInt
def j_mis (τ : x_T) : Prop := ((τ.1 0 4).toInt = j_A τ 2 ∧ (τ.1 0 5).toInt = j_A τ 3 ∧ (τ.1 0 9).toInt = j_I τ 2 ∧ (τ.1 0 10).toInt = j_I τ 3)
  ∧ (0 ≤ j_A τ 2 ∧ j_A τ 2 ≤ 4 ∧ -1 ≤ j_A τ 3 ∧ j_A τ 3 < j_A τ 2 ∧ 0 ≤ j_I τ 2 ∧ j_I τ 2 ≤ j_A τ 2 ∧ -1 ≤ j_I τ 3 ∧ j_I τ 3 < j_I τ 2)
  ∧ τ.2.2.2 = (if j_A τ 3 = -1 then none else some (140 + 9 * (j_A τ 3).toNat))
def j_tape (τ : x_T) : Prop := (τ.1 314 1).toInt = (τ.1 345 3).toInt ∧ 0 ≤ (τ.1 345 3).toInt ∧ (τ.1 345 3).toInt ≤ 300 ∧ ∀ k, k < 300 → (τ.1 315 k).toInt = (τ.1 348 k).toInt % 256 ∧ -128 ≤ (τ.1 348 k).toInt ∧ (τ.1 348 k).toInt < 128
def j_flt (τ : x_T) : Prop := τ.1 319 4 = τ.1 345 4 ∧ τ.1 319 5 = τ.1 345 5
def x_J (τ : x_T) : Prop := x_hf 1 13 17 τ (j_A τ) ∧ x_hf 176 188 192 τ (j_I τ) ∧ j_mis τ ∧ j_tape τ ∧ j_flt τ ∧ ∀ t : Nat, (t : Int) < j_A τ 2 → j_text τ t
/-! frames of the tie -/
theorem text_fr {τ σ : x_T} {t : Nat} (ht : t < 4) (h : j_text τ t) (g : ∀ c, (140 ≤ c ∧ c ≤ 175) ∨ (349 ≤ c ∧ c ≤ 356) → σ.1 c = τ.1 c) : j_text σ t := by
  have g0 := g (140 + 9 * t) (by omega)
  have g1 := g (140 + 9 * t + 1) (by omega)
  have g2 := g (140 + 9 * t + 2) (by omega)
  have g3 := g (140 + 9 * t + 3) (by omega)
  have g4 := g (140 + 9 * t + 4) (by omega)
  have g5 := g (140 + 9 * t + 5) (by omega)
  have g6 := g (140 + 9 * t + 6) (by omega)
  have g7 := g (140 + 9 * t + 7) (by omega)
  have g8 := g (140 + 9 * t + 8) (by omega)
  unfold j_text j_num j_code at h ⊢
  rw [g0, g1, g2, g3, g4, g5, g6, g7, g8, g 349 (by omega), g 350 (by omega), g 351 (by omega), g 352 (by omega), g 353 (by omega), g 354 (by omega), g 355 (by omega), g 356 (by omega)]
  exact h
theorem cs_fr {P : Nat} {τ σ : x_T} {A : Nat → Int} (h : x_cs P τ A) (g : ∀ c, P ≤ c ∧ c ≤ P + 121 → σ.1 c = τ.1 c) : x_cs P σ A := by
  obtain ⟨h1, h2, h3, f, hf, h4, h5⟩ := h
  refine ⟨by rw [g P (by omega)]; exact h1, h2, h3, f, hf, by rw [g P (by omega)]; exact h4, fun i hi => ⟨?_, (h5 i hi).2⟩⟩
  have hm : (f + i) % 30 < 30 := Nat.mod_lt _ (by omega)
  exact cd_fr (h5 i hi).1 (g _ (by omega)) (g _ (by omega)) (g _ (by omega)) (g _ (by omega))
theorem clB_fr {B : Nat} {τ σ : x_T} {A : Nat → Int} (h : x_cl B τ A) (h1 : ∀ c, B ≤ c ∧ c ≤ B + 11 → σ.1 c = τ.1 c) : x_cl B σ A := by
  unfold x_cl at h ⊢
  rw [h1 B (by omega), h1 (B + 1) (by omega), h1 (B + 2) (by omega), h1 (B + 3) (by omega), h1 (B + 4) (by omega), h1 (B + 5) (by omega), h1 (B + 6) (by omega), h1 (B + 7) (by omega), h1 (B + 8) (by omega), h1 (B + 9) (by omega), h1 (B + 10) (by omega), h1 (B + 11) (by omega)]
  exact h
theorem hf_fr {B D P : Nat} {τ σ : x_T} {A : Nat → Int} (h : x_hf B D P τ A) (g : ∀ c, (B ≤ c ∧ c ≤ B + 11) ∨ (D ≤ c ∧ c ≤ D + 3) ∨ (P ≤ c ∧ c ≤ P + 121) → σ.1 c = τ.1 c) : x_hf B D P σ A :=
  ⟨h.1, clB_fr h.2.1 (fun c hc => g c (by omega)), h.2.2.1, cd_fr h.2.2.2.1 (g _ (by omega)) (g _ (by omega)) (g _ (by omega)) (g _ (by omega)), cs_fr h.2.2.2.2 (fun c hc => g c (by omega))⟩
/-- cells that no later call looks at -/
def x_sc (c : Nat) : Prop := (329 ≤ c ∧ c ≤ 344) ∨ 357 ≤ c
theorem J_fr {τ σ : x_T} (h : x_J τ) (g : x_fr x_sc τ σ) : x_J σ := by
  have gc : ∀ c, c < 329 ∨ (345 ≤ c ∧ c ≤ 356) → σ.1 c = τ.1 c := fun c hc => g.1 c (by unfold x_sc; omega)
  have eA : j_A σ = j_A τ := by funext k; unfold j_A; rw [gc 346 (by omega)]
  have eI : j_I σ = j_I τ := by funext k; unfold j_I; rw [gc 347 (by omega)]
  obtain ⟨h1, h2, h3, h4, h5, h6⟩ := h
  refine ⟨?_, ?_, ?_, ?_, ?_, ?_⟩
  · rw [eA]; exact hf_fr h1 (fun c hc => gc c (by omega))
  · rw [eI]; exact hf_fr h2 (fun c hc => gc c (by omega))
  · unfold j_mis at h3 ⊢
    rw [eA, eI, gc 0 (by omega), g.2]; exact h3
  · unfold j_tape at h4 ⊢
    rw [gc 314 (by omega), gc 345 (by omega), gc 315 (by omega), gc 348 (by omega)]; exact h4
  · unfold j_flt at h5 ⊢
    rw [gc 319 (by omega), gc 345 (by omega)]; exact h5
  · intro t ht
    rw [eA] at ht
    have := h3.2.1
    exact text_fr (by omega) (h6 t ht) (fun c hc => gc c (by omega))
