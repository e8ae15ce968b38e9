theorem z_some {α : Type} {a : α} {o : Option α} {P : Prop} (h : o = some a) (g : o = none) : P := by rw [h] at g; exact absurd g (by simp)
theorem cl_hardness {d D : Nat} (hD : x_sh D = (1, 11)) (hD2 : D < 329 ∨ 331 < D) {a b p : Int32} {τ : x_T} {A e : Nat → Int} {L : x_L} {K : x_T → Int32 → Prop} (cc : x_cc τ A L) (wA : w_A A) (he : x_cd D τ e) (w5 : 0 ≤ e 5 ∧ e 5 ≤ 9999) (ha : 0 ≤ a.toInt ∧ a.toInt ≤ 9) (hb : 0 ≤ b.toInt ∧ b.toInt ≤ 9) (h : ∀ (σ : x_T) (u : Int32), x_fr x_sL τ σ → u.toInt = z_hard A L e a.toInt b.toInt p.toInt → K σ u) : x_CI (d + 1 + 1) mX4_hardness [.ref 329, .ref D, .int a, .int b, .int p] τ K := by
  have b1 := z_ln_b wA a.toInt b.toInt
  have b2 := z_hl_b wA a.toInt
  have b3 := z_hl_b wA b.toInt
  have b4 := z_sg_b wA p.toInt
  refine e_X4_hardness hD (cl_laneBetween cc.1 wA (fun u hu => ?_))
  cases hL : L 0 with
  | none =>
    refine (cc.2 τ (fun _ _ => rfl) rfl 0 (by omega) _ _).1 hL ⟨fun q => absurd rfl q, fun _ => cl_hillOf cc.1 wA (fun u1 h1 => cl_hillOf cc.1 wA (fun u2 h2 y ey => h _ _ (fr_r _ _) ?_))⟩
    have m1 : (u * 3).toInt = u.toInt * 3 := z_mul (by simp only [Int32.reduceToInt]; omega)
    have m2 : (u * 3 + u1).toInt = u.toInt * 3 + u1.toInt := by rw [z_add (by omega), m1]
    have m3 : (u * 3 + u1 - u2).toInt = u.toInt * 3 + u1.toInt - u2.toInt := by rw [z_sub (by omega), m2]
    rw [ey, z_hard, hL]
    simp only []
    split
    · rename_i q; rw [z_lt, m3] at q; simp only [Int32.reduceToInt] at q; rw [m3]; omega
    · rename_i q; rw [z_lt, m3] at q; simp only [Int32.reduceToInt] at q ⊢; omega
  | some f =>
    refine ((cc.2 τ (fun _ _ => rfl) rfl 0 (by omega) _ _).2 f hL).1 ⟨fun _ => cl_nameHere hD hD2 cc.1 wA (cd_0 he (by omega)) (fun σ fs s10 s22 s23 t7 e7 t8 e8 => ?_), fun q => absurd q z_10⟩
    subst e7; subst e8
    have f1 : x_fr x_sL τ (x_w1 (x_w1 σ 330 27 b) 330 5 u) := fr_w (fr_w fs (by unfold x_sL; omega)) (by unfold x_sL; omega)
    refine cl_strengthOf (cc_fr cc f1 sL_cc).1 wA (fun u3 h3 t11 e11 => ?_)
    subst e11
    have f2 := fr_w (c := 330) (k := 28) (v := u3) f1 (by unfold x_sL; omega)
    refine ((cc.2 _ (fun c hc => f2.1 c (by unfold x_sL; omega)) f2.2 0 (by omega) _ _).2 f hL).2 (z_e4 (e 5) a.toInt (z_hl A a.toInt) b.toInt (z_ln A a.toInt b.toInt) (z_sg A p.toInt) 6) (fun j _ => e4_b (by omega) (by omega) (by omega) (by omega) (by omega) (by omega) j) (fun j hj => ?_) (fun ρ v fρ hv => ch_held (by decide) (fun u5 h5 => h _ _ (fr_t f2 (fr_m sL_said fρ)) ?_))
    · have : j = 0 ∨ j = 1 ∨ j = 2 ∨ j = 6 ∨ j = 7 ∨ j = 8 := by unfold x_al at hj; omega
      rcases this with rfl | rfl | rfl | rfl | rfl | rfl <;> simp only [w1_at, x_wd, z_e4, Nat.reduceEqDiff, Nat.reduceAdd, Nat.reduceLT, and_false, if_false, and_self, if_true, s10, s22, s23, hu, h3, and_true, true_and]
    · rw [h5, hv, z_hard, hL]; rfl
theorem cl_wearing {d D : Nat} (hD : x_sh D = (1, 11)) (hD2 : D < 329 ∨ 331 < D) {τ : x_T} {A e : Nat → Int} {L : x_L} {K : x_T → Int32 → Prop} (cc : x_cc τ A L) (wA : w_A A) (he : x_cd D τ e) (hB : 0 ≤ e 0 ∧ e 0 ≤ 9 ∧ 0 ≤ e 2 ∧ e 2 ≤ 9999 ∧ 0 ≤ e 4 ∧ e 4 ≤ 99 ∧ 0 ≤ e 5 ∧ e 5 ≤ 9999) (h : ∀ (σ : x_T) (u : Int32), x_fr x_sL τ σ → u.toInt = z_wear A L e → K σ u) : x_CI (d + 1 + 1) mX4_wearing [.ref 329, .ref D] τ K := by
  refine e_X4_wearing hD ?_
  have b4 := z_hl_b wA (e 0)
  have e0 := cd_0 he (k := 0) (by omega)
  cases hL : L 1 with
  | none =>
    refine (cc.2 τ (fun _ _ => rfl) rfl 1 (by omega) _ _).1 hL ⟨fun q => absurd rfl q, fun _ => h _ _ (fr_r _ _) ?_⟩
    rw [z_wear, hL]; rfl
  | some f =>
    refine ((cc.2 τ (fun _ _ => rfl) rfl 1 (by omega) _ _).2 f hL).1 ⟨fun _ => cl_nameHere hD hD2 cc.1 wA (cd_0 he (by omega)) (fun σ fs s10 s22 s23 t7 e7 t8 e8 => ?_), fun q => absurd q z_10⟩
    have hDs : σ.1 D = τ.1 D := fs.1 D (by unfold x_sL; omega)
    have hDn : ¬ D = 330 := by omega
    subst e7; subst e8
    have f2 : x_fr x_sL τ (x_w1 (x_w1 σ 330 29 (σ.1 D 4)) 330 30 ((x_w1 σ 330 29 (σ.1 D 4)).1 D 2)) := fr_w (fr_w fs (by unfold x_sL; omega)) (by unfold x_sL; omega)
    refine ((cc.2 _ (fun c hc => f2.1 c (by unfold x_sL; omega)) f2.2 1 (by omega) _ _).2 f hL).2 (z_e4 (e 5) (e 0) (z_hl A (e 0)) (e 4) (e 2) 0 9) (fun j _ => e4_b (by omega) (by omega) (by omega) (by omega) (by omega) (by omega) j) (fun j hj => ?_) (fun ρ v fρ hv => ch_held (by decide) (fun u5 h5 => h _ _ (fr_t f2 (fr_m sL_said fρ)) ?_))
    · have q4 := cd_0 he (k := 4) (by omega)
      have q2 := cd_0 he (k := 2) (by omega)
      rw [e0] at s23
      have : j = 0 ∨ j = 1 ∨ j = 2 ∨ j = 9 ∨ j = 10 := by unfold x_al at hj; omega
      rcases this with rfl | rfl | rfl | rfl | rfl <;> simp only [w1_at, x_wd, z_e4, Nat.reduceEqDiff, Nat.reduceAdd, Nat.reduceLT, and_false, if_false, and_self, if_true, s10, s22, s23, hDs, hDn, false_and, q4, q2, e0, and_true, true_and]
    · rw [h5, hv, z_wear, hL]; rfl
theorem cl_paleOf {d D : Nat} (hD : x_sh D = (1, 11)) {a : Int32} {τ : x_T} {e : Nat → Int} {K : x_T → Int32 → Prop} (he : x_cd D τ e) (ha : 0 ≤ a.toInt ∧ a.toInt < 8) (h : ∀ u : Int32, u.toInt = e (15 + a.toInt.toNat) → K τ u) : x_CI d mX1_paleOf [.ref D, .int a] τ K := by
  refine e_X1_paleOf hD ⟨fun q => ?_, fun _ => ⟨fun q => ?_, fun _ => ⟨ix_n (by omega), h _ ?_⟩⟩⟩
  · simp (disch := first | omega | (simp only [Int32.reduceToInt]; omega)) only [z_lt, z_le, z_eq, z_in, z_add, z_sub, z_mul, z_n, z_neg, Int32.reduceToInt] at q; omega
  · simp (disch := first | omega | (simp only [Int32.reduceToInt]; omega)) only [z_lt, z_le, z_eq, z_in, z_add, z_sub, z_mul, z_n, z_neg, Int32.reduceToInt] at q; omega
  · rw [z_cl, cd_2 he (by omega)]
theorem cl_purseOf {d D : Nat} (hD : x_sh D = (1, 11)) {a : Int32} {τ : x_T} {e : Nat → Int} {K : x_T → Int32 → Prop} (he : x_cd D τ e) (ha : 0 ≤ a.toInt ∧ a.toInt < 8) (h : ∀ u : Int32, u.toInt = e (7 + a.toInt.toNat) → K τ u) : x_CI d mX1_purseOf [.ref D, .int a] τ K := by
  refine e_X1_purseOf hD ⟨fun q => ?_, fun _ => ⟨fun q => ?_, fun _ => ⟨ix_n (by omega), h _ ?_⟩⟩⟩
  · simp (disch := first | omega | (simp only [Int32.reduceToInt]; omega)) only [z_lt, z_le, z_eq, z_in, z_add, z_sub, z_mul, z_n, z_neg, Int32.reduceToInt] at q; omega
  · simp (disch := first | omega | (simp only [Int32.reduceToInt]; omega)) only [z_lt, z_le, z_eq, z_in, z_add, z_sub, z_mul, z_n, z_neg, Int32.reduceToInt] at q; omega
  · rw [z_cl, cd_1 he (by omega)]
theorem cl_earning {d D i : Nat} (hD : x_sh D = (1, 11)) (hD2 : D + 3 < 329 ∨ 331 < D) {a : Int32} {τ : x_T} {A e : Nat → Int} {L : x_L} {K : x_T → Int32 → Prop} (cc : x_cc τ A L) (wA : w_A A) (he : x_cd D τ e) (wD : w_D A e) (ha : a.toInt = i) (hi : i < 8) (h : ∀ (σ : x_T) (u : Int32), x_fr x_sL τ σ → u.toInt = z_earn A L e i → K σ u) : x_CI (d + 1 + 1) mX4_earning [.ref 329, .ref D, .int a] τ K := by
  have b1 := z_hour_b A (e 0) i
  have b4 := z_hl_b wA i
  have b5 := wD.2.2.2.2.2.1
  have b6 := wD.2.2.2.2.2.2.2.1 i hi
  have b7 := wD.2.2.2.2.2.2.2.2.1 i hi
  have e0 := cd_0 he (k := 0) (by omega)
  refine e_X4_earning hD (cl_hourBy cc.1 wA (fun u hu => ?_))
  rw [e0, ha] at hu
  cases hL : L 2 with
  | none =>
    refine (cc.2 τ (fun _ _ => rfl) rfl 2 (by omega) _ _).1 hL ⟨fun q => absurd rfl q, fun _ y ey => h _ _ (fr_r _ _) ?_⟩
    have m1 : (u - 12).toInt = u.toInt - 12 := z_sub (by simp only [Int32.reduceToInt]; omega)
    have m2 : (0 - (u - 12)).toInt = 0 - (u.toInt - 12) := by rw [z_sub (by simp only [Int32.reduceToInt]; omega), m1]; rfl
    rw [z_earn, hL]
    simp only [z_ab]
    have hy : y.toInt = if 12 ≤ u.toInt then u.toInt - 12 else 12 - u.toInt := by
      rw [ey]
      split
      · rename_i q; rw [z_le, m1] at q; simp only [Int32.reduceToInt] at q; rw [m1, if_pos (by omega)]
      · rename_i q; rw [z_le, m1] at q; simp only [Int32.reduceToInt] at q; rw [m2, if_neg (by omega)]; omega
    rw [z_sub (by rw [hy]; simp only [Int32.reduceToInt]; split <;> omega), hy, hu]
    rfl
  | some f =>
    refine ((cc.2 τ (fun _ _ => rfl) rfl 2 (by omega) _ _).2 f hL).1 ⟨fun _ => cl_nameHere hD (by omega) cc.1 wA (cd_0 he (by omega)) (fun σ fs s10 s22 s23 t7 e7 => ?_), fun q => absurd q z_10⟩
    subst e7
    have he1 : x_cd D (x_w1 σ 330 24 u) e := by
      have f1 : x_fr x_sL τ (x_w1 σ 330 24 u) := fr_w fs (by unfold x_sL; omega)
      exact cd_fr he (f1.1 _ (by unfold x_sL; omega)) (f1.1 _ (by unfold x_sL; omega)) (f1.1 _ (by unfold x_sL; omega)) (f1.1 _ (by unfold x_sL; omega))
    refine cl_paleOf hD he1 (by omega) (fun u1 h1 t10 e10 => ?_)
    subst e10
    have he2 : x_cd D (x_w1 (x_w1 σ 330 24 u) 330 25 u1) e := by
      have f1 : x_fr x_sL τ (x_w1 (x_w1 σ 330 24 u) 330 25 u1) := fr_w (fr_w fs (by unfold x_sL; omega)) (by unfold x_sL; omega)
      exact cd_fr he (f1.1 _ (by unfold x_sL; omega)) (f1.1 _ (by unfold x_sL; omega)) (f1.1 _ (by unfold x_sL; omega)) (f1.1 _ (by unfold x_sL; omega))
    refine cl_purseOf hD he2 (by omega) (fun u2 h2 t13 e13 => ?_)
    subst e13
    have f2 : x_fr x_sL τ (x_w1 (x_w1 (x_w1 σ 330 24 u) 330 25 u1) 330 26 u2) := fr_w (fr_w (fr_w fs (by unfold x_sL; omega)) (by unfold x_sL; omega)) (by unfold x_sL; omega)
    refine ((cc.2 _ (fun c hc => f2.1 c (by unfold x_sL; omega)) f2.2 2 (by omega) _ _).2 f hL).2 (z_e4 (e 5) i (z_hl A i) (z_hour A (e 0) i) (e (15 + i)) (e (7 + i)) 3) (fun j _ => e4_b (by omega) (by omega) (by omega) (by omega) (by omega) (by omega) j) (fun j hj => ?_) (fun ρ v fρ hv => ch_held (by decide) (fun u5 h5 => h _ _ (fr_t f2 (fr_m sL_said fρ)) ?_))
    · rw [ha] at s23
      rw [ha, Int.toNat_natCast] at h1 h2
      have : j = 0 ∨ j = 1 ∨ j = 2 ∨ j = 3 ∨ j = 4 ∨ j = 5 := by unfold x_al at hj; omega
      rcases this with rfl | rfl | rfl | rfl | rfl | rfl <;> simp only [w1_at, x_wd, z_e4, Nat.reduceEqDiff, Nat.reduceAdd, Nat.reduceLT, and_false, if_false, and_self, if_true, s10, s22, s23, hu, h1, h2, ha, and_true, true_and]
    · rw [h5, hv, z_earn, hL]; rfl
theorem cl_warmth {d D : Nat} (hD : x_sh D = (1, 11)) (hD2 : D < 329 ∨ 331 < D) {a b : Int32} {τ : x_T} {A e : Nat → Int} {L : x_L} {K : x_T → Int32 → Prop} (cc : x_cc τ A L) (wA : w_A A) (he : x_cd D τ e) (w5 : 0 ≤ e 5 ∧ e 5 ≤ 9999) (ha : 0 ≤ a.toInt ∧ a.toInt ≤ 9) (hb : 0 ≤ b.toInt ∧ b.toInt ≤ 9) (h : ∀ (σ : x_T) (u : Int32), x_fr x_sL τ σ → u.toInt = z_warm A L e a.toInt b.toInt → K σ u) : x_CI (d + 1 + 1) mX4_warmth [.ref 329, .ref D, .int a, .int b] τ K := by
  have b1 := z_far_b wA a.toInt b.toInt
  refine e_X4_warmth hD ?_
  have b4 := z_hl_b wA a.toInt
  cases hL : L 3 with
  | none =>
    refine (cc.2 τ (fun _ _ => rfl) rfl 3 (by omega) _ _).1 hL ⟨fun q => absurd rfl q, fun _ => cl_wayBetween cc.1 wA (fun u hu y ey => h _ _ (fr_r _ _) ?_)⟩
    have m1 : (5 * u).toInt = 5 * u.toInt := z_mul (by simp only [Int32.reduceToInt]; omega)
    have m2 : (30 - 5 * u).toInt = 30 - 5 * u.toInt := by rw [z_sub (by simp only [Int32.reduceToInt]; omega), m1]; rfl
    rw [ey, z_warm, hL]
    simp only []
    split
    · rename_i q; rw [z_lt, m2] at q; simp only [Int32.reduceToInt] at q; rw [m2]; omega
    · rename_i q; rw [z_lt, m2] at q; simp only [Int32.reduceToInt] at q ⊢; omega
  | some f =>
    refine ((cc.2 τ (fun _ _ => rfl) rfl 3 (by omega) _ _).2 f hL).1 ⟨fun _ => cl_nameHere hD hD2 cc.1 wA (cd_0 he (by omega)) (fun σ fs s10 s22 s23 t7 e7 => ?_), fun q => absurd q z_10⟩
    subst e7
    have f2 := fr_w (c := 330) (k := 31) (v := b) fs (by unfold x_sL; omega)
    refine ((cc.2 _ (fun c hc => f2.1 c (by unfold x_sL; omega)) f2.2 3 (by omega) _ _).2 f hL).2 (z_e4 (e 5) a.toInt (z_hl A a.toInt) b.toInt 0 0 11) (fun j _ => e4_b (by omega) (by omega) (by omega) (by omega) (by omega) (by omega) j) (fun j hj => ?_) (fun ρ v fρ hv => ch_held (by decide) (fun u5 h5 => h _ _ (fr_t f2 (fr_m sL_said fρ)) ?_))
    · have : j = 0 ∨ j = 1 ∨ j = 2 ∨ j = 11 := by unfold x_al at hj; omega
      rcases this with rfl | rfl | rfl | rfl <;> simp only [w1_at, x_wd, z_e4, Nat.reduceEqDiff, Nat.reduceAdd, Nat.reduceLT, and_false, if_false, and_self, if_true, s10, s22, s23, and_true, true_and]
    · rw [h5, hv, z_warm, hL]; rfl
