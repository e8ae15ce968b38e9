/-! the class's days, changed -/
def x_sD (D c : Nat) : Prop := (D ≤ c ∧ c ≤ D + 3) ∨ (329 ≤ c ∧ c ≤ 331)
theorem sh_D {D : Nat} (h : D = 13 ∨ D = 341) : x_sh D = (1, 11) := by rcases h with rfl | rfl <;> rfl
theorem sD_cc {D : Nat} (h : D = 13 ∨ D = 341) (c : Nat) (hc : x_sD D c) : (13 ≤ c ∧ c ≤ 138) ∨ 176 ≤ c := by unfold x_sD at hc; omega
theorem sL_sD {D : Nat} (c : Nat) (hc : x_sL c) : x_sD D c := Or.inr hc
theorem cd_cg {D : Nat} {τ : x_T} {e e' : Nat → Int} (h : x_cd D τ e) (g : ∀ k, k < 114 → e k = e' k) : x_cd D τ e' := fun k hk => (h k hk).trans (g k hk)
theorem cd_sL {D : Nat} {τ σ : x_T} {e : Nat → Int} (hD : D = 13 ∨ D = 341) (h : x_cd D τ e) (f : x_fr x_sL τ σ) : x_cd D σ e :=
  cd_fr h (f.1 _ (by unfold x_sL; omega)) (f.1 _ (by unfold x_sL; omega)) (f.1 _ (by unfold x_sL; omega)) (f.1 _ (by unfold x_sL; omega))
theorem cl_draw {d D : Nat} (hD : D = 13 ∨ D = 341) {m : Int32} {τ : x_T} {A e : Nat → Int} {K : x_T → Int32 → Prop} (he : x_cd D τ e) (wD : w_D A e) (hm : 0 < m.toInt) (h : ∀ (σ : x_T) (u : Int32), x_fr (x_sD D) τ σ → x_cd D σ (z_dx e) → u.toInt = e 6 % m.toInt → K σ u) : x_CI d mX1_draw [.ref D, .int m] τ K := by
  have e6 := cd_0 he (k := 6) (by omega)
  have w6 := wD.2.2.2.2.2.2.1
  have n0 : ¬ m ≤ 0 := by rw [z_le]; simp only [Int32.reduceToInt]; omega
  refine e_X1_draw (sh_D hD) ⟨fun q => absurd q n0, fun _ => ⟨fun q => ?_, k_X1_draw_14 (sh_D hD) (fun t1 e1 => ?_)⟩⟩
  · rw [q] at hm; simp only [Int32.reduceToInt] at hm; omega
  subst e1
  refine h _ _ (fr_w (fr_r _ _) (Or.inl (by omega))) (cd_w0 he (by omega) ?_) ?_
  · have m1 : (τ.1 D 6 * 283).toInt = e 6 * 283 := by rw [z_mul (by simp only [Int32.reduceToInt]; omega), e6]; rfl
    have m2 : (τ.1 D 6 * 283 + 193).toInt = e 6 * 283 + 193 := by rw [z_add (by simp only [Int32.reduceToInt]; omega), m1]; rfl
    rw [z_rem, m2, Int.tmod_eq_emod_of_nonneg (by omega)]; rfl
  · rw [z_rem, e6, Int.tmod_eq_emod_of_nonneg (by omega)]
theorem cl_lieAt {d D : Nat} (hD : D = 13 ∨ D = 341) {a : Int32} {τ : x_T} {e : Nat → Int} {K : x_T → Prop} (he : x_cd D τ e) (h : ∀ (σ : x_T), x_fr (x_sD D) τ σ → x_cd D σ (z_lie e a.toInt) → K σ) : x_CV d mX1_lieAt [.ref D, .int a] τ K := by
  refine e_X1_lieAt (sh_D hD) (fun t1 e1 t2 e2 t3 e3 t4 e4 => ?_)
  subst e1; subst e2; subst e3; subst e4
  exact h _ (fr_w (fr_w (fr_w (fr_w (fr_r _ _) (Or.inl (by omega))) (Or.inl (by omega))) (Or.inl (by omega))) (Or.inl (by omega))) (cd_w0 (cd_w0 (cd_w0 (cd_w0 he (by omega) rfl) (by omega) (by decide)) (by omega) (by decide)) (by omega) (by decide))
theorem cl_tipOver {d D : Nat} (hD : D = 13 ∨ D = 341) {τ : x_T} {A e : Nat → Int} {K : x_T → Prop} (he : x_cd D τ e) (wD : w_D A e) (h : ∀ (σ : x_T), x_fr (x_sD D) τ σ → x_cd D σ (z_tip e) → K σ) : x_CV (d + 1) mX2_tipOver [.ref 332, .ref D] τ K := by
  have w4 := wD.2.2.2.2.1
  refine e_X2_tipOver (sh_D hD) (cl_lieAt hD he (fun σ f he2 y3 e3 t4 e4 => ?_))
  subst e4
  rw [cd_0 he (k := 0) (by omega)] at he2
  have e4 : (σ.1 D 4).toInt = e 4 := cd_0 he2 (k := 4) (by omega)
  refine h _ (fr_w f (Or.inl (by omega))) (cd_w0 he2 (by omega) ?_)
  have m : (σ.1 D 4 - 5).toInt = e 4 - 5 := by rw [z_sub (by simp only [Int32.reduceToInt]; omega), e4]; rfl
  rw [e3]
  split
  · rename_i q; rw [z_lt, m] at q; simp only [Int32.reduceToInt] at q; rw [m]; omega
  · rename_i q; rw [z_lt, m] at q; simp only [Int32.reduceToInt] at q ⊢; omega
theorem cl_canSetOff {d D : Nat} (hD : D = 13 ∨ D = 341) {a p : Int32} {τ : x_T} {A e : Nat → Int} {K : x_T → Int32 → Prop} (hc : x_cl 1 τ A) (wA : w_A A) (he : x_cd D τ e) (h1 : z_can A e a.toInt p.toInt → K τ 1) (h0 : ¬ z_can A e a.toInt p.toInt → K τ 0) : x_CI (d + 1 + 1) mX2_canSetOff [.ref 332, .ref D, .int a, .int p] τ K := by
  have e2 := cd_0 he (k := 2) (by omega)
  have e0 := cd_0 he (k := 0) (by omega)
  refine e_X2_canSetOff (sh_D hD) ⟨fun q => h0 (fun z => q ?_), fun q => cl_isPusher hc wA (fun p1 p2 => ⟨fun r => absurd r z_10, fun _ => cl_laneBetween hc wA (fun u hu => ⟨fun r => h0 (fun z => ?_), fun r => h1 ⟨?_, p1, p2, ?_⟩⟩)⟩) (fun p => ⟨fun _ => h0 (fun z => p ⟨z.2.1, z.2.2.1⟩), fun r => absurd rfl r⟩)⟩
  · rw [z_eq, e2, z.1]; rfl
  · have := z.2.2.2
    rw [z_le, hu, e0] at r; simp only [Int32.reduceToInt] at r; omega
  · rw [z_eq, e2] at q; simp only [Int32.reduceToInt] at q; exact q
  · rw [z_le, hu, e0] at r; simp only [Int32.reduceToInt] at r; omega
theorem z_ln_r {A : Nat → Int} {x y : Int} (h : 0 < z_ln A x y) : 0 ≤ x ∧ x < A 0 ∧ 0 ≤ y ∧ y < A 0 := by
  unfold z_ln at h
  by_cases s : 0 ≤ x ∧ x < A 0 ∧ 0 ≤ y ∧ y < A 0
  · exact s
  · rw [if_neg s] at h; omega
theorem cl_setOff {d D : Nat} (hD : D = 13 ∨ D = 341) {a p : Int32} {τ : x_T} {A e : Nat → Int} {L : x_L} {K : x_T → Prop} (cc : x_cc τ A L) (wA : w_A A) (he : x_cd D τ e) (wD : w_D A e) (hc : z_can A e a.toInt p.toInt) (h : ∀ (σ : x_T), x_fr (x_sD D) τ σ → x_cd D σ (z_off A L e a.toInt p.toInt) → K σ) : x_CV (d + 1 + 1 + 1) mX2_setOff [.ref 332, .ref D, .int a, .int p] τ K := by
  have e0 := cd_0 he (k := 0) (by omega)
  have w0 := wA.1
  have hr := z_ln_r hc.2.2.2
  refine e_X2_setOff (sh_D hD) (cl_hardness (sh_D hD) (by omega) cc wA he wD.2.2.2.2.2.1 (by omega) (by omega) (fun σ u f hu t3 e3 t4 e4 t5 e5 => ?_))
  subst e3; subst e4; subst e5
  rw [e0] at hu
  exact h _ (fr_w (fr_w (fr_w (fr_m sL_sD f) (Or.inl (by omega))) (Or.inl (by omega))) (Or.inl (by omega))) (cd_w0 (cd_w0 (cd_w0 (cd_sL hD he f) (by omega) hu) (by omega) rfl) (by omega) rfl)
theorem cl_roll {d D : Nat} (hD : D = 13 ∨ D = 341) {τ : x_T} {A e : Nat → Int} {L : x_L} {K : x_T → Prop} (cc : x_cc τ A L) (wA : w_A A) (he : x_cd D τ e) (wD : w_D A e) (h : ∀ (σ : x_T), x_fr (x_sD D) τ σ → x_cd D σ (z_roll A L e) → K σ) : x_CV (d + 1 + 1 + 1) mX2_roll [.ref 332, .ref D] τ K := by
  have e2 := cd_0 he (k := 2) (by omega)
  have w2 := wD.2.1
  have w4 := wD.2.2.2.2.1
  refine e_X2_roll (sh_D hD) ⟨fun q => cl_strengthOf cc.1 wA (fun u1 h1 y3 e3 t4 e4 => ?_), fun q => h _ (fr_r _ _) ?_⟩
  · rw [z_lt, e2] at q
    simp only [Int32.reduceToInt] at q
    rw [cd_0 he (k := 3) (by omega)] at h1
    have b1 := z_sg_b wA (e 3)
    have m : (τ.1 D 2 - u1).toInt = e 2 - z_sg A (e 3) := by rw [z_sub (by omega), e2, h1]
    have hy : y3.toInt = z_rl A e := by
      rw [e3]
      unfold z_rl
      split
      · rename_i r; rw [z_lt, m] at r; simp only [Int32.reduceToInt] at r; rw [m]; omega
      · rename_i r; rw [z_lt, m] at r; simp only [Int32.reduceToInt] at r ⊢; omega
    subst e4
    have f4 : x_fr (x_sD D) τ (x_w1 τ D 2 y3) := fr_w (fr_r _ _) (Or.inl (by omega))
    have he4 := cd_w0 he (k := 2) (by omega) hy
    refine cl_wearing (sh_D hD) (by omega) (cc_fr cc f4 (sD_cc hD)) wA he4 (by simp only [z_set, reduceIte, Nat.reduceEqDiff]; have := wD.1; have := wD.2.2.2.2.2.1; have := wA.1; unfold z_rl; omega) (fun σ u f hu y7 e7 t8 e8 => ?_)
    have e4 : ((x_w1 τ D 2 y3).1 D 4).toInt = e 4 := cd_0 he4 (k := 4) (by omega)
    have b2 := z_wear_b A L (z_set e 2 (z_rl A e))
    have m2 : ((x_w1 τ D 2 y3).1 D 4 - u).toInt = e 4 - z_wear A L (z_set e 2 (z_rl A e)) := by rw [z_sub (by omega), e4, hu]
    have hy7 : y7.toInt = z_rw A L e := by
      rw [e7]
      unfold z_rw
      split
      · rename_i r; rw [z_lt, m2] at r; simp only [Int32.reduceToInt] at r; rw [m2]; omega
      · rename_i r; rw [z_lt, m2] at r; simp only [Int32.reduceToInt] at r ⊢; omega
    subst e8
    have f8 : x_fr (x_sD D) τ (x_w1 σ D 4 y7) := fr_w (fr_t f4 (fr_m sL_sD f)) (Or.inl (by omega))
    have he8 := cd_w0 (cd_sL hD he4 f) (k := 4) (by omega) hy7
    have e82 : ((x_w1 σ D 4 y7).1 D 2).toInt = z_rl A e := cd_0 he8 (k := 2) (by omega)
    have e84 : ((x_w1 σ D 4 y7).1 D 4).toInt = z_rw A L e := cd_0 he8 (k := 4) (by omega)
    have e81 : ((x_w1 σ D 4 y7).1 D 1).toInt = e 1 := cd_0 he8 (k := 1) (by omega)
    have hz : z_roll A L e = if z_rl A e = 0 then z_lie (z_set (z_set e 2 (z_rl A e)) 4 (z_rw A L e)) (e 1)
      else if z_rw A L e = 0 then z_set (z_set (z_set e 2 (z_rl A e)) 4 (z_rw A L e)) 2 (min 9999 (z_rl A e + 5))
      else z_set (z_set e 2 (z_rl A e)) 4 (z_rw A L e) := by rw [z_roll, if_neg (by omega)]
    have b3 : 0 ≤ z_rl A e ∧ z_rl A e ≤ 9999 := by unfold z_rl; omega
    rw [hz] at h
    refine ⟨fun r => ⟨fun s => h _ f8 ?_, fun s y9 e9 t10 e10 => ?_⟩, fun r => cl_lieAt hD he8 (fun σ3 f3 he3 => h _ (fr_t f8 f3) ?_)⟩
    · rw [z_eq, e82] at r; simp only [Int32.reduceToInt] at r
      rw [z_eq, e84] at s; simp only [Int32.reduceToInt] at s
      rw [if_neg r, if_neg s]; exact he8
    · rw [z_eq, e82] at r; simp only [Int32.reduceToInt] at r
      rw [z_eq, e84] at s; simp only [Int32.reduceToInt] at s
      subst e10
      refine h _ (fr_w f8 (Or.inl (by omega))) ?_
      rw [if_neg r, if_pos s]
      refine cd_w0 he8 (by omega) ?_
      have m9 : ((x_w1 σ D 4 y7).1 D 2 + 5).toInt = z_rl A e + 5 := by rw [z_add (by simp only [Int32.reduceToInt]; omega), e82]; rfl
      rw [e9]
      split
      · rename_i t; rw [z_lt, m9] at t; simp only [Int32.reduceToInt] at t; rw [m9]; omega
      · rename_i t; rw [z_lt, m9] at t; simp only [Int32.reduceToInt] at t ⊢; omega
    · rw [z_eq, e82] at r; simp only [Int32.reduceToInt] at r
      rw [e81] at he3
      rw [if_pos r]; exact he3
  · rw [z_lt, e2] at q
    simp only [Int32.reduceToInt] at q
    rw [z_roll, if_pos (by omega)]
    exact he
theorem cp_at (τ : x_T) (o0 sp o1 dp n a b : Nat) : (x_cp τ o0 sp o1 dp n).1 a b = if a = o1 ∧ dp ≤ b ∧ b < dp + n then τ.1 o0 (sp + (b - dp)) else τ.1 a b := rfl
theorem cp_ne {τ : x_T} {o0 sp o1 dp n a : Nat} (h : a ≠ o1) : (x_cp τ o0 sp o1 dp n).1 a = τ.1 a := by funext b; simp [x_cp, h]
theorem fr_cp {S : Nat → Prop} {τ σ : x_T} {o0 sp c dp n : Nat} (h : x_fr S τ σ) (hc : S c) : x_fr S τ (x_cp σ o0 sp c dp n) := ⟨fun a ha => (cp_ne (a := a) (o1 := c) (fun e => ha (by rw [e]; exact hc))).trans (h.1 a ha), h.2⟩
theorem cl_wd30 {d D i : Nat} (hD : D = 13 ∨ D = 341) {a p : Int32} {τ : x_T} {e : Nat → Int} {n : Nat} {K : x_T → Prop} (he : x_cd D τ e) (ha : a.toInt = i) (hn : e 23 = n) (hn2 : n < 30) (h : ∀ (σ : x_T), x_fr (x_sD D) τ σ → x_cd D σ (z_set (z_set (z_set (z_set e (24 + 3 * n) (e 5)) (24 + (3 * n + 1)) i) (24 + (3 * n + 2)) p.toInt) 23 (n + 1)) → K σ) : x_WV (d + 1) mX1_writeDebt K 30 [(0, .ref D), (1, .int a), (2, .int p)] [] τ := by
  have e9 := cd_9 he
  have e5 := cd_0 he (k := 5) (by omega)
  refine k_X1_writeDebt_30 (sh_D hD) (fun y1 ey1 => ?_)
  have hy : y1.toInt = 3 * (n : Int) := by rw [ey1, z_mul (by simp only [Int32.reduceToInt]; omega), e9, hn]; simp only [Int32.reduceToInt]; omega
  have hy1 : (y1 + 1).toInt = 3 * (n : Int) + 1 := by rw [z_add (by simp only [Int32.reduceToInt]; omega), hy]; rfl
  have hy2 : (y1 + 2).toInt = 3 * (n : Int) + 2 := by rw [z_add (by simp only [Int32.reduceToInt]; omega), hy]; rfl
  refine ⟨fun q => ?_, fun _ => ⟨fun q => ?_, fun _ => ⟨ix_n (by omega), fun t2 e2 => ⟨ix_n (by omega), fun t3 e3 => ⟨ix_n (by omega), fun t4 e4 t5 e5' => ?_⟩⟩⟩⟩⟩
  · rw [z_lt, hy] at q; simp only [Int32.reduceToInt] at q; omega
  · rw [z_le, hy2] at q; simp only [Int32.reduceToInt] at q; omega
  rw [z_cl, hy, show (3 * (n : Int)).toNat = 3 * n by omega] at e2
  rw [z_cl, hy1, show (3 * (n : Int) + 1).toNat = 3 * n + 1 by omega] at e3
  rw [z_cl, hy2, show (3 * (n : Int) + 2).toNat = 3 * n + 2 by omega] at e4
  have g2 := cd_w3 he (k := 3 * n) (by omega) e5
  rw [← e2] at g2
  have g3 := cd_w3 g2 (k := 3 * n + 1) (by omega) ha
  rw [← e3] at g3
  have g4 := cd_w3 g3 (k := 3 * n + 2) (v := p) (by omega) rfl
  rw [← e4] at g4
  have f4 : x_fr (x_sD D) τ t4 := by
    rw [e4, e3, e2]
    exact fr_w (fr_w (fr_w (fr_r _ _) (Or.inl (by omega))) (Or.inl (by omega))) (Or.inl (by omega))
  have q9 : (t4.1 D 9).toInt = n := by
    have := cd_9 g4
    rw [z_set_e, z_set_e, z_set_e, if_neg (by omega), if_neg (by omega), if_neg (by omega), hn] at this
    exact this
  subst e5'
  refine h _ (fr_w f4 (Or.inl (by omega))) (cd_w9 g4 ?_)
  rw [z_add (by rw [q9]; simp only [Int32.reduceToInt]; omega), q9]
  rfl
theorem cl_writeDebt {d D i : Nat} (hD : D = 13 ∨ D = 341) {a p : Int32} {τ : x_T} {A e : Nat → Int} {K : x_T → Prop} (he : x_cd D τ e) (wD : w_D A e) (ha : a.toInt = i) (h : ∀ (σ : x_T), x_fr (x_sD D) τ σ → x_cd D σ (z_bk e i p.toInt) → K σ) : x_CV (d + 1) mX1_writeDebt [.ref D, .int a, .int p] τ K := by
  have e9 := cd_9 he
  have w23 := wD.2.2.2.2.2.2.2.2.2
  refine e_X1_writeDebt (sh_D hD) ⟨fun q => ?_, fun q t1 e1 t2 e2 => ?_⟩
  · rw [z_lt, e9] at q
    simp only [Int32.reduceToInt] at q
    have hn : e 23 = ((e 23).toNat : Nat) := by omega
    have hb : z_bn e = e 23 := by rw [z_bn, if_neg (by omega)]
    have hs : z_bs e = e := by rw [z_bs, if_neg (by omega)]
    refine cl_wd30 hD he ha hn (by omega) (fun σ f g => h _ f ?_)
    rw [z_bk, hb, hs]
    rw [← hn] at g
    exact g
  · rw [z_lt, e9] at q
    simp only [Int32.reduceToInt] at q
    have h30 : e 23 = 30 := by omega
    have hb : z_bn e = 29 := by rw [z_bn, if_pos h30]
    have hs : z_bs e = fun j => if 24 ≤ j ∧ j < 111 then e (j + 3) else e j := by rw [z_bs, if_pos h30]
    have g1 : x_cd D t1 (z_bs e) := by
      rw [hs, e1]
      refine cd_of (fun k hk => ?_) (fun k hk => ?_) (fun k hk => ?_) ?_ (fun k hk => ?_)
      · rw [cp_ne (by omega), cd_0 he hk]; rw [if_neg (by omega)]
      · rw [cp_ne (by omega), cd_1 he hk]; rw [if_neg (by omega)]
      · rw [cp_ne (by omega), cd_2 he hk]; rw [if_neg (by omega)]
      · rw [cp_ne (by omega), cd_9 he]; rw [if_neg (by omega)]
      · rw [cp_at]
        by_cases q : k < 87
        · rw [if_pos (by omega), cd_3 he (by omega), if_pos (by omega)]
          congr 1
          omega
        · rw [if_neg (by omega), cd_3 he hk, if_neg (by omega)]
    have g2 := cd_w9 g1 (v := 29) (z := 29) (by decide)
    rw [← e2] at g2
    have f2 : x_fr (x_sD D) τ t2 := by
      rw [e2, e1]
      exact fr_w (fr_cp (fr_r _ _) (Or.inl (by omega))) (Or.inl (by omega))
    refine cl_wd30 (n := 29) hD g2 ha (by rw [z_set_e, if_pos rfl]; rfl) (by omega) (fun σ f g => h _ (fr_t f2 f) (cd_cg g (fun k hk => ?_)))
    rw [z_bk, hb]
    have h5 : z_set (z_bs e) 23 29 5 = e 5 := by rw [z_set_e, if_neg (by omega), hs]; simp only []; rw [if_neg (by omega)]
    rw [h5]
    simp only [z_set, show (29 : Int).toNat = 29 from rfl]
    grind
theorem cl_fallsInDebt {d D i : Nat} (hD : D = 13 ∨ D = 341) {a : Int32} {τ : x_T} {A e : Nat → Int} {L : x_L} {K : x_T → Int32 → Prop} (cc : x_cc τ A L) (wA : w_A A) (he : x_cd D τ e) (wD : w_D A e) (ha : a.toInt = i) (hi : i < 8) (h : ∀ (σ : x_T), x_fr (x_sD D) τ σ → x_cd D σ (z_fall A L e i) → K σ (z_b (z_dt A L e i))) : x_CI (d + 1 + 1 + 1) mX2_fallsInDebt [.ref 332, .ref D, .int a] τ K := by
  have e0 := cd_0 he (k := 0) (by omega)
  have w7 := wD.2.2.2.2.2.2.2.1 i hi
  have w15 := wD.2.2.2.2.2.2.2.2.1 i hi
  have b1 := z_earn_b A L e i
  have hcl : a.toNatClampNeg = i := by rw [z_cl, ha]; rfl
  have f7 : (τ.1 (D + 1) a.toNatClampNeg).toInt = e (7 + i) := by rw [hcl, cd_1 he hi]
  -- the end
  have fin : ∀ (σ : x_T) (u : Int32) (e' : Nat → Int), x_fr (x_sD D) τ σ → x_cd D σ e' → u.toInt = z_pu A L e i → e' 0 = e 0 → e' (15 + i) = e (15 + i) → (if z_dt A L e i = true then z_bk e i (-(z_pu A L e i)) else e) = e' → x_WI (d + 1 + 1 + 1) mX2_fallsInDebt K 70 [(0, .ref 332), (1, .ref D), (2, .int a), (4, .int u), (5, .int (z_b (z_dt A L e i)))] [] σ := by
    intro σ u e' f hs hu h0 h15 hee
    have s0 := cd_0 hs (k := 0) (by omega)
    have last : ∀ (y : Int32), y.toInt = z_pl A e i → x_WI (d + 1 + 1 + 1) mX2_fallsInDebt K 129 [(5, .int (z_b (z_dt A L e i)))] [.int y, .int a, .ref (D + 2)] (x_w1 σ (D + 1) a.toNatClampNeg u) := by
      intro y hy
      refine k_X2_fallsInDebt_129 (sh_D hD) ⟨ix_n (by omega), fun t1 e1 => ⟨z_b_n _, ?_⟩⟩
      subst e1
      refine h _ (fr_w (fr_w f (Or.inl (by omega))) (Or.inl (by omega))) ?_
      rw [hcl, z_fall, hee]
      exact cd_w2 (cd_w1 hs hi hu) hi hy
    have q2 : ((x_w1 σ (D + 1) a.toNatClampNeg u).1 (D + 2) a.toNatClampNeg).toInt = e (15 + i) := by
      rw [w1_c (by omega), hcl, cd_2 hs hi, h15]
    have m : ((x_w1 σ (D + 1) a.toNatClampNeg u).1 (D + 2) a.toNatClampNeg + 1).toInt = e (15 + i) + 1 := by rw [z_add (by rw [q2]; simp only [Int32.reduceToInt]; omega), q2]; rfl
    refine k_X2_fallsInDebt_70 (sh_D hD) (cl_hourBy (cc_fr cc f (sD_cc hD)).1 wA (fun u2 hu2 => ?_))
    rw [s0, h0, ha] at hu2
    refine ⟨fun q => k_X2_fallsInDebt_92 (sh_D hD) ⟨ix_n (by omega), fun t1 e1 => ?_⟩, fun q => k_X2_fallsInDebt_92 (sh_D hD) ⟨ix_n (by omega), fun t1 e1 => ?_⟩⟩
    · subst e1
      refine ⟨fun _ => ⟨ix_n (by omega), fun y2 ey => last y2 ?_⟩, fun r => absurd rfl r⟩
      rw [z_eq, hu2] at q; simp only [Int32.reduceToInt] at q
      rw [ey, z_pl, if_neg q]
      split
      · rename_i r; rw [z_lt, m] at r; simp only [Int32.reduceToInt] at r; rw [m]; omega
      · rename_i r; rw [z_lt, m] at r; simp only [Int32.reduceToInt] at r ⊢; omega
    · subst e1
      refine ⟨fun r => absurd r z_10, fun _ => last _ ?_⟩
      rw [z_eq, hu2] at q; simp only [Int32.reduceToInt] at q
      rw [z_pl, if_pos q]; rfl
  refine e_X2_fallsInDebt (sh_D hD) ⟨fun q => ?_, fun _ => ⟨fun _ => ⟨ix_n (by omega), fun y1 ey1 => cl_earning (sh_D hD) (by omega) cc wA he wD ha hi (fun σ u f hu => ch_held (by decide) (fun u2 hu2 => ?_))⟩, fun q => ?_⟩⟩
  · rw [z_lt, ha] at q; simp only [Int32.reduceToInt] at q; omega
  · have hy1 : y1.toInt = e (7 + i) := by rw [ey1, f7]
    have hp : u2.toInt = z_pu A L e i := by
      rw [hu2, z_add (by omega), hy1, hu]; rfl
    have fs : x_fr (x_sD D) τ σ := fr_m sL_sD f
    have hs := cd_sL hD he f
    have no : z_dt A L e i = false → x_WI (d + 1 + 1 + 1) mX2_fallsInDebt K 55 [(0, .ref 332), (1, .ref D), (2, .int a), (4, .int u2)] [.int 0] σ := by
      intro hf
      have := fin σ u2 e fs hs hp rfl rfl (by rw [hf]; rfl)
      rw [hf] at this
      exact k_X2_fallsInDebt_55 (sh_D hD) ⟨fun _ => this, fun q => absurd rfl q⟩
    refine ⟨fun q => k_X2_fallsInDebt_54 (sh_D hD) (no ?_), fun q => ⟨fun r => k_X2_fallsInDebt_54 (sh_D hD) (no ?_), fun r => ?_⟩⟩
    · rw [z_le, hp] at q; simp only [Int32.reduceToInt] at q
      rw [z_dt, decide_eq_false (by omega)]
    · rw [z_lt, hy1] at r; simp only [Int32.reduceToInt] at r
      rw [z_dt, decide_eq_false (by omega)]
    · rw [z_le, hp] at q; simp only [Int32.reduceToInt] at q
      rw [z_lt, hy1] at r; simp only [Int32.reduceToInt] at r
      have ht : z_dt A L e i = true := by rw [z_dt, decide_eq_true (by omega)]
      have hng : (-u2).toInt = -(z_pu A L e i) := by
        have := z_bd u2
        have hb := z_hd_b (v := e (7 + i) + z_earn A L e i) (lo := -999) (hi := 9999) (by omega)
        rw [z_neg (by rw [hp, z_pu]; omega), hp]
      refine k_X2_fallsInDebt_55 (sh_D hD) ⟨fun s => absurd s z_10, fun _ => cl_writeDebt hD hs wD ha (fun σ2 f2 g2 => ?_)⟩
      rw [hng] at g2
      have := fin σ2 u2 (z_bk e i (-(z_pu A L e i))) (fr_t fs f2) g2 hp (z_bk_lt (by omega)) (z_bk_lt (by omega)) (by rw [ht]; rfl)
      rw [ht] at this
      exact this
  · rw [z_lt, ha] at q; simp only [Int32.reduceToInt] at q; omega
theorem cl_passMinute {d D : Nat} (hD : D = 13 ∨ D = 341) {τ : x_T} {A e : Nat → Int} {L : x_L} {K : x_T → Int32 → Prop} (cc : x_cc τ A L) (wA : w_A A) (he : x_cd D τ e) (wD : w_D A e) (h : ∀ (σ : x_T) (u : Int32), x_fr (x_sD D) τ σ → x_cd D σ (z_pd A L e) → u.toInt = z_pc A L e → K σ u) : x_CI (d + 1 + 1 + 1 + 1) mX2_passMinute [.ref 332, .ref D] τ K := by
  have w0 := wA.1
  have w5 := wD.2.2.2.2.2.1
  obtain ⟨N, hN⟩ : ∃ N : Nat, A 0 = N := ⟨(A 0).toNat, by omega⟩
  have hNt : (A 0).toNat = N := by omega
  have bc : ∀ k : Nat, 0 ≤ z_fc A L (z_roll A L e) k ∧ z_fc A L (z_roll A L e) k ≤ k := by
    intro k
    induction k with
    | zero => simp [z_fc]
    | succ k ih => rw [z_fc]; split <;> omega
  refine e_X2_passMinute (sh_D hD) (cl_roll hD cc wA he wD (fun σ f hs => ?_))
  have wr := wD_roll wA wD L
  have loop : ∀ k, k ≤ N → (fun k => ∀ (ρ : x_T) (v : Int32), x_fr (x_sD D) τ ρ → x_cd D ρ (z_fd A L (z_roll A L e) k) → v.toInt = z_fc A L (z_roll A L e) k → x_WI (d + 1 + 1 + 1 + 1) mX2_passMinute K 9 [(0, .ref 332), (1, .ref D), (2, .int v), (3, .int (nI k))] [] ρ) k := by
    refine z_down ?_ ?_
    · intro ρ v fρ gρ hv
      have c0 := (cc_fr cc fρ (sD_cc hD)).1.1
      refine k_X2_passMinute_9 (sh_D hD) ⟨fun _ t1 e1 => ?_, fun q => ?_⟩
      · subst e1
        refine h _ _ (fr_w fρ (Or.inl (by omega))) ?_ (by rw [hv, z_pc, hNt])
        rw [z_pd, hNt]
        refine cd_w0 gρ (by omega) ?_
        have e5 := cd_0 gρ (k := 5) (by omega)
        rw [z_fd_lt (by omega), z_roll_5] at e5
        rw [z_add (by rw [e5]; simp only [Int32.reduceToInt]; omega), e5, z_fd_lt (by omega), z_roll_5]
        rfl
      · exfalso; apply q; rw [z_le, c0, z_n (by omega)]; omega
    · intro k hk ih ρ v fρ gρ hv
      have c0 := (cc_fr cc fρ (sD_cc hD)).1.1
      have hb := bc k
      have hs1 : nI k + 1 = nI (k + 1) := (nI_succ k).symm
      refine k_X2_passMinute_9 (sh_D hD) ⟨fun q => ?_, fun _ => cl_fallsInDebt hD (cc_fr cc fρ (sD_cc hD)) wA gρ (wD_fd wr L k (by omega)) (z_n (by omega)) (by omega) (fun ρ2 f2 g2 => ?_)⟩
      · rw [z_le, c0, z_n (by omega)] at q; omega
      · have hfc : z_fc A L (z_roll A L e) (k + 1) = z_fc A L (z_roll A L e) k + if z_dt A L (z_fd A L (z_roll A L e) k) k = true then 1 else 0 := rfl
        refine ⟨fun q => k_X2_passMinute_32 (sh_D hD) (fun y1 ey1 => ?_), fun q y4 ey4 => k_X2_passMinute_32 (sh_D hD) (fun y1 ey1 => ?_)⟩
        · rw [ey1, hs1]
          refine ih ρ2 v (fr_t fρ f2) g2 ?_
          rw [z_b0] at q
          rw [hfc, q, hv]; simp
        · rw [ey1, hs1]
          refine ih ρ2 y4 (fr_t fρ f2) g2 ?_
          have qt : z_dt A L (z_fd A L (z_roll A L e) k) k = true := by
            cases hz : z_dt A L (z_fd A L (z_roll A L e) k) k
            · rw [hz] at q; exact absurd rfl q
            · rfl
          rw [hfc, qt, ey4, z_add (by rw [hv]; simp only [Int32.reduceToInt]; omega), hv]
          rfl
  exact loop 0 (by omega) σ 0 f hs rfl
