/-! the model's day, changed -/
def x_sW (c : Nat) : Prop := c = 370 ∨ c = 371
theorem sW_mc (c : Nat) (h : x_sW c) : 370 ≤ c := by unfold x_sW at h; omega
theorem sN_sW (c : Nat) (h : x_sN c) : x_sW c := Or.inr h
theorem md_cg {τ : x_T} {e e' : Nat → Int} (h : x_md τ e) (g : ∀ k, k < 114 → e k = e' k) : x_md τ e' := fun k hk => (h k hk).trans (g k hk)
theorem md_sN {τ σ : x_T} {e : Nat → Int} (h : x_md τ e) (f : x_fr x_sN τ σ) : x_md σ e := md_fr h (f.1 _ (by unfold x_sN; omega))
theorem ml_draw {d : Nat} {m : Int32} {τ : x_T} {A e : Nat → Int} {K : x_T → Int32 → Prop} (he : x_md τ e) (wD : w_D A e) (hm : 0 < m.toInt) (h : ∀ (σ : x_T) (u : Int32), x_fr x_sW τ σ → x_md σ (z_dx e) → u.toInt = e 6 % m.toInt → K σ u) : x_CI d mX12_draw [.ref 345, .int m] τ K := by
  have e6 : (τ.1 370 6).toInt = e 6 := he 6 (by omega)
  have w6 := wD.2.2.2.2.2.2.1
  refine e_X12_draw ⟨fun q => ?_, fun y1 ey t2 e2 => ?_⟩
  · rw [q] at hm; simp only [Int32.reduceToInt] at hm; omega
  subst e2
  refine h _ _ (fr_w (fr_r _ _) (Or.inl rfl)) (md_w he ?_) ?_
  · have m1 : (τ.1 370 6 * 283).toInt = e 6 * 283 := by rw [z_mul (by simp only [Int32.reduceToInt]; omega), e6]; rfl
    have m2 : (τ.1 370 6 * 283 + 193).toInt = e 6 * 283 + 193 := by rw [z_add (by simp only [Int32.reduceToInt]; omega), m1]; rfl
    rw [z_rem, m2, Int.tmod_eq_emod_of_nonneg (by omega)]; rfl
  · rw [ey, z_rem, e6, Int.tmod_eq_emod_of_nonneg (by omega)]
theorem ml_lies {d : Nat} {a : Int32} {τ : x_T} {e : Nat → Int} {K : x_T → Prop} (he : x_md τ e) (h : ∀ (σ : x_T), x_fr x_sW τ σ → x_md σ (z_lie e a.toInt) → K σ) : x_CV d mX12_lies [.ref 345, .int a] τ K := by
  refine e_X12_lies (fun t1 e1 t2 e2 t3 e3 t4 e4 => ?_)
  subst e1; subst e2; subst e3; subst e4
  refine h _ (fr_w (fr_w (fr_w (fr_w (fr_r _ _) (Or.inl rfl)) (Or.inl rfl)) (Or.inl rfl)) (Or.inl rfl)) (md_cg (md_w (z := -1) (md_w (z := -1) (md_w (z := 0) (md_w he rfl) (by decide)) (by decide)) (by decide)) (fun k hk => ?_))
  simp only [z_lie, z_set]
  grind
theorem ml_tips {d : Nat} {τ : x_T} {A e : Nat → Int} {K : x_T → Prop} (he : x_md τ e) (wD : w_D A e) (h : ∀ (σ : x_T), x_fr x_sW τ σ → x_md σ (z_tip e) → K σ) : x_CV (d + 1) mX12_tips [.ref 345] τ K := by
  have w4 := wD.2.2.2.2.1
  refine e_X12_tips (ml_lies he (fun σ f he2 => ?_))
  rw [show (τ.1 370 0).toInt = e 0 from he 0 (by omega)] at he2
  have e4 : (σ.1 370 4).toInt = e 4 := he2 4 (by omega)
  have fin : ∀ v : Int32, v.toInt = max 0 (e 4 - 5) → x_WV (d + 1) mX12_tips K 37 [] [.int v, .int 4, .ref 370] σ := by
    intro v hv
    refine k_X12_tips_37 ⟨ix_n (by decide), fun t1 e1 => ?_⟩
    subst e1
    exact h _ (fr_w f (Or.inl rfl)) (md_w he2 hv)
  refine ⟨fun q => fin _ ?_, fun q => fin _ ?_⟩
  · rw [z_le, e4] at q; simp only [Int32.reduceToInt] at q
    rw [z_sub (by rw [e4]; simp only [Int32.reduceToInt]; omega), e4]; simp only [Int32.reduceToInt]; omega
  · rw [z_le, e4] at q; simp only [Int32.reduceToInt] at q ⊢; omega
theorem ml_isHouse {d : Nat} {a : Int32} {τ : x_T} {A : Nat → Int} {K : x_T → Int32 → Prop} (wA : w_A A) (hm : (τ.1 346 0).toInt = A 0) (h1 : 0 ≤ a.toInt → a.toInt < A 0 → K τ 1) (h0 : ¬ (0 ≤ a.toInt ∧ a.toInt < A 0) → K τ 0) : x_CI (d + 1) mX12_isHouse [.ref 345, .int a] τ K := by
  have w0 := wA.1
  refine p_isHouse (by rw [x_z, hm]; omega) ?_
  rw [x_z, hm]
  by_cases q : 0 ≤ a.toInt ∧ a.toInt < A 0
  · rw [decide_eq_true q]; exact h1 q.1 q.2
  · rw [decide_eq_false q]; exact h0 q
theorem ml_in {d : Nat} {a lo hi : Int32} {τ : x_T} {K : x_T → Int32 → Prop} (h1 : lo.toInt ≤ a.toInt → a.toInt ≤ hi.toInt → K τ 1) (h0 : ¬ (lo.toInt ≤ a.toInt ∧ a.toInt ≤ hi.toInt) → K τ 0) : x_CI d mX12_in [.int a, .int lo, .int hi] τ K := by
  refine p_in ?_
  by_cases q : lo.toInt ≤ a.toInt ∧ a.toInt ≤ hi.toInt
  · rw [decide_eq_true q]; exact h1 q.1 q.2
  · rw [decide_eq_false q]; exact h0 q
theorem ml_canPush {d : Nat} {a p : Int32} {τ : x_T} {A e : Nat → Int} {K : x_T → Int32 → Prop} (hm : ∀ k, k < 130 → k ≠ 4 → (τ.1 346 k).toInt = A k) (wA : w_A A) (he : x_md τ e) (wD : w_D A e) (h1 : z_can A e a.toInt p.toInt → K τ 1) (h0 : ¬ z_can A e a.toInt p.toInt → K τ 0) : x_CI (d + 1 + 1) mX12_canPush [.ref 345, .int a, .int p] τ K := by
  have w0 := wA.1
  have wd0 := wD.1
  have e2 : (τ.1 370 2).toInt = e 2 := he 2 (by omega)
  have e0 : (τ.1 370 0).toInt = e 0 := he 0 (by omega)
  have m1 := hm 1 (by omega) (by omega)
  refine e_X12_canPush ⟨fun q => h0 (fun z => q ?_), fun q => ml_isHouse wA (hm 0 (by omega) (by omega)) (fun p1 p2 => ⟨fun r => absurd r z_10, fun _ => ?_⟩) (fun p => ⟨fun _ => h0 (fun z => p ?_), fun r => absurd rfl r⟩)⟩
  · rw [z_eq, e2, z.1]; rfl
  · have k30 := ix_30 (v := τ.1 370 0) (w := a) (by omega) (by omega)
    have hl : (τ.1 346 (30 + 8 * τ.1 370 0 + a).toNatClampNeg).toInt = z_ln A (e 0) a.toInt := by
      rw [k30.1, hm _ (by omega) (by omega), e0, z_ln]
      split
      · rfl
      · have := (wA.2.2.2.2.2.1 (e 0).toNat a.toInt.toNat (by omega) (by omega)).2.1 (by omega)
        exact this
    have ms : (τ.1 346 1 - 1).toInt = A 1 - 1 := by rw [z_sub (by rw [m1]; simp only [Int32.reduceToInt]; omega), m1]; rfl
    refine ⟨k30.2, fun r => h0 (fun z => ?_), fun r => ml_in (fun r1 r2 => ⟨fun s => absurd s z_10, fun _ => h1 ⟨?_, ?_, ?_, ?_⟩⟩) (fun s => ⟨fun _ => h0 (fun z => s ?_), fun t => absurd rfl t⟩)⟩
    · have := z.2.2.2
      rw [z_le, hl] at r; simp only [Int32.reduceToInt] at r; omega
    · rw [z_eq, e2] at q; simp only [Int32.reduceToInt] at q; exact q
    · simp only [Int32.reduceToInt] at r1; omega
    · rw [ms] at r2; omega
    · rw [z_le, hl] at r; simp only [Int32.reduceToInt] at r; omega
    · have := z.2.1
      have := z.2.2.1
      rw [ms]; simp only [Int32.reduceToInt]; omega
  · have := z.2.2.2
    unfold z_ln at this
    by_cases s : 0 ≤ e 0 ∧ e 0 < A 0 ∧ 0 ≤ a.toInt ∧ a.toInt < A 0
    · exact s.2.2
    · rw [if_neg s] at this; omega
theorem ml_pushes {d : Nat} {a p : Int32} {τ : x_T} {A e : Nat → Int} {L : x_L} {K : x_T → Prop} (mc : x_mc τ A L) (wA : w_A A) (he : x_md τ e) (wD : w_D A e) (hc : z_can A e a.toInt p.toInt) (h : ∀ (σ : x_T), x_fr x_sW τ σ → x_md σ (z_off A L e a.toInt p.toInt) → K σ) : x_CV (d + 1 + 1 + 1 + 1) mX12_pushes [.ref 345, .int a, .int p] τ K := by
  have e0 : (τ.1 370 0).toInt = e 0 := he 0 (by omega)
  have s : 0 ≤ e 0 ∧ e 0 < A 0 ∧ 0 ≤ a.toInt ∧ a.toInt < A 0 := by
    have := hc.2.2.2
    unfold z_ln at this
    by_cases s : 0 ≤ e 0 ∧ e 0 < A 0 ∧ 0 ≤ a.toInt ∧ a.toInt < A 0
    · exact s
    · rw [if_neg s] at this; omega
  have hc1 := hc.2.1
  have hc2 := hc.2.2.1
  refine e_X12_pushes (ml_hardOf mc wA he (by omega) (by omega) (by omega) wD.2.2.2.2.2.1 (fun σ u f hu t3 e3 t4 e4 t5 e5 => ?_))
  subst e3; subst e4; subst e5
  rw [e0] at hu
  exact h _ (fr_w (fr_w (fr_w (fr_m sN_sW f) (Or.inl rfl)) (Or.inl rfl)) (Or.inl rfl)) (md_w (md_w (md_w (md_sN he f) hu) rfl) rfl)
theorem ml_rolls {d : Nat} {τ : x_T} {A e : Nat → Int} {L : x_L} {K : x_T → Prop} (mc : x_mc τ A L) (wA : w_A A) (he : x_md τ e) (wD : w_D A e) (h2 : 0 < e 2) (h : ∀ (σ : x_T), x_fr x_sW τ σ → x_md σ (z_roll A L e) → K σ) : x_CV (d + 1 + 1 + 1 + 1) mX12_rolls [.ref 345] τ K := by
  have e2 : (τ.1 370 2).toInt = e 2 := he 2 (by omega)
  have e3 : (τ.1 370 3).toInt = e 3 := he 3 (by omega)
  have w0 := wA.1
  have w1 := wD.1
  have w2 := wD.2.1
  have w3 := wD.2.2.1 h2
  have w4 := wD.2.2.2.2.1
  have k18 := ix_c 18 (by omega) 3670 (v := τ.1 370 3) (by omega) (by omega)
  have c18 : ((18 : Int32) + τ.1 370 3).toNatClampNeg = 18 + (e 3).toNat := (show ((18 : Int32) + τ.1 370 3).toNatClampNeg = 18 + (τ.1 370 3).toInt.toNat from k18.1).trans (by rw [e3])
  have b1 := z_sg_b wA (e 3)
  have ms : (τ.1 346 (18 + (e 3).toNat)).toInt = z_sg A (e 3) := by rw [mc.1 _ (by omega) (by omega), z_sg, if_pos (by omega)]
  have hz : z_roll A L e = if z_rl A e = 0 then z_lie (z_set (z_set e 2 (z_rl A e)) 4 (z_rw A L e)) (e 1)
      else if z_rw A L e = 0 then z_set (z_set (z_set e 2 (z_rl A e)) 4 (z_rw A L e)) 2 (min 9999 (z_rl A e + 5))
      else z_set (z_set e 2 (z_rl A e)) 4 (z_rw A L e) := by rw [z_roll, if_neg (by omega)]
  have b3 : 0 ≤ z_rl A e ∧ z_rl A e ≤ 9999 := by unfold z_rl; omega
  rw [hz] at h
  have last : ∀ (σ : x_T) (v : Int32), x_fr x_sW τ σ → x_md σ (z_set e 2 (z_rl A e)) → v.toInt = z_rw A L e → x_WV (d + 1 + 1 + 1 + 1) mX12_rolls K 63 [(0, .ref 345)] [.int v, .int 4, .ref 370] σ := by
    intro σ v f g hv
    refine k_X12_rolls_63 ⟨ix_n (by decide), fun t1 e1 => ?_⟩
    have g1 := md_w (k := 4) g hv
    have f1 := fr_w (c := 370) (k := 4) (v := v) f (Or.inl rfl)
    have et : t1 = x_w1 σ 370 4 v := e1
    rw [← et] at g1 f1
    have q2 : (t1.1 370 2).toInt = z_rl A e := g1 2 (by omega)
    have q4 : (t1.1 370 4).toInt = z_rw A L e := g1 4 (by omega)
    have q1 : (t1.1 370 1).toInt = e 1 := g1 1 (by omega)
    have fin : ∀ u : Int32, ¬ z_rl A e = 0 → z_rw A L e = 0 → u.toInt = min 9999 (z_rl A e + 5) → x_WV (d + 1 + 1 + 1 + 1) mX12_rolls K 126 [] [.int u, .int 2, .ref 370] t1 := by
      intro u r s hu
      refine k_X12_rolls_126 ⟨ix_n (by decide), fun t2 e2 => ?_⟩
      subst e2
      refine h _ (fr_w f1 (Or.inl rfl)) ?_
      rw [if_neg r, if_pos s]
      exact md_w g1 hu
    refine ⟨fun r => ⟨fun s => h _ f1 ?_, fun s => ⟨fun t => fin _ ?_ ?_ ?_, fun t => fin _ ?_ ?_ ?_⟩⟩, fun r => ml_lies g1 (fun ρ f2 g2 => h _ (fr_t f1 f2) ?_)⟩
    · rw [z_eq, q2] at r; simp only [Int32.reduceToInt] at r
      rw [z_eq, q4] at s; simp only [Int32.reduceToInt] at s
      rw [if_neg r, if_neg s]; exact g1
    · rw [z_eq, q2] at r; simp only [Int32.reduceToInt] at r; exact r
    · rw [z_eq, q4] at s; simp only [Int32.reduceToInt] at s; exact s
    · rw [z_le, q2] at t; simp only [Int32.reduceToInt] at t
      rw [z_add (by rw [q2]; simp only [Int32.reduceToInt]; omega), q2]; simp only [Int32.reduceToInt]; omega
    · rw [z_eq, q2] at r; simp only [Int32.reduceToInt] at r; exact r
    · rw [z_eq, q4] at s; simp only [Int32.reduceToInt] at s; exact s
    · rw [z_le, q2] at t; simp only [Int32.reduceToInt] at t ⊢; omega
    · rw [z_eq, q2] at r; simp only [Int32.reduceToInt] at r
      rw [q1] at g2
      rw [if_pos r]; exact g2
  have mid : ∀ (v : Int32), v.toInt = z_rl A e → x_WV (d + 1 + 1 + 1 + 1) mX12_rolls K 36 [(0, .ref 345)] [.int v, .int 2, .ref 370] τ := by
    intro v hv
    refine k_X12_rolls_36 ⟨ix_n (by decide), fun t1 e1 => ?_⟩
    have et : t1 = x_w1 τ 370 2 v := e1
    have g1 := md_w (k := 2) he hv
    have f1 := fr_w (c := 370) (k := 2) (v := v) (fr_r x_sW τ) (Or.inl rfl)
    rw [← et] at g1 f1
    have q4 : (t1.1 370 4).toInt = e 4 := g1 4 (by omega)
    have b2 := z_wear_b A L (z_set e 2 (z_rl A e))
    refine ml_wearsNow (mc_fr mc f1 sW_mc) wA g1 (by rw [z_set_e, if_neg (by omega)]; omega) (by simp only [z_set, reduceIte, Nat.reduceEqDiff]; have := wD.2.2.2.2.2.1; omega) (fun σ u f hu y4 e4 => ?_)
    have hy : y4.toInt = e 4 - z_wear A L (z_set e 2 (z_rl A e)) := by rw [e4, z_sub (by omega), q4, hu]
    refine ⟨fun q => last _ _ (fr_t f1 (fr_m sN_sW f)) (md_sN g1 f) ?_, fun q => last _ _ (fr_t f1 (fr_m sN_sW f)) (md_sN g1 f) ?_⟩
    · rw [z_le, hy] at q; simp only [Int32.reduceToInt] at q
      rw [hy, z_rw]; omega
    · rw [z_le, hy] at q; simp only [Int32.reduceToInt] at q ⊢
      rw [z_rw]; omega
  refine e_X12_rolls ⟨k18.2, fun y1 ey => ?_⟩
  rw [c18] at ey
  have hy : y1.toInt = e 2 - z_sg A (e 3) := by rw [ey, z_sub (by omega), e2, ms]
  refine ⟨fun q => mid _ ?_, fun q => mid _ ?_⟩
  · rw [z_le, hy] at q; simp only [Int32.reduceToInt] at q
    rw [hy, z_rl]; omega
  · rw [z_le, hy] at q; simp only [Int32.reduceToInt] at q ⊢
    rw [z_rl]; omega
theorem ml_wr50 {d i n : Nat} {a : Int32} {τ : x_T} {e : Nat → Int} {K : x_T → Prop} (he : x_md τ e) (ha : a.toInt = i) (hi : i < 8) (hn : e 23 = n) (hn2 : n < 30) (hp : -9999 ≤ e (7 + i) ∧ e (7 + i) ≤ 9999) (h : ∀ (σ : x_T), x_fr x_sW τ σ → x_md σ (z_set (z_set (z_set (z_set e (24 + 3 * n) (e 5)) (24 + (3 * n + 1)) i) (24 + (3 * n + 2)) (-(e (7 + i)))) 23 (n + 1)) → K σ) : x_WV d mX12_writes K 50 [(0, .ref 345), (1, .int a)] [] τ := by
  have e23 : (τ.1 370 23).toInt = n := (he 23 (by omega)).trans hn
  have k7 := ix_c 7 (by omega) 114 (v := a) (by omega) (by omega)
  have c7 : ((7 : Int32) + a).toNatClampNeg = 7 + i := (show ((7 : Int32) + a).toNatClampNeg = 7 + a.toInt.toNat from k7.1).trans (by rw [ha]; rfl)
  refine k_X12_writes_50 (fun y1 ey1 => ?_)
  have m3 : (3 * τ.1 370 23).toInt = 3 * (n : Int) := by rw [z_mul (by rw [e23]; simp only [Int32.reduceToInt]; omega), e23]; rfl
  have hy : y1.toInt = 24 + 3 * (n : Int) := by rw [ey1, z_add (by rw [m3]; simp only [Int32.reduceToInt]; omega), m3]; rfl
  have hy1 : (y1 + 1).toInt = 24 + 3 * (n : Int) + 1 := by rw [z_add (by simp only [Int32.reduceToInt]; omega), hy]; rfl
  have hy2 : (y1 + 2).toInt = 24 + 3 * (n : Int) + 2 := by rw [z_add (by simp only [Int32.reduceToInt]; omega), hy]; rfl
  refine ⟨ix_n (by omega), fun t2 e2 => ⟨ix_n (by omega), fun t3 e3 => ⟨k7.2, ix_n (by omega), fun t4 e4 t5 e5' => ?_⟩⟩⟩
  rw [z_cl, hy, show (24 + 3 * (n : Int)).toNat = 24 + 3 * n by omega] at e2
  rw [z_cl, hy1, show (24 + 3 * (n : Int) + 1).toNat = 24 + (3 * n + 1) by omega] at e3
  rw [z_cl, hy2, show (24 + 3 * (n : Int) + 2).toNat = 24 + (3 * n + 2) by omega, c7] at e4
  have g2 := md_w he (k := 24 + 3 * n) (he 5 (by omega))
  rw [← e2] at g2
  have g3 := md_w g2 (k := 24 + (3 * n + 1)) ha
  rw [← e3] at g3
  have q7 : (t3.1 370 (7 + i)).toInt = e (7 + i) := by
    have := g3 (7 + i) (by omega)
    rw [z_set_e, z_set_e, if_neg (by omega), if_neg (by omega)] at this
    exact this
  have g4 := md_w g3 (k := 24 + (3 * n + 2)) (v := -(t3.1 370 (7 + i))) (z := -(e (7 + i))) (by rw [z_neg (by omega), q7])
  rw [← e4] at g4
  have f4 : x_fr x_sW τ t4 := by
    rw [e4, e3, e2]
    exact fr_w (fr_w (fr_w (fr_r _ _) (Or.inl rfl)) (Or.inl rfl)) (Or.inl rfl)
  have q9 : (t4.1 370 23).toInt = n := by
    have := g4 23 (by omega)
    rw [z_set_e, z_set_e, z_set_e, if_neg (by omega), if_neg (by omega), if_neg (by omega), hn] at this
    exact this
  subst e5'
  refine h _ (fr_w f4 (Or.inl rfl)) (md_w g4 ?_)
  rw [z_add (by rw [q9]; simp only [Int32.reduceToInt]; omega), q9]
  rfl
theorem ml_writes {d i : Nat} {a : Int32} {τ : x_T} {A e : Nat → Int} {K : x_T → Prop} (he : x_md τ e) (wD : w_D A e) (ha : a.toInt = i) (hi : i < 8) (h : ∀ (σ : x_T), x_fr x_sW τ σ → x_md σ (z_bk e i (-(e (7 + i)))) → K σ) : x_CV d mX12_writes [.ref 345, .int a] τ K := by
  have e23 : (τ.1 370 23).toInt = e 23 := he 23 (by omega)
  have w23 := wD.2.2.2.2.2.2.2.2.2
  have w7 := wD.2.2.2.2.2.2.2.1 i hi
  refine e_X12_writes ⟨fun q => ?_, fun q => ?_⟩
  · rw [z_eq, e23] at q
    simp only [Int32.reduceToInt] at q
    have hn : e 23 = ((e 23).toNat : Nat) := by omega
    have hb : z_bn e = e 23 := by rw [z_bn, if_neg (by omega)]
    have hs : z_bs e = e := by rw [z_bs, if_neg (by omega)]
    refine ml_wr50 he ha hi hn (by omega) (by omega) (fun σ f g => h _ f ?_)
    rw [z_bk, hb, hs]
    rw [← hn] at g
    exact g
  · rw [z_eq, e23] at q
    simp only [Int32.reduceToInt] at q
    have hb : z_bn e = 29 := by rw [z_bn, if_pos q]
    have hs : z_bs e = fun j => if 24 ≤ j ∧ j < 111 then e (j + 3) else e j := by rw [z_bs, if_pos q]
    have loop : ∀ k, k ≤ 111 → (fun k => 24 ≤ k → ∀ (ρ : x_T), x_fr x_sW τ ρ → x_md ρ (fun j => if 24 ≤ j ∧ j < k then e (j + 3) else e j) → x_WV d mX12_writes K 15 [(0, .ref 345), (1, .int a), (2, .int (nI k))] [] ρ) k := by
      refine z_down ?_ ?_
      · intro _ ρ f g
        refine k_X12_writes_15 ⟨fun _ t1 e1 => ?_, fun r => absurd (by decide) r⟩
        rw [← hs] at g
        have g2 := md_w g (k := 23) (v := 29) (z := 29) (by decide)
        rw [← e1] at g2
        have f2 : x_fr x_sW τ t1 := by rw [e1]; exact fr_w f (Or.inl rfl)
        have s7 : z_set (z_bs e) 23 29 (7 + i) = e (7 + i) := by rw [z_set_e, if_neg (by omega), hs]; simp only []; rw [if_neg (by omega)]
        refine ml_wr50 (n := 29) g2 ha hi (by rw [z_set_e, if_pos rfl]; rfl) (by omega) (by rw [s7]; omega) (fun σ f3 g3 => h _ (fr_t f2 f3) (md_cg g3 (fun k hk => ?_)))
        have h5 : z_set (z_bs e) 23 29 5 = e 5 := by rw [z_set_e, if_neg (by omega), hs]; simp only []; rw [if_neg (by omega)]
        rw [z_bk, hb, h5, s7]
        simp only [z_set, show (29 : Int).toNat = 29 from rfl]
        grind
      · intro k hk ih hk2 ρ f g
        have hk3 : nI k + 3 = nI (k + 3) := n_add k 3
        refine k_X12_writes_15 ⟨fun r => absurd r (nI_ge (a := k) (b := 111) (by omega) (by decide)), fun _ => ?_⟩
        rw [hk3, nI_clamp (by omega), nI_clamp (by omega)]
        refine ⟨vp_in_nI (by omega) (by decide), vp_in_nI (by omega) (by decide), fun t2 e2 y3 e3 => ?_⟩
        rw [e3, ← nI_succ]
        have q3 : (ρ.1 370 (k + 3)).toInt = e (k + 3) := by
          have := g (k + 3) (by omega)
          simp only [] at this
          rw [if_neg (by omega)] at this
          exact this
        subst e2
        refine ih (by omega) _ (fr_w f (Or.inl rfl)) (md_cg (md_w g q3) (fun j hj => ?_))
        simp only [z_set]
        grind
    exact loop 24 (by omega) (by omega) τ (fr_r _ _) (md_cg he (fun j hj => by rw [if_neg (by omega)]))
