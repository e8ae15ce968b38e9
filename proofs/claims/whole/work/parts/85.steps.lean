/-! what looks at the first numbers alone -/
def x_q (A A' : Nat → Int) : Prop := ∀ k, k < 130 → ¬ (2 ≤ k ∧ k ≤ 4) → A k = A' k
theorem wA_cg {A A' : Nat → Int} (h : x_q A A') (w : w_A A) : w_A A' := by
  obtain ⟨w1, w2, w3, w4, w5, w6, w7, w8⟩ := w
  have h0 := h 0 (by omega) (by omega)
  have h1 := h 1 (by omega) (by omega)
  have h5 := h 5 (by omega) (by omega)
  have h6 := h 6 (by omega) (by omega)
  refine ⟨by omega, fun k hk => ?_, fun k hk => ?_, fun k hk => ?_, fun k hk => ?_, fun i j hi hj => ?_, ⟨by omega, by omega, fun i hi hj => ?_⟩, ⟨by omega, by omega, fun i hi hj => ?_⟩⟩
  · rw [← h _ (by omega) (by omega)]; exact w2 k hk
  · rw [← h _ (by omega) (by omega)]; exact w3 k hk
  · rw [← h (22 + k) (by omega) (by omega), ← h0]; exact w4 k hk
  · rw [← h _ (by omega) (by omega)]; exact w5 k hk
  · rw [← h (30 + (8 * i + j)) (by omega) (by omega), ← h (30 + (8 * j + i)) (by omega) (by omega), ← h0]; exact w6 i j hi hj
  · rw [← h (94 + 2 * i) (by omega) (by omega), ← h (95 + 2 * i) (by omega) (by omega), ← h0]; exact w7.2.2 i hi (by omega)
  · rw [← h (110 + 2 * i) (by omega) (by omega), ← h (111 + 2 * i) (by omega) (by omega), ← h0]; exact w8.2.2 i hi (by omega)
theorem lk_cg {A A' : Nat → Int} (h : x_q A A') : z_lk A = z_lk A' := by
  funext k
  unfold z_lk
  split
  · exact h _ (by omega) (by omega)
  · rfl
theorem W_cg {A A' : Nat → Int} (h : x_q A A') : z_W A = z_W A' := by
  funext i j
  unfold z_W
  rw [lk_cg h]
theorem far_cg {A A' : Nat → Int} (h : x_q A A') : z_far A = z_far A' := by
  funext x y
  unfold z_far
  rw [W_cg h, h 0 (by omega) (by omega)]
theorem La_cg {A A' : Nat → Int} (h : x_q A A') (L : x_L2) : x_La L A = x_La L A' := by
  unfold x_La
  rw [far_cg h]
theorem cl_cg {B : Nat} {τ : x_T} {A A' : Nat → Int} (h : x_q A A') (c : x_cl B τ A) : x_cl B τ A' := by
  obtain ⟨c1, c2, c3, c4, c5, c6, c7, c8, c9⟩ := c
  have h0 := h 0 (by omega) (by omega)
  refine ⟨by rw [c1, h0], by rw [c2, h 1 (by omega) (by omega)], fun k hk => ?_, fun k hk hk2 => ?_, fun k hk => ?_, fun k hk => ?_, fun hp k hk => ?_, ⟨by rw [c8.1, h 5 (by omega) (by omega)], fun i hi => ?_⟩, ⟨by rw [c9.1, h 6 (by omega) (by omega)], fun i hi => ?_⟩⟩
  · rw [c3 k hk, h _ (by omega) (by omega)]
  · rw [c4 k hk (by omega), h _ (by omega) (by omega)]
  · rw [c5 k hk, h _ (by omega) (by omega)]
  · rw [c6 k hk, h _ (by omega) (by omega)]
  · rw [c7 (by omega) k hk, W_cg h]
  · rw [(c8.2 i hi).1, (c8.2 i hi).2, h _ (by omega) (by omega), h (95 + 2 * i) (by omega) (by omega)]; exact ⟨rfl, rfl⟩
  · rw [(c9.2 i hi).1, (c9.2 i hi).2, h _ (by omega) (by omega), h (111 + 2 * i) (by omega) (by omega)]; exact ⟨rfl, rfl⟩
theorem wD_cg {A A' e e' : Nat → Int} (h0 : A 0 = A' 0) (h1 : A 1 = A' 1) (h : ∀ k, k < 114 → e k = e' k) (w : w_D A e) : w_D A' e' := by
  unfold w_D at w ⊢
  rw [← h 0 (by omega), ← h 1 (by omega), ← h 2 (by omega), ← h 3 (by omega), ← h 4 (by omega), ← h 5 (by omega), ← h 6 (by omega), ← h 23 (by omega), ← h0, ← h1]
  refine ⟨w.1, w.2.1, w.2.2.1, w.2.2.2.1, w.2.2.2.2.1, w.2.2.2.2.2.1, w.2.2.2.2.2.2.1, fun k hk => ?_, fun k hk => ?_, w.2.2.2.2.2.2.2.2.2⟩
  · rw [← h _ (by omega)]; exact w.2.2.2.2.2.2.2.1 k hk
  · rw [← h _ (by omega)]; exact w.2.2.2.2.2.2.2.2.1 k hk
/-! a day is copied -/
theorem cp_step {τ t : x_T} {o r n : Nat} (ho : o ≠ r) (h : ∀ a b, t.1 a b = if a = o ∧ b < n then τ.1 r b else τ.1 a b) : ∀ a b, (x_w1 t o n (t.1 r n)).1 a b = if a = o ∧ b < n + 1 then τ.1 r b else τ.1 a b := by
  intro a b
  have hr : t.1 r n = τ.1 r n := (h r n).trans (if_neg (fun z => ho z.1.symm))
  rw [w1_at, hr]
  by_cases q : a = o ∧ b = n
  · rw [if_pos q, if_pos ⟨q.1, by omega⟩, q.2]
  · rw [if_neg q, h a b]
    by_cases r : a = o ∧ b < n
    · rw [if_pos r, if_pos ⟨r.1, by omega⟩]
    · rw [if_neg r, if_neg (by omega)]
theorem cl_copyDay {d o r1 : Nat} (ho : x_sh o = (1, 11)) (h1 : x_sh r1 = (1, 11)) (hd : o + 3 < r1 ∨ r1 + 3 < o) {τ : x_T} {e : Nat → Int} {K : x_T → Prop} (he : x_cd r1 τ e) (h : ∀ σ, x_fr (fun c => o ≤ c ∧ c ≤ o + 3) τ σ → x_cd o σ e → K σ) : x_CV (d + 1) mX1_copyFrom [.ref o, .ref r1] τ K := by
  refine e_X1_copyFrom ho h1 (fun t1 e1 t2 e2 t3 e3 t4 e4 t5 e5 t6 e6 t7 e7 t8 e8 t9 e9 t10 e10 t11 e11 => ?_)
  have g0 : ∀ a b, τ.1 a b = if a = o ∧ b < 0 then τ.1 r1 b else τ.1 a b := fun a b => (if_neg (by omega)).symm
  have g1 := cp_step (by omega) g0
  rw [← e1] at g1
  have g2 := cp_step (by omega) g1
  rw [← e2] at g2
  have g3 := cp_step (by omega) g2
  rw [← e3] at g3
  have g4 := cp_step (by omega) g3
  rw [← e4] at g4
  have g5 := cp_step (by omega) g4
  rw [← e5] at g5
  have g6 := cp_step (by omega) g5
  rw [← e6] at g6
  have g7 := cp_step (by omega) g6
  rw [← e7] at g7
  have f7 : x_fr (fun c => o ≤ c ∧ c ≤ o + 3) τ t7 := by
    refine ⟨fun c hc => ?_, by rw [e7, e6, e5, e4, e3, e2, e1]; rfl⟩
    funext b
    rw [g7, if_neg (by omega)]
  have f8 : x_fr (fun c => o ≤ c ∧ c ≤ o + 3) τ t8 := by rw [e8]; exact fr_cp f7 (by omega)
  have f9 : x_fr (fun c => o ≤ c ∧ c ≤ o + 3) τ t9 := by rw [e9]; exact fr_cp f8 (by omega)
  have f10 : x_fr (fun c => o ≤ c ∧ c ≤ o + 3) τ t10 := by rw [e10]; exact fr_w f9 (by omega)
  have f11 : x_fr (fun c => o ≤ c ∧ c ≤ o + 3) τ t11 := by rw [e11]; exact fr_cp f10 (by omega)
  refine h _ f11 (cd_of (fun k hk => ?_) (fun k hk => ?_) (fun k hk => ?_) ?_ (fun k hk => ?_))
  · rw [e11, cp_ne (by omega), e10, w1_at, if_neg (by omega), e9, cp_ne (by omega), e8, cp_ne (by omega), g7, if_pos ⟨rfl, hk⟩]
    exact cd_0 he hk
  · rw [e11, cp_ne (by omega), e10, w1_c (by omega), e9, cp_ne (by omega), e8, cp_at, if_pos (by omega), f7.1 _ (by omega), Nat.sub_zero, Nat.zero_add]
    exact cd_1 he hk
  · rw [e11, cp_ne (by omega), e10, w1_c (by omega), e9, cp_at, if_pos (by omega), f8.1 _ (by omega), Nat.sub_zero, Nat.zero_add]
    exact cd_2 he hk
  · rw [e11, cp_ne (by omega), e10, w1_at, if_pos ⟨rfl, rfl⟩, f9.1 _ (by omega)]
    exact cd_9 he
  · rw [e11, cp_at, if_pos (by omega), f10.1 _ (by omega), Nat.sub_zero, Nat.zero_add]
    exact cd_3 he hk
/-! a step is kept -/
def z_kc (A : Nat → Int) : Int := if A 4 = 30 then 29 else A 4
def z_ks (A : Nat → Int) (k : Nat) : Int := if A 4 = 30 ∧ 250 ≤ k ∧ k < 3556 then A (k + 114) else A k
def z_keep (A : Nat → Int) (k : Nat) : Int := if k = 4 then z_kc A + 1 else if 250 + 114 * (z_kc A).toNat ≤ k ∧ k < 250 + 114 * (z_kc A).toNat + 114 then A (130 + (k - (250 + 114 * (z_kc A).toNat))) else z_ks A k
theorem keep_lt {A : Nat → Int} {k : Nat} (h4 : ¬ k = 4) (h : k < 250) : z_keep A k = A k := by
  unfold z_keep z_ks
  rw [if_neg h4, if_neg (by omega), if_neg (by omega)]
theorem ml_keepsStep {d : Nat} {τ : x_T} {A : Nat → Int} {K : x_T → Prop} (hm : j_A τ = A) (h4 : 0 ≤ A 4 ∧ A 4 ≤ 30) (h : ∀ σ : x_T, x_fr (fun c => c = 346) τ σ → j_A σ = z_keep A → K σ) : x_CV d mX12_keepsStep [.ref 345] τ K := by
  have hA : ∀ k, (τ.1 346 k).toInt = A k := fun k => by rw [← hm]; rfl
  have last : ∀ (ρ : x_T) (n : Nat), n ≤ 29 → z_kc A = n → x_fr (fun c => c = 346) τ ρ → (∀ j, (ρ.1 346 j).toInt = if j = 4 then (n : Int) else z_ks A j) → x_WV d mX12_keepsStep K 51 [(0, .ref 345)] [] ρ := by
    intro ρ0 n hn hc f0 g0
    refine k_X12_keepsStep_51 ?_
    have loop : ∀ k, k ≤ 114 → (fun k => ∀ (ρ : x_T), x_fr (fun c => c = 346) τ ρ → (∀ j, (ρ.1 346 j).toInt = if j = 4 then (n : Int) else if 250 + 114 * n ≤ j ∧ j < 250 + 114 * n + k then A (130 + (j - (250 + 114 * n))) else z_ks A j) → x_WV d mX12_keepsStep K 53 [(0, .ref 345), (1, .int (nI k))] [] ρ) k := by
      refine z_down ?_ ?_
      · intro ρ f g
        refine k_X12_keepsStep_53 ⟨fun _ t1 e1 => ?_, fun q => absurd (by decide) q⟩
        subst e1
        refine h _ (fr_w f rfl) ?_
        have q4 : (ρ.1 346 4).toInt = n := by rw [g 4, if_pos rfl]
        funext j
        unfold j_A z_keep
        rw [w1_at]
        by_cases r : j = 4
        · rw [if_pos ⟨rfl, r⟩, if_pos r, z_add (by rw [q4]; simp only [Int32.reduceToInt]; omega), q4, hc]; rfl
        · rw [if_neg (fun z => r z.2), if_neg r, g j, if_neg r, hc]; rfl
      · intro k hk ih ρ f g
        have q4 : ρ.1 346 4 = nI n := z_of (by omega) (by rw [g 4, if_pos rfl])
        refine k_X12_keepsStep_53 ⟨fun q => absurd q (nI_ge (a := k) (b := 114) (by omega) (by decide)), fun _ => ?_⟩
        have i1 : (130 : Int32) + nI k = nI (130 + k) := n_add 130 k
        have i2 : (250 : Int32) + 114 * ρ.1 346 4 + nI k = nI (250 + 114 * n + k) := by
          rw [q4, show (114 : Int32) * nI n = nI (114 * n) from n_mul 114 n, show (250 : Int32) + nI (114 * n) = nI (250 + 114 * n) from n_add 250 _, n_add]
        rw [i1, i2, nI_clamp (by omega), nI_clamp (by omega)]
        refine ⟨vp_in_nI (by omega) (by decide), vp_in_nI (by omega) (by decide), fun t2 e2 y3 e3 => ?_⟩
        rw [e3, ← nI_succ]
        subst e2
        refine ih _ (fr_w f rfl) (fun j => ?_)
        rw [w1_at]
        by_cases q : j = 250 + 114 * n + k
        · rw [if_pos ⟨rfl, q⟩, g (130 + k), if_neg (by omega), if_neg (by omega), if_neg (by omega), if_pos (by omega), z_ks, if_neg (by omega), q, Nat.add_sub_cancel_left]
        · rw [if_neg (fun z => q z.2), g j]
          by_cases r : j = 4
          · rw [if_pos r, if_pos r]
          · rw [if_neg r, if_neg r]
            by_cases s : 250 + 114 * n ≤ j ∧ j < 250 + 114 * n + k
            · rw [if_pos s, if_pos (by omega)]
            · rw [if_neg s, if_neg (by omega)]
    refine loop 0 (by omega) ρ0 f0 (fun j => ?_)
    rw [g0 j]
    by_cases r : j = 4
    · rw [if_pos r, if_pos r]
    · rw [if_neg r, if_neg r, if_neg (by omega)]
  have h4e : (τ.1 346 4).toInt = A 4 := hA 4
  refine e_X12_keepsStep ⟨fun q => ?_, fun q => ?_⟩
  · rw [z_eq, h4e] at q; simp only [Int32.reduceToInt] at q
    have hc : z_kc A = ((A 4).toNat : Nat) := by rw [z_kc, if_neg q]; omega
    refine last τ (A 4).toNat (by omega) hc (fr_r _ _) (fun j => ?_)
    rw [hA j]
    by_cases r : j = 4
    · rw [if_pos r, r]; omega
    · rw [if_neg r, z_ks, if_neg (fun z => q z.1)]
  · rw [z_eq, h4e] at q; simp only [Int32.reduceToInt] at q
    have hc : z_kc A = (29 : Nat) := by rw [z_kc, if_pos q]; rfl
    have loop : ∀ k, k ≤ 3556 → (fun k => 250 ≤ k → ∀ (ρ : x_T), x_fr (fun c => c = 346) τ ρ → (∀ j, (ρ.1 346 j).toInt = if 250 ≤ j ∧ j < k then A (j + 114) else A j) → x_WV d mX12_keepsStep K 15 [(0, .ref 345), (1, .int (nI k))] [] ρ) k := by
      refine z_down ?_ ?_
      · intro _ ρ f g
        refine k_X12_keepsStep_15 ⟨fun _ t1 e1 => ?_, fun q => absurd (by decide) q⟩
        subst e1
        refine last _ 29 (by omega) hc (fr_w f rfl) (fun j => ?_)
        rw [w1_at]
        by_cases r : j = 4
        · rw [if_pos ⟨rfl, r⟩, if_pos r]; rfl
        · rw [if_neg (fun z => r z.2), if_neg r, g j, z_ks]
          by_cases s : 250 ≤ j ∧ j < 3556
          · rw [if_pos s, if_pos ⟨q, s⟩]
          · rw [if_neg s, if_neg (fun z => s z.2)]
      · intro k hk ih hk2 ρ f g
        have i1 : nI k + 114 = nI (k + 114) := n_add k 114
        refine k_X12_keepsStep_15 ⟨fun q => absurd q (nI_ge (a := k) (b := 3556) (by omega) (by decide)), fun _ => ?_⟩
        rw [i1, nI_clamp (by omega), nI_clamp (by omega)]
        refine ⟨vp_in_nI (by omega) (by decide), vp_in_nI (by omega) (by decide), fun t2 e2 y3 e3 => ?_⟩
        rw [e3, ← nI_succ]
        subst e2
        refine ih (by omega) _ (fr_w f rfl) (fun j => ?_)
        rw [w1_at]
        by_cases q : j = k
        · rw [if_pos ⟨rfl, q⟩, g (k + 114), if_neg (by omega), if_pos (by omega), q]
        · rw [if_neg (fun z => q z.2), g j]
          by_cases s : 250 ≤ j ∧ j < k
          · rw [if_pos s, if_pos (by omega)]
          · rw [if_neg s, if_neg (by omega)]
    exact loop 250 (by omega) (by omega) τ (fr_r _ _) (fun j => by rw [if_neg (by omega)]; exact hA j)
theorem shd_17 {k : Nat} (h : k < 30) : x_sh (17 + 1 + 1 + 4 * k) = (1, 11) := by
  have : k = 0 ∨ k = 1 ∨ k = 2 ∨ k = 3 ∨ k = 4 ∨ k = 5 ∨ k = 6 ∨ k = 7 ∨ k = 8 ∨ k = 9 ∨ k = 10 ∨ k = 11 ∨ k = 12 ∨ k = 13 ∨ k = 14 ∨ k = 15 ∨ k = 16 ∨ k = 17 ∨ k = 18 ∨ k = 19 ∨ k = 20 ∨ k = 21 ∨ k = 22 ∨ k = 23 ∨ k = 24 ∨ k = 25 ∨ k = 26 ∨ k = 27 ∨ k = 28 ∨ k = 29 := by omega
  rcases this with rfl | rfl | rfl | rfl | rfl | rfl | rfl | rfl | rfl | rfl | rfl | rfl | rfl | rfl | rfl | rfl | rfl | rfl | rfl | rfl | rfl | rfl | rfl | rfl | rfl | rfl | rfl | rfl | rfl | rfl <;> rfl
theorem shd_192 {k : Nat} (h : k < 30) : x_sh (192 + 1 + 1 + 4 * k) = (1, 11) := by
  have : k = 0 ∨ k = 1 ∨ k = 2 ∨ k = 3 ∨ k = 4 ∨ k = 5 ∨ k = 6 ∨ k = 7 ∨ k = 8 ∨ k = 9 ∨ k = 10 ∨ k = 11 ∨ k = 12 ∨ k = 13 ∨ k = 14 ∨ k = 15 ∨ k = 16 ∨ k = 17 ∨ k = 18 ∨ k = 19 ∨ k = 20 ∨ k = 21 ∨ k = 22 ∨ k = 23 ∨ k = 24 ∨ k = 25 ∨ k = 26 ∨ k = 27 ∨ k = 28 ∨ k = 29 := by omega
  rcases this with rfl | rfl | rfl | rfl | rfl | rfl | rfl | rfl | rfl | rfl | rfl | rfl | rfl | rfl | rfl | rfl | rfl | rfl | rfl | rfl | rfl | rfl | rfl | rfl | rfl | rfl | rfl | rfl | rfl | rfl <;> rfl
theorem cl_dayAt {d P f : Nat} (hP : P = 17 ∨ P = 192) {v : Int32} {i : Nat} {τ : x_T} {K : x_T → Option Nat → Prop} (hf : (τ.1 P 1).toInt = f) (hf2 : f < 30) (hv : v.toInt = i) (hi : i < 30) (h : x_sh (P + 2 + 4 * ((f + i) % 30)) = (1, 11) → K τ (some (P + 2 + 4 * ((f + i) % 30)))) : x_CR d mX7_dayAt [.ref P, .int v] τ K := by
  have ho : x_sh P = (7, 3) := by rcases hP with rfl | rfl <;> rfl
  have hm : (f + i) % 30 < 30 := Nat.mod_lt _ (by omega)
  refine e_X7_dayAt ho (fun y1 e1 => ?_)
  have hs : (τ.1 P 1 + v).toInt = ((f + i : Nat) : Int) := by rw [z_add (by omega), hf, hv]; omega
  have hy : y1.toInt = (((f + i) % 30 : Nat) : Int) := by
    rw [e1, z_rem, hs, Int.tmod_eq_emod_of_nonneg (by omega)]
    simp only [Int32.reduceToInt]
    omega
  refine ⟨fun q => ?_, fun _ => ⟨fun q => ?_, fun _ => ⟨ix_n (by omega), fun c2 ec => ?_⟩⟩⟩
  · rw [z_lt, hy] at q; simp only [Int32.reduceToInt] at q; omega
  · rw [z_le, hy] at q; simp only [Int32.reduceToInt] at q; omega
  · rw [z_cl, hy, Int.toNat_natCast] at ec
    have hsh : x_sh (P + 1 + 1 + 4 * ((f + i) % 30)) = (1, 11) := by
      rcases hP with rfl | rfl
      · exact shd_17 hm
      · exact shd_192 hm
    rw [ec]
    exact ⟨hsh, h hsh⟩
