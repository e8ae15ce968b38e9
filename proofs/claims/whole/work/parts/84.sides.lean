/-! laws, whatever the land is -/
def x_L2 : Type := Nat → Option ((Int → Int → Int) → (Nat → Int) → Int)
def x_La (L : x_L2) (A : Nat → Int) : x_L := fun w => (L w).map (fun f => f (z_far A))
def x_LC2 (τ : x_T) (L : x_L2) : Prop := ∀ σ : x_T, (∀ c, 139 ≤ c ∧ c ≤ 175 → σ.1 c = τ.1 c) → σ.2.2.2 = τ.2.2.2 → ∀ w, w < 4 → ∀ (d : Nat) (K : x_T → Int32 → Prop),
  (L w = none → K σ 0 → x_CI (d + 1) mX4_rules [.ref 329, .int (nI w)] σ K)
  ∧ (∀ f, L w = some f → (K σ 1 → x_CI (d + 1) mX4_rules [.ref 329, .int (nI w)] σ K)
    ∧ ∀ (A : Nat → Int), w_A A → x_cl 1 σ A → ∀ env : Nat → Int, (∀ j, x_al w j → -1000000 ≤ env j ∧ env j ≤ 1000000) → (∀ j, x_al w j → (σ.1 330 (x_wd j)).toInt = env j) → (∀ (ρ : x_T) (v : Int32), x_fr (fun c => c = 329 ∨ c = 331) σ ρ → v.toInt = f (z_far A) env → K ρ v) → x_CI (d + 1) mX4_said [.ref 329, .int (nI w)] σ K)
def x_LM2 (τ : x_T) (L : x_L2) : Prop := ∀ w, w < 4 →
  (L w = none → ∀ σ : x_T, σ.1 346 3 = τ.1 346 3 → (∀ c, 349 ≤ c ∧ c ≤ 356 → σ.1 c = τ.1 c) → ∀ (d : Nat) (K : x_T → Int32 → Prop), K σ (-1) → x_CI d mX12_ordersOf [.ref 345, .int (nI w)] σ K)
  ∧ (∀ f, L w = some f → ∃ p : Int32, ¬ p = -1 ∧ ∀ σ : x_T, σ.1 346 3 = τ.1 346 3 → (∀ c, 349 ≤ c ∧ c ≤ 356 → σ.1 c = τ.1 c) → ∀ (d : Nat),
    (∀ (K : x_T → Int32 → Prop), K σ p → x_CI d mX12_ordersOf [.ref 345, .int (nI w)] σ K)
    ∧ ∀ (A : Nat → Int), w_A A → (σ.1 346 0).toInt = A 0 → (∀ k, k < 64 → (σ.1 369 k).toInt = z_W A (k / 8) (k % 8)) → ∀ (K : x_T → Int64 → Prop) (env : Nat → Int), (∀ j, x_al w j → -1000000 ≤ env j ∧ env j ≤ 1000000) → (∀ j, x_al w j → (σ.1 371 j).toInt = env j) → (∀ (ρ : x_T) (v : Int64), ρ.1 = σ.1 → ρ.2.2 = σ.2.2 → v.toInt = f (z_far A) env → K ρ v) → x_CL (d + 1 + 1) mX12_saysOf [.ref 345, .int p] σ K)
theorem La_n {L : x_L2} {A : Nat → Int} {w : Nat} (h : x_La L A w = none) : L w = none := by
  unfold x_La at h
  cases hL : L w with
  | none => rfl
  | some f => rw [hL] at h; simp at h
theorem La_s {L : x_L2} {A : Nat → Int} {w : Nat} {g : (Nat → Int) → Int} (h : x_La L A w = some g) : ∃ f, L w = some f ∧ g = f (z_far A) := by
  unfold x_La at h
  cases hL : L w with
  | none => rw [hL] at h; simp at h
  | some f => rw [hL] at h; exact ⟨f, rfl, by simp at h; exact h.symm⟩
theorem LC2_LC {τ : x_T} {L : x_L2} {A : Nat → Int} (h : x_LC2 τ L) (wA : w_A A) (hc : x_cl 1 τ A) : x_LC τ (x_La L A) := by
  intro σ s1 s2 w hw d K
  have hh := h σ (fun c hc => s1 c (by omega)) (by rw [s2]) w hw d K
  refine ⟨fun hn => hh.1 (La_n hn), fun g hg => ?_⟩
  obtain ⟨f, hf, rfl⟩ := La_s hg
  exact ⟨(hh.2 f hf).1, (hh.2 f hf).2 A wA (cl_fr hc (fun c hc => s1 c (by omega)))⟩
theorem LM2_LM {τ : x_T} {L : x_L2} {A : Nat → Int} (h : x_LM2 τ L) (wA : w_A A) (hm : ∀ k, k < 130 → k ≠ 4 → (τ.1 346 k).toInt = A k) : x_LM τ A (x_La L A) := by
  intro w hw
  refine ⟨fun hn σ s1 s2 s3 d K hK => (h w hw).1 (La_n hn) σ (s1 3 (by omega) (by omega)) s2 d K hK, fun g hg => ?_⟩
  obtain ⟨f, hf, rfl⟩ := La_s hg
  obtain ⟨p, hp, hh⟩ := (h w hw).2 f hf
  exact ⟨p, hp, fun σ s1 s2 s3 d => ⟨(hh σ (s1 3 (by omega) (by omega)) s2 d).1, (hh σ (s1 3 (by omega) (by omega)) s2 d).2 A wA (by rw [s1 0 (by omega) (by omega)]; exact hm 0 (by omega) (by omega)) s3⟩⟩
theorem LC2_fr {τ σ : x_T} {L : x_L2} (h : x_LC2 τ L) (h1 : ∀ c, 139 ≤ c ∧ c ≤ 175 → σ.1 c = τ.1 c) (h2 : σ.2.2.2 = τ.2.2.2) : x_LC2 σ L := fun ρ g1 g2 => h ρ (fun c hc => (g1 c hc).trans (h1 c hc)) (g2.trans h2)
theorem LM2_fr {τ σ : x_T} {L : x_L2} (h : x_LM2 τ L) (h3 : σ.1 346 3 = τ.1 346 3) (h1 : ∀ c, 349 ≤ c ∧ c ≤ 356 → σ.1 c = τ.1 c) : x_LM2 σ L := by
  intro w hw
  refine ⟨fun hn ρ r1 r2 => (h w hw).1 hn ρ (r1.trans h3) (fun c hc => (r2 c hc).trans (h1 c hc)), fun f hf => ?_⟩
  obtain ⟨p, hp, hh⟩ := (h w hw).2 f hf
  exact ⟨p, hp, fun ρ r1 r2 => hh ρ (r1.trans h3) (fun c hc => (r2 c hc).trans (h1 c hc))⟩
/-! the two sides of a call -/
def x_hc (τ : x_T) (A : Nat → Int) (L : x_L2) : Prop := x_hf 1 13 17 τ A ∧ x_LC2 τ L
def j_sC (c : Nat) : Prop := (1 ≤ c ∧ c ≤ 138) ∨ (329 ≤ c ∧ c ≤ 344)
def x_hm (τ : x_T) (A : Nat → Int) (L : x_L2) : Prop := j_A τ = A ∧ x_LM2 τ L
def j_sM (c : Nat) : Prop := c = 346 ∨ (357 ≤ c)
theorem hc_cc {τ : x_T} {A : Nat → Int} {L : x_L2} (h : x_hc τ A L) : x_cc τ A (x_La L A) := ⟨h.1.2.1, LC2_LC h.2 h.1.1 h.1.2.1⟩
theorem hc_fr {τ σ : x_T} {A A' : Nat → Int} {L : x_L2} (h : x_hc τ A L) (g : x_fr j_sC τ σ) (hf : x_hf 1 13 17 σ A') : x_hc σ A' L := ⟨hf, LC2_fr h.2 (fun c hc => g.1 c (by unfold j_sC; omega)) (by rw [g.2])⟩
theorem hm_fr {τ σ : x_T} {A A' : Nat → Int} {L : x_L2} (h : x_hm τ A L) (g : x_fr j_sM τ σ) (ha : j_A σ = A') (h3 : A' 3 = A 3) : x_hm σ A' L := by
  refine ⟨ha, LM2_fr h.2 ?_ (fun c hc => g.1 c (by unfold j_sM; omega))⟩
  have e1 : j_A σ 3 = A' 3 := by rw [ha]
  have e2 : j_A τ 3 = A 3 := by rw [h.1]
  unfold j_A at e1 e2
  rw [z_eq, e1, e2, h3]
/-- the tie behind a call -/
theorem J_of {τ σ ρ : x_T} {A' : Nat → Int} (h : x_J τ) (g : x_fr j_sC τ σ) (hf : x_hf 1 13 17 σ A') (g2 : x_fr j_sM σ ρ) (ha : j_A ρ = A') (h2 : A' 2 = j_A τ 2) (h3 : A' 3 = j_A τ 3) : x_J ρ := by
  have gc : ∀ c, (1 ≤ c ∧ c ≤ 138) → ρ.1 c = σ.1 c := fun c hc => g2.1 c (by unfold j_sM; omega)
  have ga : ∀ c, c = 0 ∨ (139 ≤ c ∧ c ≤ 328) ∨ c = 345 ∨ (347 ≤ c ∧ c ≤ 356) → ρ.1 c = τ.1 c := fun c hc => (g2.1 c (by unfold j_sM; omega)).trans (g.1 c (by unfold j_sC; omega))
  have eI : j_I ρ = j_I τ := by funext k; unfold j_I; rw [ga 347 (by omega)]
  have er : ρ.2.2 = τ.2.2 := g2.2.trans g.2
  obtain ⟨k1, k2, k3, k4, k5, k6⟩ := h
  refine ⟨?_, ?_, ?_, ?_, ?_, ?_⟩
  · rw [ha]; exact hf_fr hf (fun c hc => gc c (by omega))
  · rw [eI]; exact hf_fr k2 (fun c hc => ga c (by omega))
  · unfold j_mis at k3 ⊢
    rw [ha, eI, ga 0 (by omega), er, h2, h3]; exact k3
  · unfold j_tape at k4 ⊢
    rw [ga 314 (by omega), ga 345 (by omega), ga 315 (by omega), ga 348 (by omega)]; exact k4
  · unfold j_flt at k5 ⊢
    rw [ga 319 (by omega), ga 345 (by omega)]; exact k5
  · intro t ht
    rw [ha, h2] at ht
    have := k3.2.1
    exact text_fr (by omega) (k6 t ht) (fun c hc => ga c (by omega))
def x_HL : Prop := ∀ τ, x_J τ → ∃ L : x_L2, x_LC2 τ L ∧ x_LM2 τ L
theorem J_hc {τ : x_T} {L : x_L2} (h : x_J τ) (hl : x_LC2 τ L) : x_hc τ (j_A τ) L := ⟨h.1, hl⟩
theorem sL_sC (c : Nat) (h : x_sL c) : j_sC c := by unfold x_sL at h; unfold j_sC; omega
theorem sc_sC (c : Nat) (h : x_sL c) : x_sc c := by unfold x_sL at h; unfold x_sc; omega
/-- the model's far ways and day, laid -/
theorem ml_laysNow {d : Nat} {τ : x_T} {A : Nat → Int} {L : x_L2} {K : x_T → Prop} (hm : x_hm τ A L) (wA : w_A A) (h : ∀ σ : x_T, x_fr (fun c => c = 369 ∨ c = 370) τ σ → x_md σ (fun k => A (130 + k)) → x_mc σ A (x_La L A) → x_hm σ A L → K σ) : x_CV (d + 1) mX12_laysNow [.ref 345] τ K := by
  refine e_X12_laysNow ?_
  have hA : ∀ k, (τ.1 346 k).toInt = A k := fun k => by rw [← hm.1]; rfl
  have loop : ∀ k, k ≤ 114 → (fun k => ∀ (ρ : x_T), x_fr (fun c => c = 369 ∨ c = 370) τ ρ → (∀ j, j < k → (ρ.1 370 j).toInt = A (130 + j)) → x_WV (d + 1) mX12_laysNow K 2 [(0, .ref 345), (1, .int (nI k))] [] ρ) k := by
    refine z_down ?_ ?_
    · intro ρ f g
      have f46 : ρ.1 346 = τ.1 346 := f.1 346 (by omega)
      refine k_X12_laysNow_2 ⟨fun _ => p_laysFar (z_lk A) (fun k hk => ?_) (z_lk_b wA) ?_, fun q => absurd (by decide) q⟩
      · rw [f46, hA, z_lk, if_pos hk]
      · have f2 : x_fr (fun c => c = 369 ∨ c = 370) τ (x_st ρ 369 64 (fun k => z_fw (z_lk A) 8 (k / 8) (k % 8))) := ⟨fun c hc => (st_ne (by omega)).trans (f.1 c hc), f.2⟩
        have hm2 : x_hm (x_st ρ 369 64 (fun k => z_fw (z_lk A) 8 (k / 8) (k % 8))) A L := hm_fr hm (fr_m (fun c hc => by unfold j_sM; omega) f2) (by funext k; unfold j_A; rw [f2.1 346 (by omega)]; exact hA k) rfl
        have hA2 : ∀ k, ((x_st ρ 369 64 (fun k => z_fw (z_lk A) 8 (k / 8) (k % 8))).1 346 k).toInt = A k := fun k => by rw [f2.1 346 (by omega)]; exact hA k
        refine h _ f2 (fun k hk => ?_) ⟨fun k _ _ => hA2 k, fun k hk => ?_, LM2_LM hm2.2 wA (fun k _ _ => hA2 k)⟩ hm2
        · rw [st_ne (by omega)]; exact g k hk
        · rw [st_at hk]
          have := z_W_b wA (k / 8) (k % 8)
          exact z_oi (by unfold z_W at this; omega)
    · intro k hk ih ρ f g
      have f46 : ρ.1 346 = τ.1 346 := f.1 346 (by omega)
      have c : (130 : Int32) + nI k = nI (130 + k) := n_add 130 k
      refine k_X12_laysNow_2 ⟨fun q => absurd q (nI_ge (a := k) (b := 114) (by omega) (by decide)), fun _ => ?_⟩
      rw [c, nI_clamp (by omega), nI_clamp (by omega)]
      refine ⟨vp_in_nI (by omega) (by decide), vp_in_nI (by omega) (by decide), fun t3 e3 y4 e4 => ?_⟩
      rw [e4, ← nI_succ]
      subst e3
      refine ih _ (fr_w f (Or.inr rfl)) (fun j hj => ?_)
      rw [w1_at]
      by_cases q : j = k
      · rw [if_pos ⟨rfl, q⟩, f46, hA, q]
      · rw [if_neg (fun z => q z.2)]; exact g j (by omega)
  exact loop 0 (by omega) τ (fr_r _ _) (fun j hj => by omega)
/-- the model's day, kept -/
def z_put (A e : Nat → Int) (k : Nat) : Int := if 130 ≤ k ∧ k < 244 then e (k - 130) else A k
theorem ml_keepsNow {d : Nat} {τ : x_T} {A e : Nat → Int} {K : x_T → Prop} (hm : j_A τ = A) (he : x_md τ e) (h : ∀ σ : x_T, x_fr (fun c => c = 346) τ σ → j_A σ = z_put A e → K σ) : x_CV d mX12_keepsNow [.ref 345] τ K := by
  refine e_X12_keepsNow ?_
  have hA : ∀ k, (τ.1 346 k).toInt = A k := fun k => by rw [← hm]; rfl
  have loop : ∀ k, k ≤ 114 → (fun k => ∀ (ρ : x_T), x_fr (fun c => c = 346) τ ρ → (∀ j, (ρ.1 346 j).toInt = if 130 ≤ j ∧ j < 130 + k then e (j - 130) else A j) → x_WV d mX12_keepsNow K 2 [(0, .ref 345), (1, .int (nI k))] [] ρ) k := by
    refine z_down ?_ ?_
    · intro ρ f g
      refine k_X12_keepsNow_2 ⟨fun _ => h _ f ?_, fun q => absurd (by decide) q⟩
      funext j
      exact g j
    · intro k hk ih ρ f g
      have f70 : ρ.1 370 = τ.1 370 := f.1 370 (by omega)
      have c : (130 : Int32) + nI k = nI (130 + k) := n_add 130 k
      refine k_X12_keepsNow_2 ⟨fun q => absurd q (nI_ge (a := k) (b := 114) (by omega) (by decide)), fun _ => ?_⟩
      rw [c, nI_clamp (by omega), nI_clamp (by omega)]
      refine ⟨vp_in_nI (by omega) (by decide), vp_in_nI (by omega) (by decide), fun t3 e3 y4 e4 => ?_⟩
      rw [e4, ← nI_succ]
      subst e3
      refine ih _ (fr_w f rfl) (fun j => ?_)
      rw [w1_at]
      by_cases q : j = 130 + k
      · rw [if_pos ⟨rfl, q⟩, f70, he k (by omega), if_pos (by omega), q, Nat.add_sub_cancel_left]
      · rw [if_neg (fun z => q z.2), g j]
        by_cases r : 130 ≤ j ∧ j < 130 + k
        · rw [if_pos r, if_pos (by omega)]
        · rw [if_neg r, if_neg (by omega)]
  exact loop 0 (by omega) τ (fr_r _ _) (fun j => (hA j).trans (if_neg (show ¬ (130 ≤ j ∧ j < 130 + 0) by omega)).symm)
