def z_dy (A : Nat → Int) (k : Nat) : Int := A (130 + k)
theorem put_lt {A e : Nat → Int} {k : Nat} (h : k < 130) : z_put A e k = A k := by unfold z_put; rw [if_neg (by omega)]
theorem put_ge {A e : Nat → Int} {k : Nat} (h : 244 ≤ k) : z_put A e k = A k := by unfold z_put; rw [if_neg (by omega)]
theorem put_dy {A e : Nat → Int} {k : Nat} (h : k < 114) : z_put A e (130 + k) = e k := by unfold z_put; rw [if_pos (by omega), Nat.add_sub_cancel_left]
theorem cs_cg {P : Nat} {τ : x_T} {A A' : Nat → Int} (h0 : A 0 = A' 0) (h1 : A 1 = A' 1) (h4 : A 4 = A' 4) (h : ∀ k, 250 ≤ k → A k = A' k) (c : x_cs P τ A) : x_cs P τ A' := by
  obtain ⟨c1, c2, c3, f, hf, c4, c5⟩ := c
  refine ⟨by rw [c1, h4], by omega, by omega, f, hf, c4, fun i hi => ⟨cd_cg (c5 i (by omega)).1 (fun k hk => h _ (by omega)), wD_cg h0 h1 (fun k hk => h _ (by omega)) (c5 i (by omega)).2⟩⟩
theorem hf_put {τ σ : x_T} {A e : Nat → Int} (h : x_hf 1 13 17 τ A) (f : x_fr (x_sD 13) τ σ) (he : x_cd 13 σ e) (wD : w_D A e) : x_hf 1 13 17 σ (z_put A e) := by
  obtain ⟨h1, h2, h3, h4, h5⟩ := h
  have q : x_q A (z_put A e) := fun k hk _ => (put_lt hk).symm
  refine ⟨wA_cg q h1, cl_cg q (clB_fr h2 (fun c hc => f.1 c (by unfold x_sD; omega))), wD_cg (put_lt (by omega)).symm (put_lt (by omega)).symm (fun k hk => (put_dy hk).symm) wD, cd_cg he (fun k hk => (put_dy hk).symm), cs_cg (put_lt (by omega)).symm (put_lt (by omega)).symm (put_lt (by omega)).symm (fun k hk => (put_ge (by omega)).symm) (cs_fr h5 (fun c hc => f.1 c (by unfold x_sD; omega)))⟩
theorem keep_4 (A : Nat → Int) : z_keep A 4 = z_kc A + 1 := by unfold z_keep; rw [if_pos rfl]
theorem keep_q (A : Nat → Int) : x_q A (z_keep A) := fun k hk hn => (keep_lt (by omega) (by omega)).symm
theorem keep_n {A : Nat → Int} {n k : Nat} (hn : z_kc A = n) (hk : k < 114) : z_keep A (250 + 114 * n + k) = A (130 + k) := by
  unfold z_keep
  rw [hn, Int.toNat_natCast, if_neg (by omega), if_pos (by omega), Nat.add_sub_cancel_left]
theorem keep_i {A : Nat → Int} {n i k : Nat} (hn : z_kc A = n) (hn2 : n ≤ 29) (hi : i < n) (hk : k < 114) : z_keep A (250 + 114 * i + k) = if A 4 = 30 then A (250 + 114 * (i + 1) + k) else A (250 + 114 * i + k) := by
  unfold z_keep z_ks
  rw [hn, Int.toNat_natCast, if_neg (by omega), if_neg (by omega)]
  by_cases q : A 4 = 30
  · rw [if_pos (by omega), if_pos q]
    congr 1
    omega
  · rw [if_neg (by omega), if_neg q]
theorem cl_keep {d : Nat} {τ : x_T} {A : Nat → Int} {K : x_T → Prop} (h0 : x_hf 1 13 17 τ A) (h : ∀ σ, x_fr (fun c => 17 ≤ c ∧ c ≤ 138) τ σ → x_hf 1 13 17 σ (z_keep A) → K σ) : x_CV (d + 1 + 1) mX7_keep [.ref 17, .ref 13] τ K := by
  obtain ⟨h1, h2, h3, h4, c1, c2, c3, f, hf, c4, c5⟩ := h0
  have q := keep_q A
  have k0 : A 0 = z_keep A 0 := q 0 (by omega) (by omega)
  have k1 : A 1 = z_keep A 1 := q 1 (by omega) (by omega)
  have kd : ∀ k, k < 114 → A (130 + k) = z_keep A (130 + k) := fun k hk => (keep_lt (by omega) (by omega)).symm
  have tail : ∀ (t : x_T) (f' n : Nat), x_fr (fun c => 17 ≤ c ∧ c ≤ 138) τ t → (∀ c, 18 ≤ c → t.1 c = τ.1 c) → f' < 30 → n < 30 → (t.1 17 1).toInt = f' → (t.1 17 2).toInt = n + 1 → z_kc A = n → (∀ i, i < n → x_cd (17 + 2 + 4 * ((f' + i) % 30)) τ (fun k => z_keep A (250 + 114 * i + k)) ∧ w_D A (fun k => z_keep A (250 + 114 * i + k))) → x_WV (d + 1 + 1) mX7_keep K 35 [(0, .ref 17), (1, .ref 13)] [] t := by
    intro t f' n ft gt hf' hn t1 t2 hc hi
    refine k_X7_keep_35 rfl rfl (cl_dayAt (Or.inl rfl) t1 hf' (i := n) (by rw [z_sub (by rw [t2]; simp only [Int32.reduceToInt]; omega), t2]; simp only [Int32.reduceToInt]; omega) hn (fun hsh => ⟨fun z => absurd z (by simp), fun c3 e3 => ?_⟩))
    have e3' : 17 + 2 + 4 * ((f' + n) % 30) = c3 := Option.some.inj e3
    subst e3'
    have hm : (f' + n) % 30 < 30 := Nat.mod_lt _ (by omega)
    refine ⟨hsh, cl_copyDay hsh rfl (by omega) (cd_fr h4 (ft.1 _ (by omega)) (ft.1 _ (by omega)) (ft.1 _ (by omega)) (ft.1 _ (by omega))) (fun σ fs gs => ?_)⟩
    have fσ : x_fr (fun c => 17 ≤ c ∧ c ≤ 138) τ σ := fr_t ft (fr_m (fun c hc => by omega) fs)
    have s17 : σ.1 17 = t.1 17 := fs.1 17 (by omega)
    refine h _ fσ ⟨wA_cg q h1, cl_cg q (clB_fr h2 (fun c hc => fσ.1 c (by omega))), wD_cg k0 k1 kd h3, cd_cg (cd_fr h4 (fσ.1 _ (by omega)) (fσ.1 _ (by omega)) (fσ.1 _ (by omega)) (fσ.1 _ (by omega))) kd, ?_⟩
    refine ⟨by rw [s17, t2, keep_4, hc], by rw [keep_4, hc]; omega, by rw [keep_4, hc]; omega, f', hf', by rw [s17, t1], fun i hi2 => ?_⟩
    rw [keep_4, hc] at hi2
    by_cases qi : i = n
    · subst qi
      exact ⟨cd_cg gs (fun k hk => (keep_n hc hk).symm), wD_cg k0 k1 (fun k hk => (keep_n hc hk).symm) h3⟩
    · have hh := hi i (by omega)
      have hm2 : (f' + i) % 30 < 30 := Nat.mod_lt _ (by omega)
      have hne : (f' + i) % 30 ≠ (f' + n) % 30 := by omega
      have hcell : ∀ j, j ≤ 3 → σ.1 (17 + 2 + 4 * ((f' + i) % 30) + j) = τ.1 (17 + 2 + 4 * ((f' + i) % 30) + j) := fun j hj => (fs.1 _ (by omega)).trans (gt _ (by omega))
      exact ⟨cd_fr hh.1 (hcell 0 (by omega)) (hcell 1 (by omega)) (hcell 2 (by omega)) (hcell 3 (by omega)), wD_cg k0 k1 (fun _ _ => rfl) hh.2⟩
  refine e_X7_keep rfl rfl ⟨fun r t1 e1 => ?_, fun r t2 e2 => ?_⟩
  · rw [z_le, c1] at r; simp only [Int32.reduceToInt] at r
    have h30 : A 4 = 30 := by omega
    have hc : z_kc A = (29 : Nat) := by rw [z_kc, if_pos h30]; rfl
    subst e1
    refine tail _ ((f + 1) % 30) 29 (fr_w (fr_r _ _) (by omega)) (fun c hc => w1_c (by omega)) (Nat.mod_lt _ (by omega)) (by omega) ?_ ?_ hc (fun i hi => ?_)
    · rw [w1_at, if_pos ⟨rfl, rfl⟩, z_rem, z_add (by rw [c4]; simp only [Int32.reduceToInt]; omega), c4, Int.tmod_eq_emod_of_nonneg (by simp only [Int32.reduceToInt]; omega)]
      simp only [Int32.reduceToInt]
      omega
    · rw [w1_at, if_neg (by omega), c1, h30]; rfl
    · have hh := c5 (i + 1) (by omega)
      rw [show ((f + 1) % 30 + i) % 30 = (f + (i + 1)) % 30 by omega]
      exact ⟨cd_cg hh.1 (fun k hk => by rw [keep_i hc (by omega) hi hk, if_pos h30]), wD_cg rfl rfl (fun k hk => by rw [keep_i hc (by omega) hi hk, if_pos h30]) hh.2⟩
  · rw [z_le, c1] at r; simp only [Int32.reduceToInt] at r
    have h30 : ¬ A 4 = 30 := by omega
    have hc : z_kc A = ((A 4).toNat : Nat) := by rw [z_kc, if_neg h30]; omega
    subst e2
    refine tail _ f (A 4).toNat (fr_w (fr_r _ _) (by omega)) (fun c hc => w1_c (by omega)) hf (by omega) ?_ ?_ hc (fun i hi => ?_)
    · rw [w1_at, if_neg (by omega), c4]
    · rw [w1_at, if_pos ⟨rfl, rfl⟩, z_add (by rw [c1]; simp only [Int32.reduceToInt]; omega), c1]
      simp only [Int32.reduceToInt]
      omega
    · have hh := c5 i (by omega)
      exact ⟨cd_cg hh.1 (fun k hk => by rw [keep_i hc (by omega) hi hk, if_neg h30]), wD_cg rfl rfl (fun k hk => by rw [keep_i hc (by omega) hi hk, if_neg h30]) hh.2⟩
/-! a step is taken back -/
def z_un (A : Nat → Int) : Nat → Int := z_put (z_set A 4 (A 4 - 1)) (fun k => A (250 + 114 * (A 4 - 1).toNat + k))
theorem cl_undo {d : Nat} {τ : x_T} {A : Nat → Int} {K : x_T → Int32 → Prop} (h0 : x_hf 1 13 17 τ A) (hn : A 4 = 0 → K τ (-1)) (h : ∀ (σ : x_T) (u : Int32), 0 < A 4 → x_fr j_sC τ σ → x_hf 1 13 17 σ (z_un A) → u.toInt = A 4 - 1 → K σ u) : x_CI (d + 1 + 1 + 1) mX11_undo [.ref 0] τ K := by
  obtain ⟨h1, h2, h3, h4, c1, c2, c3, f, hf, c4, c5⟩ := h0
  refine e_X11_undo (e_X7_takeBack rfl rfl ⟨fun r t1 e1 => ?_, fun r => hn ?_⟩)
  · rw [z_lt, c1] at r; simp only [Int32.reduceToInt] at r
    have m : (τ.1 17 2 - 1).toInt = A 4 - 1 := by rw [z_sub (by rw [c1]; simp only [Int32.reduceToInt]; omega), c1]; rfl
    have q2 : (t1.1 17 2).toInt = A 4 - 1 := by rw [e1, w1_at, if_pos ⟨rfl, rfl⟩, m]
    have q1 : (t1.1 17 1).toInt = f := by rw [e1, w1_at, if_neg (by omega), c4]
    have f1 : x_fr (fun c => c = 17) τ t1 := by rw [e1]; exact fr_w (fr_r _ _) rfl
    have hm : (f + (A 4 - 1).toNat) % 30 < 30 := Nat.mod_lt _ (by omega)
    refine cl_dayAt (Or.inl rfl) q1 hf (i := (A 4 - 1).toNat) (by omega) (by omega) (fun hsh => ⟨fun z => absurd z (by simp), fun c4' e4 => ?_⟩)
    have e4' : 17 + 2 + 4 * ((f + (A 4 - 1).toNat) % 30) = c4' := Option.some.inj e4
    subst e4'
    have hh := c5 (A 4 - 1).toNat (by omega)
    refine ⟨hsh, cl_copyDay rfl hsh (by omega) (cd_fr hh.1 (f1.1 _ (by omega)) (f1.1 _ (by omega)) (f1.1 _ (by omega)) (f1.1 _ (by omega))) (fun σ fs gs => ?_)⟩
    have fσ : x_fr j_sC τ σ := fr_t (fr_m (fun c hc => by unfold j_sC; omega) f1) (fr_m (fun c hc => by unfold j_sC; omega) fs)
    have ga : ∀ c, c ≠ 17 → c < 13 ∨ 16 < c → σ.1 c = τ.1 c := fun c hc1 hc2 => (fs.1 c (by omega)).trans (f1.1 c (by omega))
    have s17 : σ.1 17 = t1.1 17 := fs.1 17 (by omega)
    refine h _ _ r fσ ?_ (by rw [s17, q2])
    have u0 : ∀ k, k < 130 → ¬ k = 4 → A k = z_un A k := fun k hk h4 => by unfold z_un; rw [put_lt hk, z_set_e, if_neg h4]
    have u4 : z_un A 4 = A 4 - 1 := by unfold z_un; rw [put_lt (by omega), z_set_e, if_pos rfl]
    have ug : ∀ k, 250 ≤ k → A k = z_un A k := fun k hk => by unfold z_un; rw [put_ge (by omega), z_set_e, if_neg (by omega)]
    have ud : ∀ k, k < 114 → A (250 + 114 * (A 4 - 1).toNat + k) = z_un A (130 + k) := fun k hk => by unfold z_un; rw [put_dy hk]
    have q : x_q A (z_un A) := fun k hk hn => u0 k hk (by omega)
    refine ⟨wA_cg q h1, cl_cg q (clB_fr h2 (fun c hc => ga c (by omega) (by omega))), wD_cg (u0 0 (by omega) (by omega)) (u0 1 (by omega) (by omega)) ud hh.2, cd_cg gs ud, ?_⟩
    refine ⟨by rw [s17, q2, u4], by rw [u4]; omega, by rw [u4]; omega, f, hf, by rw [s17, q1], fun i hi => ?_⟩
    rw [u4] at hi
    have hm2 : (f + i) % 30 < 30 := Nat.mod_lt _ (by omega)
    have hi2 := c5 i (by omega)
    exact ⟨cd_cg (cd_fr hi2.1 (ga _ (by omega) (by omega)) (ga _ (by omega) (by omega)) (ga _ (by omega) (by omega)) (ga _ (by omega) (by omega))) (fun k hk => ug _ (by omega)), wD_cg (u0 0 (by omega) (by omega)) (u0 1 (by omega) (by omega)) (fun k hk => ug _ (by omega)) hi2.2⟩
  · rw [z_lt, c1] at r; simp only [Int32.reduceToInt] at r; omega
theorem ml_undo {d : Nat} {τ : x_T} {A : Nat → Int} {K : x_T → Int32 → Prop} (hm : j_A τ = A) (h4 : 0 ≤ A 4 ∧ A 4 ≤ 30) (hn : A 4 = 0 → K τ (-1)) (h : ∀ (σ : x_T) (u : Int32), 0 < A 4 → x_fr (fun c => c = 346) τ σ → j_A σ = z_un A → u.toInt = A 4 - 1 → K σ u) : x_CI d mX12_undo [.ref 345] τ K := by
  have hA : ∀ k, (τ.1 346 k).toInt = A k := fun k => by rw [← hm]; rfl
  have h4e := hA 4
  refine e_X12_undo ⟨fun q t1 e1 => ?_, fun q => hn ?_⟩
  · rw [z_eq, h4e] at q; simp only [Int32.reduceToInt] at q
    have loop : ∀ k, k ≤ 114 → (fun k => ∀ (ρ : x_T), x_fr (fun c => c = 346) τ ρ → (∀ j, (ρ.1 346 j).toInt = if 130 ≤ j ∧ j < 130 + k then A (250 + 114 * (A 4 - 1).toNat + (j - 130)) else z_set A 4 (A 4 - 1) j) → x_WI d mX12_undo K 23 [(0, .ref 345), (1, .int (nI k))] [] ρ) k := by
      refine z_down ?_ ?_
      · intro ρ f g
        refine k_X12_undo_23 ⟨fun _ => h _ _ (by omega) f ?_ ?_, fun q => absurd (by decide) q⟩
        · funext j
          exact g j
        · rw [g 4, if_neg (by omega), z_set_e, if_pos rfl]
      · intro k hk ih ρ f g
        have q4 : ρ.1 346 4 = nI (A 4 - 1).toNat := z_of (by omega) (by rw [g 4, if_neg (by omega), z_set_e, if_pos rfl]; omega)
        refine k_X12_undo_23 ⟨fun q => absurd q (nI_ge (a := k) (b := 114) (by omega) (by decide)), fun _ => ?_⟩
        have i1 : (130 : Int32) + nI k = nI (130 + k) := n_add 130 k
        have i2 : (250 : Int32) + 114 * ρ.1 346 4 + nI k = nI (250 + 114 * (A 4 - 1).toNat + k) := by
          rw [q4, show (114 : Int32) * nI (A 4 - 1).toNat = nI (114 * (A 4 - 1).toNat) from n_mul 114 _, show (250 : Int32) + nI (114 * (A 4 - 1).toNat) = nI (250 + 114 * (A 4 - 1).toNat) from n_add 250 _, n_add]
        rw [i1, i2, nI_clamp (by omega), nI_clamp (by omega)]
        refine ⟨vp_in_nI (by omega) (by decide), vp_in_nI (by omega) (by decide), fun t2 e2 y3 e3 => ?_⟩
        rw [e3, ← nI_succ]
        subst e2
        refine ih _ (fr_w f rfl) (fun j => ?_)
        rw [w1_at]
        by_cases q : j = 130 + k
        · rw [if_pos ⟨rfl, q⟩, g (250 + 114 * (A 4 - 1).toNat + k), if_neg (by omega), z_set_e, if_neg (by omega), if_pos (by omega), q, Nat.add_sub_cancel_left]
        · rw [if_neg (fun z => q z.2), g j]
          by_cases s : 130 ≤ j ∧ j < 130 + k
          · rw [if_pos s, if_pos (by omega)]
          · rw [if_neg s, if_neg (by omega)]
    refine loop 0 (by omega) t1 (by rw [e1]; exact fr_w (fr_r _ _) rfl) (fun j => ?_)
    rw [if_neg (by omega), e1, w1_at, z_set_e]
    by_cases r : j = 4
    · rw [if_pos ⟨rfl, r⟩, if_pos r, z_sub (by rw [h4e]; simp only [Int32.reduceToInt]; omega), h4e]; rfl
    · rw [if_neg (fun z => r z.2), if_neg r, hA j]
  · rw [z_eq, h4e] at q; simp only [Int32.reduceToInt] at q; exact q
