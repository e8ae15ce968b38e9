/-! image and back -/
theorem cs_cg2 {P : Nat} {τ : x_T} {A A' : Nat → Int} (h : ∀ k, k < 3670 → ¬ k = 2 → ¬ k = 3 → A k = A' k) (c : x_cs P τ A) : x_cs P τ A' := by
  obtain ⟨h1, h2, h3, f, hf, h4, h5⟩ := c
  have e4 := h 4 (by omega) (by omega) (by omega)
  refine ⟨by rw [← e4]; exact h1, by omega, by omega, f, hf, h4, fun i hi => ?_⟩
  obtain ⟨g1, g2⟩ := h5 i (by omega)
  exact ⟨cd_cg g1 (fun k hk => h _ (by omega) (by omega) (by omega)), wD_cg (h 0 (by omega) (by omega) (by omega)) (h 1 (by omega) (by omega) (by omega)) (fun k hk => h _ (by omega) (by omega) (by omega)) g2⟩
theorem hf_cg2 {B D P : Nat} {τ : x_T} {A A' : Nat → Int} (h : ∀ k, k < 3670 → ¬ k = 2 → ¬ k = 3 → A k = A' k) (c : x_hf B D P τ A) : x_hf B D P τ A' := by
  have q : x_q A A' := fun k hk hn => h k (by omega) (by omega) (by omega)
  obtain ⟨g1, g2, g3, g4, g5⟩ := c
  exact ⟨wA_cg q g1, cl_cg q g2, wD_cg (h 0 (by omega) (by omega) (by omega)) (h 1 (by omega) (by omega) (by omega)) (fun k hk => h _ (by omega) (by omega) (by omega)) g3, cd_cg g4 (fun k hk => h _ (by omega) (by omega) (by omega)), cs_cg2 h g5⟩
def y_iv (τ t : x_T) (o r : Nat) (D : Nat → Nat → Prop) : Prop := (∀ j b, D j b → j ≤ 11 ∧ t.1 (o + j) b = τ.1 (r + j) b) ∧ (∀ a b, (∀ j, a = o + j → ¬ D j b) → t.1 a b = τ.1 a b) ∧ t.2.2 = τ.2.2
theorem iv_0 (τ : x_T) (o r : Nat) : y_iv τ τ o r (fun _ _ => False) := ⟨fun _ _ z => z.elim, fun _ _ _ => rfl, rfl⟩
theorem iv_cp {τ t : x_T} {o r j0 n : Nat} {D : Nat → Nat → Prop} (h : y_iv τ t o r D) (hj : j0 ≤ 11) (hd : o + 11 < r ∨ r + 11 < o) : y_iv τ (x_cp t (r + j0) 0 (o + j0) 0 n) o r (fun j b => D j b ∨ (j = j0 ∧ b < n)) := by
  obtain ⟨h1, h2, h3⟩ := h
  refine ⟨fun j b hb => ?_, fun a b hb => ?_, h3⟩
  · have hj' : j ≤ 11 := by
      rcases hb with z | z
      · exact (h1 j b z).1
      · omega
    refine ⟨hj', ?_⟩
    rw [cp_at]
    by_cases q : o + j = o + j0 ∧ 0 ≤ b ∧ b < 0 + n
    · rw [if_pos q, show 0 + (b - 0) = b by omega, show j = j0 by omega]
      refine h2 _ _ (fun i hi z => ?_)
      have := (h1 i b z).1
      omega
    · rw [if_neg q]
      rcases hb with z | z
      · exact (h1 j b z).2
      · exact absurd (by omega) q
  · rw [cp_at, if_neg]
    · exact h2 a b (fun j hj' z => hb j hj' (Or.inl z))
    · intro q
      exact hb j0 q.1 (Or.inr ⟨rfl, by omega⟩)
theorem iv_w1 {τ t : x_T} {o r j0 n : Nat} {D : Nat → Nat → Prop} (h : y_iv τ t o r D) (hj : j0 ≤ 11) (hd : o + 11 < r ∨ r + 11 < o) : y_iv τ (x_w1 t (o + j0) n (t.1 (r + j0) n)) o r (fun j b => D j b ∨ (j = j0 ∧ b = n)) := by
  obtain ⟨h1, h2, h3⟩ := h
  refine ⟨fun j b hb => ?_, fun a b hb => ?_, h3⟩
  · have hj' : j ≤ 11 := by
      rcases hb with z | z
      · exact (h1 j b z).1
      · omega
    refine ⟨hj', ?_⟩
    rw [w1_at]
    by_cases q : o + j = o + j0 ∧ b = n
    · rw [if_pos q, show j = j0 by omega, q.2]
      refine h2 _ _ (fun i hi z => ?_)
      have := (h1 i n z).1
      omega
    · rw [if_neg q]
      rcases hb with z | z
      · exact (h1 j b z).2
      · exact absurd (by omega) q
  · rw [w1_at, if_neg]
    · exact h2 a b (fun j hj' z => hb j hj' (Or.inl z))
    · intro q
      exact hb j0 q.1 (Or.inr ⟨rfl, q.2⟩)
theorem cl_copyLand {d o r : Nat} (ho : x_sh o = (3, 9)) (hr : x_sh r = (3, 9)) (hd : o + 11 < r ∨ r + 11 < o) {τ : x_T} {A : Nat → Int} {K : x_T → Prop} (hc : x_cl r τ A) (h : ∀ σ : x_T, x_fr (fun c => o ≤ c ∧ c ≤ o + 11) τ σ → x_cl o σ A → K σ) : x_CV (d + 1 + 1) mX3_copyFrom [.ref o, .ref r] τ K := by
  have o6 : x_sh (o + 6) = (5, 3) := shd_3_6 ho
  have o9 : x_sh (o + 9) = (5, 3) := shd_3_9 ho
  have r6 : x_sh (r + 6) = (5, 3) := shd_3_6 hr
  have r9 : x_sh (r + 9) = (5, 3) := shd_3_9 hr
  refine e_X3_copyFrom ho hr (fun t1 e1 t2 e2 t3 e3 t4 e4 t5 e5 t6 e6 t7 e7 => e_X5_copyFrom o6 r6 (fun s1 f1 s2 f2 s3 f3 => e_X5_copyFrom o9 r9 (fun p1 g1 p2 g2 p3 g3 => ?_)))
  have i0 := iv_0 τ o r
  have i1 := iv_w1 (j0 := 0) (n := 0) i0 (by omega) hd
  rw [show x_w1 τ (o + 0) 0 (τ.1 (r + 0) 0) = t1 from e1.symm] at i1
  have i2 := iv_w1 (j0 := 0) (n := 1) i1 (by omega) hd
  rw [show x_w1 t1 (o + 0) 1 (t1.1 (r + 0) 1) = t2 from e2.symm] at i2
  have i3 := iv_cp (j0 := 1) (n := 8) i2 (by omega) hd
  rw [← e3] at i3
  have i4 := iv_cp (j0 := 2) (n := 8) i3 (by omega) hd
  rw [← e4] at i4
  have i5 := iv_cp (j0 := 3) (n := 4) i4 (by omega) hd
  rw [← e5] at i5
  have i6 := iv_cp (j0 := 4) (n := 64) i5 (by omega) hd
  rw [← e6] at i6
  have i7 := iv_cp (j0 := 5) (n := 64) i6 (by omega) hd
  rw [← e7] at i7
  have i8 := iv_cp (j0 := 7) (n := 8) i7 (by omega) hd
  rw [show x_cp t7 (r + 7) 0 (o + 7) 0 8 = s1 from f1.symm] at i8
  have i9 := iv_cp (j0 := 8) (n := 8) i8 (by omega) hd
  rw [show x_cp s1 (r + 8) 0 (o + 8) 0 8 = s2 from f2.symm] at i9
  have i10 := iv_w1 (j0 := 6) (n := 2) i9 (by omega) hd
  rw [← f3] at i10
  have i11 := iv_cp (j0 := 10) (n := 8) i10 (by omega) hd
  rw [show x_cp s3 (r + 10) 0 (o + 10) 0 8 = p1 from g1.symm] at i11
  have i12 := iv_cp (j0 := 11) (n := 8) i11 (by omega) hd
  rw [show x_cp p1 (r + 11) 0 (o + 11) 0 8 = p2 from g2.symm] at i12
  have i13 := iv_w1 (j0 := 9) (n := 2) i12 (by omega) hd
  rw [← g3] at i13
  obtain ⟨c1, c2, c3⟩ := i13
  refine h p3 ⟨fun c hc => ?_, c3⟩ ?_
  · funext b
    refine c2 c b (fun j hj z => ?_)
    have := (c1 j b z).1
    omega
  · obtain ⟨a1, a2, a3, a4, a5, a6, a7, a8, a9⟩ := hc
    refine ⟨?_, ?_, fun h hh => ?_, fun h hh h0 => ?_, fun q hq => ?_, fun k hk => ?_, fun h0 k hk => ?_, ⟨?_, fun i hi => ⟨?_, ?_⟩⟩, ⟨?_, fun i hi => ⟨?_, ?_⟩⟩⟩
    · rw [show p3.1 o 0 = τ.1 r 0 from (c1 0 0 (by simp)).2]; exact a1
    · rw [show p3.1 o 1 = τ.1 r 1 from (c1 0 1 (by simp)).2]; exact a2
    · rw [(c1 1 h (by simp [hh])).2]; exact a3 h hh
    · rw [(c1 2 h (by simp [hh])).2]; exact a4 h hh h0
    · rw [(c1 3 q (by simp [hq])).2]; exact a5 q hq
    · rw [(c1 4 k (by simp [hk])).2]; exact a6 k hk
    · rw [(c1 5 k (by simp [hk])).2]; exact a7 h0 k hk
    · rw [(c1 6 2 (by simp)).2]; exact a8.1
    · rw [(c1 7 i (by simp [hi])).2]; exact (a8.2 i hi).1
    · rw [(c1 8 i (by simp [hi])).2]; exact (a8.2 i hi).2
    · rw [(c1 9 2 (by simp)).2]; exact a9.1
    · rw [(c1 10 i (by simp [hi])).2]; exact (a9.2 i hi).1
    · rw [(c1 11 i (by simp [hi])).2]; exact (a9.2 i hi).2
theorem cl_copySteps {d o r : Nat} (hor : (o = 17 ∧ r = 192) ∨ (o = 192 ∧ r = 17)) {τ : x_T} {A : Nat → Int} {K : x_T → Prop} (hc : x_cs r τ A) (h : ∀ σ : x_T, x_fr (fun c => o ≤ c ∧ c ≤ o + 121) τ σ → x_cs o σ A → K σ) : x_CV (d + 1 + 1) mX7_copyFrom [.ref o, .ref r] τ K := by
  have ho : x_sh o = (7, 3) := by rcases hor with ⟨rfl, rfl⟩ | ⟨rfl, rfl⟩ <;> rfl
  have hr : x_sh r = (7, 3) := by rcases hor with ⟨rfl, rfl⟩ | ⟨rfl, rfl⟩ <;> rfl
  have shd : ∀ i, i < 30 → x_sh (o + 1 + 1 + 4 * i) = (1, 11) := by
    intro i hi
    rcases hor with ⟨rfl, rfl⟩ | ⟨rfl, rfl⟩
    · exact shd_17 hi
    · exact shd_192 hi
  have b4 := hc.2.1
  have b4' := hc.2.2.1
  obtain ⟨N, hN⟩ : ∃ N : Nat, A 4 = N := ⟨(A 4).toNat, by omega⟩
  refine e_X7_copyFrom ho hr (fun t1 e1 t2 e2 => ?_)
  have tr : t1.1 r 2 = τ.1 r 2 := by rw [e1, w1_at, if_neg (by omega)]
  have loop : ∀ i, i ≤ N → (fun i => ∀ σ : x_T, x_fr (fun c => o ≤ c ∧ c ≤ o + 121) τ σ → (σ.1 o 1).toInt = 0 → (σ.1 o 2).toInt = N → (∀ j, j < i → x_cd (o + 2 + 4 * j) σ (fun k => A (250 + 114 * j + k))) → x_WV (d + 1 + 1) mX7_copyFrom K 15 [(0, .ref o), (1, .ref r), (2, .int (nI i))] [] σ) i := by
    refine z_down ?_ ?_
    · intro σ fσ h1 h2 h3
      refine k_X7_copyFrom_15 ho hr ⟨fun _ => h σ fσ ⟨by rw [h2, hN], b4, b4', 0, by omega, h1, fun i hi => ⟨?_, ?_⟩⟩, fun q => absurd (by rw [z_le, h2, z_n (by omega)]; omega) q⟩
      · rw [show (0 + i) % 30 = i by omega]
        exact h3 i (by omega)
      · obtain ⟨-, -, -, f, hf, h4, h5⟩ := hc
        exact (h5 i hi).2
    · intro i hi ih σ fσ h1 h2 h3
      have zi : (nI i).toInt = i := z_n (by omega)
      have csσ : x_cs r σ A := cs_fr hc (fun c hc => fσ.1 c (by omega))
      obtain ⟨s1, s2, s3, f, hf, h4, h5⟩ := csσ
      have hm : (f + i) % 30 < 30 := Nat.mod_lt _ (by omega)
      refine k_X7_copyFrom_15 ho hr ⟨fun q => ?_, fun _ => ⟨fun q => ?_, fun _ => ⟨vp_in_nI (by omega) (by decide), fun c1 ec => ?_⟩⟩⟩
      · rw [z_le, h2, zi] at q; omega
      · rw [z_le, zi] at q; simp only [Int32.reduceToInt] at q; omega
      rw [nI_clamp (by omega)] at ec
      subst ec
      refine ⟨shd i (by omega), cl_dayAt (by omega) h4 hf zi (by omega) (fun hs => ⟨fun z => (by cases z), fun c4 e4 => ?_⟩)⟩
      cases e4
      refine ⟨hs, cl_copyDay (shd i (by omega)) hs (by omega) (h5 i (by omega)).1 (fun ρ fρ cdρ => k_X7_copyFrom_58 ho hr (fun y1 e1 => ?_))⟩
      rw [e1, ← nI_succ]
      have po : ρ.1 o = σ.1 o := fρ.1 o (by omega)
      refine ih ρ (fr_t fσ (fr_m (fun c hc => by omega) fρ)) (by rw [po]; exact h1) (by rw [po]; exact h2) (fun j hj => ?_)
      by_cases q : j = i
      · rw [q]; exact cdρ
      · exact cd_fr (h3 j (by omega)) (fρ.1 _ (by omega)) (fρ.1 _ (by omega)) (fρ.1 _ (by omega)) (fρ.1 _ (by omega))
  refine loop 0 (by omega) t2 (by rw [e2, e1]; exact fr_w (fr_w (fr_r _ _) (by omega)) (by omega)) ?_ ?_ (fun j hj => by omega)
  · rw [e2, w1_at, if_neg (by omega), e1, w1_at, if_pos ⟨rfl, rfl⟩]; rfl
  · rw [e2, w1_at, if_pos ⟨rfl, rfl⟩, tr, hc.1, hN]
theorem p_copies0 {d : Nat} {τ : x_T} {K : x_T → Prop} (h : ∀ σ : x_T, x_fr (fun c => c = 346) τ σ → (∀ k, k < 3670 → σ.1 346 k = τ.1 347 k) → K σ) : x_CV d mX12_copies [.ref 345, .int 0] τ K := by
  refine e_X12_copies ?_
  have loop : ∀ k, k ≤ 3670 → (fun k => ∀ σ : x_T, x_fr (fun c => c = 346) τ σ → (∀ j, j < k → σ.1 346 j = τ.1 347 j) → x_WV d mX12_copies K 2 [(0, .ref 345), (1, .int 0), (2, .int (nI k))] [] σ) k := by
    refine z_down ?_ ?_
    · intro σ fσ hs
      exact k_X12_copies_2 ⟨fun _ => h σ fσ hs, fun q => absurd (by decide) q⟩
    · intro k hk ih σ fσ hs
      refine k_X12_copies_2 ⟨fun q => absurd q (nI_ge (a := k) (b := 3670) (by omega) (by decide)), fun _ => ⟨fun _ => ⟨vp_in_nI (by omega) (by decide), vp_in_nI (by omega) (by decide), fun t1 e1 => k_X12_copies_40 (fun y1 ey => ?_)⟩, fun q => absurd rfl q⟩⟩
      rw [ey, ← nI_succ]
      rw [nI_clamp (by omega), fσ.1 347 (by omega)] at e1
      refine ih t1 (by rw [e1]; exact fr_w fσ rfl) (fun j hj => ?_)
      rw [e1, w1_at]
      by_cases r : j = k
      · rw [if_pos ⟨rfl, r⟩, r]
      · rw [if_neg (fun z => r z.2)]; exact hs j (by omega)
  exact loop 0 (by omega) τ (fr_r _ _) (fun j hj => by omega)
theorem q_image {τ : x_T} (h : x_J τ) : x_CI 2000 mX11_image [.ref 0] τ (fun τ1 u => x_CI 2000 mX12_image [.ref 345] τ1 (fun τ2 v => u = v ∧ x_J τ2)) := by
  obtain ⟨k1, k2, k3, k4, k5, k6⟩ := h
  have m := k3.2.1
  have mi := k3.1
  refine e_X11_image (cl_copyLand rfl rfl (by omega) k1.2.1 (fun s1 f1 c1 => ?_))
  have d1 : x_cd 13 s1 (fun k => j_A τ (130 + k)) := cd_fr k1.2.2.2.1 (f1.1 _ (by omega)) (f1.1 _ (by omega)) (f1.1 _ (by omega)) (f1.1 _ (by omega))
  refine cl_copyDay rfl rfl (by omega) d1 (fun s2 f2 c2 => ?_)
  have p2 : x_cs 17 s2 (j_A τ) := cs_fr k1.2.2.2.2 (fun c hc => by rw [f2.1 c (by omega), f1.1 c (by omega)])
  refine cl_copySteps (Or.inr ⟨rfl, rfl⟩) p2 (fun s3 f3 c3 t7 e7 t8 e8 => ?_)
  have g3 : ∀ c, ¬ (176 ≤ c ∧ c ≤ 313) → s3.1 c = τ.1 c := fun c hc => by rw [f3.1 c (by omega), f2.1 c (by omega), f1.1 c (by omega)]
  have g8 : ∀ c, ¬ c = 0 → t8.1 c = s3.1 c := fun c hc => by rw [e8, w1_c hc, e7, w1_c hc]
  have z8 : ∀ k, ¬ k = 9 → ¬ k = 10 → t8.1 0 k = τ.1 0 k := fun k h9 h10 => by rw [e8, w1_at, if_neg (fun z => h10 z.2), e7, w1_at, if_neg (fun z => h9 z.2), g3 0 (by omega)]
  have n9 : t8.1 0 9 = τ.1 0 4 := by rw [e8, w1_at, if_neg (by omega), e7, w1_at, if_pos ⟨rfl, rfl⟩, g3 0 (by omega)]
  have n10 : t8.1 0 10 = τ.1 0 5 := by rw [e8, w1_at, if_pos ⟨rfl, rfl⟩, e7, w1_at, if_neg (by omega), g3 0 (by omega)]
  have r8 : t8.2.2 = τ.2.2 := by rw [e8, e7, w1_2, w1_2, f3.2, f2.2, f1.2]
  refine e_X12_image (p_copies1 ?_)
  generalize hρ : x_st t8 347 3670 (fun j => (t8.1 346 j).toInt) = ρ
  have gρ : ∀ c, ¬ c = 347 → ρ.1 c = t8.1 c := fun c hc => by rw [← hρ]; exact st_ne hc
  have gt : ∀ c, ¬ c = 0 → ¬ c = 347 → ¬ (176 ≤ c ∧ c ≤ 313) → ρ.1 c = τ.1 c := fun c h0 h7 hc => by rw [gρ c h7, g8 c h0, g3 c hc]
  have rρ : ρ.2.2 = τ.2.2 := by rw [← hρ]; exact r8
  have eA : j_A ρ = j_A τ := by funext k; unfold j_A; rw [gt 346 (by omega) (by omega) (by omega)]
  have eI : ∀ k, k < 3670 → j_I ρ k = j_A τ k := fun k hk => by
    unfold j_I
    rw [← hρ, st_at hk, Int32.ofInt_toInt, g8 346 (by omega), g3 346 (by omega)]; rfl
  have a135 : (τ.1 13 5).toInt = j_A τ 135 := cd_0 k1.2.2.2.1 (k := 5) (by omega)
  refine ⟨z_eq.mpr ?_, ?_, ?_, ?_, ?_, ?_, ?_⟩
  · rw [g8 13 (by omega), g3 13 (by omega), a135, gt 346 (by omega) (by omega) (by omega)]; rfl
  · rw [eA]; exact hf_fr k1 (fun c hc => gt c (by omega) (by omega) (by omega))
  · refine hf_cg2 (fun k hk _ _ => (eI k hk).symm) (A := j_A τ) ⟨k1.1, ?_, k1.2.2.1, ?_, ?_⟩
    · exact clB_fr c1 (fun c hc => by rw [gρ c (by omega), g8 c (by omega), f3.1 c (by omega), f2.1 c (by omega)])
    · have : ∀ c, 188 ≤ c → c ≤ 191 → ρ.1 c = s2.1 c := fun c h1 h2 => by rw [gρ c (by omega), g8 c (by omega), f3.1 c (by omega)]
      exact cd_fr c2 (this _ (by omega) (by omega)) (this _ (by omega) (by omega)) (this _ (by omega) (by omega)) (this _ (by omega) (by omega))
    · exact cs_fr c3 (fun c hc => by rw [gρ c (by omega), g8 c (by omega)])
  · unfold j_mis
    rw [eA, eI 2 (by omega), eI 3 (by omega), gρ 0 (by omega), z8 4 (by omega) (by omega), z8 5 (by omega) (by omega), n9, n10, rρ]
    exact ⟨⟨mi.1, mi.2.1, mi.1, mi.2.1⟩, by omega, k3.2.2⟩
  · unfold j_tape at k4 ⊢
    rw [gt 314 (by omega) (by omega) (by omega), gt 345 (by omega) (by omega) (by omega), gt 315 (by omega) (by omega) (by omega), gt 348 (by omega) (by omega) (by omega)]; exact k4
  · unfold j_flt at k5 ⊢
    rw [gt 319 (by omega) (by omega) (by omega), gt 345 (by omega) (by omega) (by omega)]; exact k5
  · intro t ht
    rw [eA] at ht
    exact text_fr (by omega) (k6 t ht) (fun c hc => gt c (by omega) (by omega) (by omega))
theorem q_back {τ : x_T} (h : x_J τ) : x_CI 2000 mX11_back [.ref 0] τ (fun τ1 u => x_CI 2000 mX12_back [.ref 345] τ1 (fun τ2 v => u = v ∧ x_J τ2)) := by
  obtain ⟨k1, k2, k3, k4, k5, k6⟩ := h
  have m := k3.2.1
  have mi := k3.1
  refine e_X11_back (cl_copyLand rfl rfl (by omega) k2.2.1 (fun s1 f1 c1 => ?_))
  have d1 : x_cd 188 s1 (fun k => j_I τ (130 + k)) := cd_fr k2.2.2.2.1 (f1.1 _ (by omega)) (f1.1 _ (by omega)) (f1.1 _ (by omega)) (f1.1 _ (by omega))
  refine cl_copyDay rfl rfl (by omega) d1 (fun s2 f2 c2 => ?_)
  have p2 : x_cs 192 s2 (j_I τ) := cs_fr k2.2.2.2.2 (fun c hc => by rw [f2.1 c (by omega), f1.1 c (by omega)])
  refine cl_copySteps (Or.inl ⟨rfl, rfl⟩) p2 (fun s3 f3 c3 t7 e7 => ?_)
  have g3 : ∀ c, ¬ (1 ≤ c ∧ c ≤ 138) → s3.1 c = τ.1 c := fun c hc => by rw [f3.1 c (by omega), f2.1 c (by omega), f1.1 c (by omega)]
  have g7 : ∀ c, ¬ c = 0 → t7.1 c = s3.1 c := fun c hc => by rw [e7, w1_c hc]
  have z7 : ∀ k, ¬ k = 4 → t7.1 0 k = τ.1 0 k := fun k h4 => by rw [e7, w1_at, if_neg (fun z => h4 z.2), g3 0 (by omega)]
  have n4 : t7.1 0 4 = τ.1 0 9 := by rw [e7, w1_at, if_pos ⟨rfl, rfl⟩, g3 0 (by omega)]
  have r7 : t7.2.2 = τ.2.2 := by rw [e7, w1_2, f3.2, f2.2, f1.2]
  have v10 : (t7.1 0 10).toInt = j_I τ 3 := by rw [z7 10 (by omega)]; exact mi.2.2.2
  refine cl_letRule (n := j_I τ 2) (by rw [n4]; exact mi.2.2.1) (by omega) (by rw [v10]; omega) (fun s8 h1 h2 h3 h4 => ?_)
  rw [v10] at h4
  refine e_X12_back (p_copies0 (fun ρ fρ hρ => ?_))
  have gt : ∀ c, ¬ c = 0 → ¬ c = 346 → ¬ (1 ≤ c ∧ c ≤ 138) → ρ.1 c = τ.1 c := fun c h0 h6 hc => by rw [fρ.1 c h6, h1 c h0, g7 c h0, g3 c hc]
  have gs : ∀ c, 1 ≤ c ∧ c ≤ 138 → ρ.1 c = s3.1 c := fun c hc => by rw [fρ.1 c (by omega), h1 c (by omega), g7 c (by omega)]
  have eI : j_I ρ = j_I τ := by funext k; unfold j_I; rw [gt 347 (by omega) (by omega) (by omega)]
  have eA : ∀ k, k < 3670 → j_A ρ k = j_I τ k := fun k hk => by
    unfold j_A
    rw [hρ k hk, h1 347 (by omega), g7 347 (by omega), g3 347 (by omega)]; rfl
  have h0 : ∀ k, ¬ k = 5 → ρ.1 0 k = t7.1 0 k := fun k hk => by rw [fρ.1 0 (by omega), h2 k hk]
  have rρ : ρ.2.2.2 = s8.2.2.2 := by rw [fρ.2]
  have c13 : (ρ.1 13 5).toInt = j_I τ 135 := by
    rw [gs 13 (by omega), f3.1 13 (by omega)]
    exact cd_0 c2 (k := 5) (by omega)
  refine ⟨z_eq.mpr ?_, ?_, ?_, ?_, ?_, ?_, ?_⟩
  · rw [← fρ.1 13 (by omega), c13]; exact (eA 135 (by omega)).symm
  · refine hf_cg2 (fun k hk _ _ => (eA k hk).symm) (A := j_I τ) ⟨k2.1, ?_, k2.2.2.1, ?_, ?_⟩
    · exact clB_fr c1 (fun c hc => by rw [gs c (by omega), f3.1 c (by omega), f2.1 c (by omega)])
    · have : ∀ c, 13 ≤ c → c ≤ 16 → ρ.1 c = s2.1 c := fun c h1 h2 => by rw [gs c (by omega), f3.1 c (by omega)]
      exact cd_fr c2 (this _ (by omega) (by omega)) (this _ (by omega) (by omega)) (this _ (by omega) (by omega)) (this _ (by omega) (by omega))
    · exact cs_fr c3 (fun c hc => gs c (by omega))
  · rw [eI]; exact hf_fr k2 (fun c hc => gt c (by omega) (by omega) (by omega))
  · unfold j_mis
    rw [eI, eA 2 (by omega), eA 3 (by omega), h0 4 (by omega), h0 9 (by omega), h0 10 (by omega), n4, z7 9 (by omega), fρ.1 0 (by omega), h3, v10, rρ, h4]
    exact ⟨⟨mi.2.2.1, rfl, mi.2.2.1, rfl⟩, by omega, rfl⟩
  · unfold j_tape at k4 ⊢
    rw [gt 314 (by omega) (by omega) (by omega), gt 345 (by omega) (by omega) (by omega), gt 315 (by omega) (by omega) (by omega), gt 348 (by omega) (by omega) (by omega)]; exact k4
  · unfold j_flt at k5 ⊢
    rw [gt 319 (by omega) (by omega) (by omega), gt 345 (by omega) (by omega) (by omega)]; exact k5
  · intro t ht
    rw [eA 2 (by omega)] at ht
    exact text_fr (by omega) (k6 t (by omega)) (fun c hc => gt c (by omega) (by omega) (by omega))
