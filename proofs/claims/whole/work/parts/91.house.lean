theorem cs_house {d : Nat} {a : Int32} {τ : x_T} {A : Nat → Int} {K : x_T → Int32 → Prop} (hc : x_hf 1 13 17 τ A) (h : ∀ (σ : x_T) (u : Int32), x_fr j_sC τ σ → x_hf 1 13 17 σ (z_Phouse A a.toInt) → u.toInt = z_Ahouse A a.toInt → K σ u) : x_CI (d + 1 + 1 + 1 + 1) mX11_house [.ref 0, .int a] τ K := by
  have wA := hc.1
  have w0 := wA.1
  obtain ⟨c1, c2, c3, c4, c5, c6, c7, c8, c9⟩ := hc.2.1
  have no : ¬ (0 ≤ a.toInt ∧ a.toInt ≤ 9 ∧ A 0 < 8) → K τ (-1) := by
    intro z
    have hf : z_okh A a.toInt = false := decide_eq_false z
    refine h _ _ (fr_r _ _) ?_ ?_
    · rw [z_Phouse, hf]; exact hc
    · rw [z_Ahouse, hf]; rfl
  refine e_X11_house ⟨fun q => no ?_, fun q1 => ⟨fun q2 => e_X3_addHouse ⟨fun q => ?_, fun _ => ⟨fun q3 => ?_, fun q => no ?_⟩⟩, fun q => no ?_⟩⟩
  · rw [z_lt] at q; simp only [Int32.reduceToInt] at q; omega
  · rw [z_lt, c1] at q; simp only [Int32.reduceToInt] at q; omega
  · rw [z_lt] at q1
    rw [z_le] at q2
    rw [z_lt, c1] at q3
    simp only [Int32.reduceToInt] at q1 q2 q3
    have ht : z_okh A a.toInt = true := decide_eq_true (by omega)
    have cl : (τ.1 1 0).toNatClampNeg = (A 0).toNat := by rw [z_cl, c1]
    refine ⟨ix_n (by omega), fun t1 e1 => ?_⟩
    rw [cl] at e1
    have b1 : t1.1 1 = τ.1 1 := by rw [e1]; exact w1_c (by omega)
    refine ⟨by rw [b1]; exact ix_n (by omega), fun t2 e2 t3 e3 => ?_⟩
    rw [b1, cl] at e2
    have b2 : t2.1 1 = τ.1 1 := by rw [e2, w1_c (by omega)]; exact b1
    have hs : (t2.1 1 0 + 1).toInt = A 0 + 1 := by rw [b2, z_add (by rw [c1]; simp only [Int32.reduceToInt]; omega), c1]; rfl
    have f3 : x_fr (fun c => 1 ≤ c ∧ c ≤ 12) τ t3 := by rw [e3, e2, e1]; exact fr_w (fr_w (fr_w (fr_r _ _) (by omega)) (by omega)) (by omega)
    have p5 : ∀ k, k < 64 → (t3.1 5 k).toInt = z_lk A k := fun k hk => by
      rw [e3, w1_c (by omega), e2, w1_c (by omega), e1, w1_c (by omega), c6 k hk, z_lk, if_pos hk]
    refine p_measure (z_lk A) p5 (z_lk_b wA) ?_
    have f4 : x_fr (fun c => 1 ≤ c ∧ c ≤ 12) τ (x_st t3 6 64 (fun k => z_fw (z_lk A) 8 (k / 8) (k % 8))) := ⟨fun c hc => (st_ne (by omega)).trans (f3.1 c hc), f3.2⟩
    have k : ∀ k, k ≠ 0 → k < 10 ∨ 18 ≤ k → A k = z_Ph A a.toInt k := fun k h0 hk => Ph_k h0 hk (by omega)
    have k0 := Ph_0 A a.toInt
    have g1 : ((x_st t3 6 64 (fun k => z_fw (z_lk A) 8 (k / 8) (k % 8))).1 1 0).toInt = A 0 + 1 := by rw [st_ne (by omega), e3, w1_at, if_pos ⟨rfl, rfl⟩, hs]
    refine h _ _ (fr_m s12_sC f4) ?_ ?_
    · have hp : z_Phouse A a.toInt = z_Ph A a.toInt := by rw [z_Phouse, ht]; rfl
      rw [hp]
      refine hf_land hc f4 (wA_Ph wA (by omega) (by omega)) ?_ (by rw [k0]; omega) (by rw [← k 1 (by omega) (by omega)]; omega) (k 4 (by omega) (by omega)) (fun j hj => k j (by omega) (by omega))
      refine ⟨by rw [g1, k0], ?_, fun j hj => ?_, fun j hj hj2 => ?_, fun j hj => ?_, fun j hj => ?_, fun _ j hj => ?_, ⟨?_, fun i hi => ?_⟩, ⟨?_, fun i hi => ?_⟩⟩
      · rw [st_ne (by omega), e3, w1_at, if_neg (by omega), b2, c2, k 1 (by omega) (by omega)]
      · rw [st_ne (by omega), e3, w1_c (by omega), e2, w1_c (by omega), e1, w1_at, Ph_h]
        by_cases r : j = (A 0).toNat
        · rw [if_pos ⟨rfl, r⟩, if_pos r]
        · rw [if_neg (fun z => r z.2), if_neg r, c3 j hj]
      · rw [st_ne (by omega), e3, w1_c (by omega), e2, w1_at, ← k (22 + j) (by omega) (by omega)]
        rw [k0] at hj2
        by_cases r : j = (A 0).toNat
        · rw [if_pos ⟨rfl, r⟩, (wA.2.2.2.1 j hj).2.2 (by omega)]; rfl
        · rw [if_neg (fun z => r z.2), e1, w1_c (by omega), c4 j hj (by omega)]
      · rw [st_ne (by omega), e3, w1_c (by omega), e2, w1_c (by omega), e1, w1_c (by omega), c5 j hj, k (18 + j) (by omega) (by omega)]
      · rw [st_ne (by omega), p5 j hj, z_lk, if_pos hj, k (30 + j) (by omega) (by omega)]
      · rw [st_at hj]
        have hz : z_lk (z_Ph A a.toInt) = z_lk A := by
          funext m
          unfold z_lk
          split
          · exact (k _ (by omega) (by omega)).symm
          · rfl
        have hb := z_W_b wA (j / 8) (j % 8)
        unfold z_W at hb ⊢
        rw [hz]
        exact z_oi (by omega)
      · rw [st_ne (by omega), e3, w1_c (by omega), e2, w1_c (by omega), e1, w1_c (by omega), c8.1, k 5 (by omega) (by omega)]
      · rw [st_ne (by omega), st_ne (by omega), e3, w1_c (by omega), w1_c (by omega), e2, w1_c (by omega), w1_c (by omega), e1, w1_c (by omega), w1_c (by omega), (c8.2 i hi).1, (c8.2 i hi).2, k (94 + 2 * i) (by omega) (by omega), k (95 + 2 * i) (by omega) (by omega)]
        exact ⟨rfl, rfl⟩
      · rw [st_ne (by omega), e3, w1_c (by omega), e2, w1_c (by omega), e1, w1_c (by omega), c9.1, k 6 (by omega) (by omega)]
      · rw [st_ne (by omega), st_ne (by omega), e3, w1_c (by omega), w1_c (by omega), e2, w1_c (by omega), w1_c (by omega), e1, w1_c (by omega), w1_c (by omega), (c9.2 i hi).1, (c9.2 i hi).2, k (110 + 2 * i) (by omega) (by omega), k (111 + 2 * i) (by omega) (by omega)]
        exact ⟨rfl, rfl⟩
    · rw [z_Ahouse, ht, z_sub (by rw [g1]; simp only [Int32.reduceToInt]; omega), g1]
      simp only [Int32.reduceToInt, if_true]
      omega
  · rw [z_lt, c1] at q; simp only [Int32.reduceToInt] at q; omega
  · rw [z_le] at q; simp only [Int32.reduceToInt] at q; omega
