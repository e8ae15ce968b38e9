/-! a text: what both do ahead of the clauses, and what the model copies behind them -/
theorem cl_empty {d t : Nat} (ht : t < 4) {τ : x_T} {K : x_T → Prop} (hK : ∀ σ : x_T, x_fr (fun c => c = 140 + 9 * t ∨ c = 140 + 9 * t + 5 ∨ c = 140 + 9 * t + 6) τ σ → σ.1 (140 + 9 * t) 4 = 0 → σ.1 (140 + 9 * t) 9 = 0 → (∀ w, w < 4 → σ.1 (140 + 9 * t + 5) w = 0 ∧ σ.1 (140 + 9 * t + 6) w = 0) → K σ) : x_CV d mX9_empty [.ref (140 + 9 * t)] τ K := by
  have hs9 : x_sh (140 + 9 * t) = (9, 10) := shd_140 ht
  have loop : ∀ j, j ≤ 4 → (fun j => ∀ (ρ : x_T) (v : Int32), v.toInt = (j : Nat) → x_fr (fun c => c = 140 + 9 * t ∨ c = 140 + 9 * t + 5 ∨ c = 140 + 9 * t + 6) τ ρ → ρ.1 (140 + 9 * t) 4 = 0 → ρ.1 (140 + 9 * t) 9 = 0 → (∀ w, w < j → ρ.1 (140 + 9 * t + 5) w = 0 ∧ ρ.1 (140 + 9 * t + 6) w = 0) → x_WV d mX9_empty K 12 [(0, .ref (140 + 9 * t)), (1, .int v)] [] ρ) j := by
    refine z_down ?_ ?_
    · intro ρ v hv f h4 h9 hw
      exact k_X9_empty_12 hs9 ⟨fun _ => hK ρ f h4 h9 hw, fun q => absurd (by rw [z_le, hv]; decide) q⟩
    · intro j hj ih ρ v hv f h4 h9 hw
      have cv : v.toNatClampNeg = j := by rw [z_cl, hv]; omega
      refine k_X9_empty_12 hs9 ⟨fun q => ?_, fun _ => ⟨ix_n (by omega), fun t1 e1 => ⟨ix_n (by omega), fun t2 e2 y3 e3 => ih t2 y3 ?_ ?_ ?_ ?_ ?_⟩⟩⟩
      · rw [z_le, hv] at q; simp only [Int32.reduceToInt] at q; omega
      · rw [e3, z_add (by rw [hv]; simp only [Int32.reduceToInt]; omega), hv]; simp only [Int32.reduceToInt]; omega
      · rw [e2, e1]; exact fr_w (fr_w f (Or.inr (Or.inl rfl))) (Or.inr (Or.inr rfl))
      · rw [e2, w1_c (by omega), e1, w1_c (by omega)]; exact h4
      · rw [e2, w1_c (by omega), e1, w1_c (by omega)]; exact h9
      · intro w hw'
        rw [cv] at e1 e2
        refine ⟨?_, ?_⟩
        · rw [e2, w1_at, if_neg (by omega), e1, w1_at]
          by_cases q : w = j
          · rw [if_pos ⟨rfl, q⟩]
          · rw [if_neg (fun z => q z.2)]; exact (hw w (by omega)).1
        · rw [e2, w1_at]
          by_cases q : w = j
          · rw [if_pos ⟨rfl, q⟩]
          · rw [if_neg (fun z => q z.2), e1, w1_c (by omega)]; exact (hw w (by omega)).2
  refine e_X9_empty hs9 (fun t1 e1 t2 e2 => loop 0 (by omega) t2 0 (by decide) ?_ ?_ ?_ (fun w hw => by omega))
  · rw [e2, e1]; exact fr_w (fr_w (fr_r _ _) (Or.inl rfl)) (Or.inl rfl)
  · rw [e2, w1_at, if_neg (by omega), e1, w1_at, if_pos ⟨rfl, rfl⟩]
  · rw [e2, w1_at, if_pos ⟨rfl, rfl⟩]
theorem cs_read {n t : Nat} {b : Nat → Int} {τ : x_T} {E : x_T → x_T → Prop} {K : x_T → Prop} (ht : t < 4) (hb : q_cb τ b n) (hR : q_cR b n t 0 0 [] E) (hK : ∀ σ ρ : x_T, σ.2.2 = (140 + 9 * t, τ.2.2.2) → (∀ c, ¬ q_sR t c → ¬ q_sK c → σ.1 c = τ.1 c) → σ.1 319 5 = -1 → q_st σ b n t 0 0 → E σ ρ → K ρ) : x_CV 1999 mX6_read [.ref 319, .ref (140 + 9 * t)] τ K := by
  have hs9 : x_sh (140 + 9 * t) = (9, 10) := shd_140 ht
  refine e_X6_read hs9 (fun t1 e1 t2 e2 t3 e3 t4 e4 => ?_)
  have r4 : t4.2.2 = (140 + 9 * t, τ.2.2.2) := by rw [e4, e3, e2, e1]; rfl
  have r41 : t4.2.2.1 = 140 + 9 * t := by rw [r4]
  have c4 : ∀ c, ¬ c = 319 → t4.1 c = τ.1 c := fun c hc => by rw [e4, w1_c hc, e3, w1_c hc, e2, w1_c hc, e1]
  rw [r41]
  refine ⟨hs9, cl_empty ht (fun t6 f6 h4 h9 h56 => ?_)⟩
  have c6 : ∀ c, ¬ q_sR t c → t6.1 c = τ.1 c := fun c hc => (f6.1 c (by unfold q_sR at hc; omega)).trans (c4 c (by unfold q_sR at hc; omega))
  have s6 : t6.1 319 = t4.1 319 := f6.1 319 (by omega)
  have b6 : q_cb t6 b n := ⟨by rw [c6 314 (by unfold q_sR; omega)]; exact hb.1, hb.2.1, fun k hk => by rw [c6 315 (by unfold q_sR; omega)]; exact hb.2.2 k hk⟩
  refine cl_cut b6 (fun t8 f8 hC => ?_)
  have c8 : ∀ c, ¬ q_sK c → t8.1 c = t6.1 c := f8.1
  have r8 : t8.2.2 = (140 + 9 * t, τ.2.2.2) := f8.2.trans (f6.2.trans r4)
  have nk : ∀ c, (c = 319 ∨ (140 + 9 * t ≤ c ∧ c ≤ 140 + 9 * t + 8)) → ¬ q_sK c := fun c hc => by unfold q_sK; omega
  have st : q_st t8 b n t 0 0 := by
    refine ⟨hC, by rw [r8], ?_, ?_, ?_⟩
    · rw [c8 319 (nk _ (by omega)), s6, e4, w1_at, if_neg (by omega), e3, w1_at, if_neg (by omega), e2, w1_at, if_pos ⟨rfl, rfl⟩]; rfl
    · rw [c8 319 (nk _ (by omega)), s6, e4, w1_at, if_neg (by omega), e3, w1_at, if_pos ⟨rfl, rfl⟩]; rfl
    · rw [c8 _ (nk _ (by omega)), h9]; rfl
  have cS : q_cS t8 t [] := by
    refine ⟨by rw [c8 _ (nk _ (by omega)), h4]; rfl, fun k e h => by simp at h, fun w hw _ => ?_⟩
    rw [c8 (140 + 9 * t + 6) (nk _ (by omega)), c8 (140 + 9 * t + 5) (nk _ (by omega)), (h56 w hw).1, (h56 w hw).2]
    exact Int.le_refl _
  refine hR 1999 t8 0 K (by omega) rfl st cS (fun ρ e => hK t8 ρ r8 (fun c h1 h2 => (c8 c h2).trans (c6 c h1)) ?_ st e)
  rw [c8 319 (nk _ (by omega)), s6, e4, w1_at, if_pos ⟨rfl, rfl⟩]
theorem ms_text {n : Nat} {b : Nat → Int} {s : x_T} {E : q_KF} {K0 : x_T → Int32 → Prop} (h4 : ¬ s.1 346 2 = 4) (h3 : (s.1 345 3).toInt = n) (hn : n ≤ 300) (hb : ∀ k, k < 300 → (s.1 348 k).toInt = q_sx (b k) ∧ 0 ≤ b k ∧ b k < 256) (hC : q_mC b n 0 0 [] E) (hE : ∀ σ : x_T, x_fr (fun c => c = 345) s σ → σ.1 345 3 = 0 → E K0 σ) : x_CI 2000 mX12_text [.ref 345] s K0 := by
  refine e_X12_text ⟨fun _ t1 e1 t2 e2 t3 e3 t4 e4 t5 e5 t6 e6 t7 e7 t8 e8 t9 e9 t10 e10 t11 e11 => ?_, fun q => absurd q h4⟩
  have f : x_fr (fun c => c = 345) s t11 := by
    rw [e11, e10, e9, e8, e7, e6, e5, e4, e3, e2, e1]
    exact fr_w (fr_w (fr_w (fr_w (fr_w (fr_w (fr_w (fr_w (fr_w (fr_w (fr_w (fr_r _ _) rfl) rfl) rfl) rfl) rfl) rfl) rfl) rfl) rfl) rfl) rfl
  have row : ∀ k, t11.1 345 k = if k = 37 then 0 else if k = 30 then 0 else if k = 28 then 4 else if k = 25 then 0 else if k = 22 then 0 else if k = 21 then 0 else if k = 20 then -1 else if k = 19 then 0 else if k = 15 then 0 else if k = 3 then 0 else if k = 14 then s.1 345 3 else s.1 345 k := by
    intro k
    rw [e11, e10, e9, e8, e7, e6, e5, e4, e3, e2, e1]
    simp only [w1_at, true_and]
  have hb11 : q_Mb t11 b n := ⟨by rw [row]; exact h3, hn, fun k hk => by rw [f.1 348 (by omega)]; exact hb k hk⟩
  refine ml_next (d := 1997) (i := 0) hb11 (by rw [row]; rfl) (fun ρ g hT => hC K0 ρ 0 ⟨qf_b g hb11, hT, ?_, ?_, ?_, ?_, ?_, ⟨trivial, ?_⟩, ?_⟩ ⟨?_, fun k e h => by simp at h⟩ (hE ρ (fr_t f g.1) ?_))
  all_goals rw [g.2 _ (by omega) (by omega) (by omega) (by omega), row]; rfl
def q_l1 (t : Nat) (v1 : Int32) (σ ρ : x_T) (j : Nat) : Prop := x_fr (fun c => 350 ≤ c ∧ c ≤ 354) σ ρ ∧ (∀ c, 350 ≤ c → c ≤ 354 → ∀ k, k < 24 * t → ρ.1 c k = σ.1 c k) ∧ ∀ i, i < j → ρ.1 350 (24 * t + i) = σ.1 362 i ∧ ρ.1 351 (24 * t + i) = 400 * v1 + σ.1 363 i ∧ ρ.1 352 (24 * t + i) = σ.1 364 i ∧ ρ.1 353 (24 * t + i) = σ.1 365 i ∧ ρ.1 354 (24 * t + i) = σ.1 366 i
theorem ml_c1 {t N : Nat} {v1 : Int32} {K0 : x_T → Int32 → Prop} {σ : x_T} (ht : t < 4) (hv : v1.toInt = t) (hN : N ≤ 24) (h30 : (σ.1 345 30).toInt = N) (hK : ∀ ρ, q_l1 t v1 σ ρ N → x_WI (1999 + 1) mX12_text K0 318 [(0, .ref 345), (1, .int v1), (2, .int 0)] [] ρ) : x_WI (1999 + 1) mX12_text K0 211 [(0, .ref 345), (1, .int v1), (2, .int 0)] [] σ := by
  have loop : ∀ j, j ≤ N → (fun j => ∀ (ρ : x_T) (v2 : Int32), v2.toInt = (j : Nat) → q_l1 t v1 σ ρ j → x_WI (1999 + 1) mX12_text K0 211 [(0, .ref 345), (1, .int v1), (2, .int v2)] [] ρ) j := by
    refine z_down ?_ ?_
    · intro ρ v2 h2 l
      exact k_X12_text_211 ⟨fun _ => hK ρ l, fun q => absurd (by rw [z_le, l.1.1 345 (by omega), h30, h2]; omega) q⟩
    · intro j hj ih ρ v2 h2 l
      have c2 : v2.toNatClampNeg = j := by rw [z_cl, h2]; omega
      have hm : ((24 : Int32) * v1).toInt = 24 * (t : Int) := by rw [z_mul (by rw [hv]; simp only [Int32.reduceToInt]; omega), hv]; simp only [Int32.reduceToInt]
      have ha : (((24 : Int32) * v1) + v2).toInt = (24 * t + j : Nat) := by rw [z_add (by rw [hm, h2]; omega), hm, h2]; omega
      have ca : (((24 : Int32) * v1) + v2).toNatClampNeg = 24 * t + j := by rw [z_cl, ha]; omega
      have iv : vp_in v2 24 := ix_n (by omega)
      have ia : vp_in (((24 : Int32) * v1) + v2) 96 := ix_n (by omega)
      refine k_X12_text_211 ⟨fun q => ?_, fun _ => ?_⟩
      · rw [z_le, l.1.1 345 (by omega), h30, h2] at q; omega
      rw [c2, ca]
      refine ⟨iv, ia, fun t1 e1 => ⟨iv, ia, fun t2 e2 => ⟨iv, ia, fun t3 e3 => ⟨iv, ia, fun t4 e4 => ⟨iv, ia, fun t5 e5 y6 e6 => ?_⟩⟩⟩⟩⟩
      have g1 : ∀ c, ¬ c = 350 → t1.1 c = ρ.1 c := fun c hc => by rw [e1, w1_c hc]
      have g2 : ∀ c, ¬ c = 350 → ¬ c = 351 → t2.1 c = ρ.1 c := fun c hc hd => by rw [e2, w1_c hd, g1 c hc]
      have g3 : ∀ c, ¬ c = 350 → ¬ c = 351 → ¬ c = 352 → t3.1 c = ρ.1 c := fun c hc hd he => by rw [e3, w1_c he, g2 c hc hd]
      have g4 : ∀ c, ¬ c = 350 → ¬ c = 351 → ¬ c = 352 → ¬ c = 353 → t4.1 c = ρ.1 c := fun c hc hd he hf => by rw [e4, w1_c hf, g3 c hc hd he]
      have r0 : ∀ k, t5.1 350 k = if k = 24 * t + j then ρ.1 362 j else ρ.1 350 k := fun k => by
        rw [e5, w1_c (by omega), e4, w1_c (by omega), e3, w1_c (by omega), e2, w1_c (by omega), e1, w1_at]; simp only [true_and]
      have r1 : ∀ k, t5.1 351 k = if k = 24 * t + j then 400 * v1 + ρ.1 363 j else ρ.1 351 k := fun k => by
        rw [e5, w1_c (by omega), e4, w1_c (by omega), e3, w1_c (by omega), e2, w1_at, g1 363 (by omega), g1 351 (by omega)]; simp only [true_and]
      have r2 : ∀ k, t5.1 352 k = if k = 24 * t + j then ρ.1 364 j else ρ.1 352 k := fun k => by
        rw [e5, w1_c (by omega), e4, w1_c (by omega), e3, w1_at, g2 364 (by omega) (by omega), g2 352 (by omega) (by omega)]; simp only [true_and]
      have r3 : ∀ k, t5.1 353 k = if k = 24 * t + j then ρ.1 365 j else ρ.1 353 k := fun k => by
        rw [e5, w1_c (by omega), e4, w1_at, g3 365 (by omega) (by omega) (by omega), g3 353 (by omega) (by omega) (by omega)]; simp only [true_and]
      have r4 : ∀ k, t5.1 354 k = if k = 24 * t + j then ρ.1 366 j else ρ.1 354 k := fun k => by
        rw [e5, w1_at, g4 366 (by omega) (by omega) (by omega) (by omega), g4 354 (by omega) (by omega) (by omega) (by omega)]; simp only [true_and]
      refine ih t5 y6 ?_ ⟨?_, ?_, ?_⟩
      · rw [e6, z_add (by rw [h2]; simp only [Int32.reduceToInt]; omega), h2]; simp only [Int32.reduceToInt]; omega
      · rw [e5, e4, e3, e2, e1]
        exact fr_w (fr_w (fr_w (fr_w (fr_w l.1 ⟨by decide, by decide⟩) ⟨by decide, by decide⟩) ⟨by decide, by decide⟩) ⟨by decide, by decide⟩) ⟨by decide, by decide⟩
      · intro c h1 h2 k hk
        have : c = 350 ∨ c = 351 ∨ c = 352 ∨ c = 353 ∨ c = 354 := by omega
        rcases this with rfl | rfl | rfl | rfl | rfl
        · rw [r0, if_neg (by omega)]; exact l.2.1 350 (by omega) (by omega) k hk
        · rw [r1, if_neg (by omega)]; exact l.2.1 351 (by omega) (by omega) k hk
        · rw [r2, if_neg (by omega)]; exact l.2.1 352 (by omega) (by omega) k hk
        · rw [r3, if_neg (by omega)]; exact l.2.1 353 (by omega) (by omega) k hk
        · rw [r4, if_neg (by omega)]; exact l.2.1 354 (by omega) (by omega) k hk
      · intro i hi
        rw [r0, r1, r2, r3, r4, l.1.1 362 (by omega), l.1.1 363 (by omega), l.1.1 364 (by omega), l.1.1 365 (by omega), l.1.1 366 (by omega)]
        by_cases q : i = j
        · subst q
          simp only [if_true, and_self]
        · have q' : ¬ 24 * t + i = 24 * t + j := by omega
          rw [if_neg q', if_neg q', if_neg q', if_neg q', if_neg q']
          exact l.2.2 i (by omega)
  exact loop 0 (by omega) σ 0 (by decide) ⟨fr_r _ _, fun _ _ _ _ _ => rfl, fun i hi => by omega⟩
def q_l2 (t : Nat) (v1 : Int32) (σ ρ : x_T) (j : Nat) : Prop := x_fr (fun c => c = 355 ∨ c = 356) σ ρ ∧ (∀ k, k < 400 * t → ρ.1 355 k = σ.1 355 k ∧ ρ.1 356 k = σ.1 356 k) ∧ ∀ i, i < j → ρ.1 355 (400 * t + i) = σ.1 367 i ∧ ρ.1 356 (400 * t + i) = σ.1 368 i + (if σ.1 367 i = 404 ∨ σ.1 367 i = 409 then 400 * v1 else 0)
theorem ml_c2 {t m : Nat} {v1 : Int32} {K0 : x_T → Int32 → Prop} {σ : x_T} (ht : t < 4) (hv : v1.toInt = t) (hm : m ≤ 400) (h37 : (σ.1 345 37).toInt = m) (hK : ∀ ρ, q_l2 t v1 σ ρ m → ∀ t1, t1 = x_w1 ρ 346 2 ((ρ.1 346 2) + 1) → K0 t1 v1) : x_WI (1999 + 1) mX12_text K0 318 [(0, .ref 345), (1, .int v1), (2, .int 0)] [] σ := by
  have loop : ∀ j, j ≤ m → (fun j => ∀ (ρ : x_T) (v2 : Int32), v2.toInt = (j : Nat) → q_l2 t v1 σ ρ j → x_WI (1999 + 1) mX12_text K0 318 [(0, .ref 345), (1, .int v1), (2, .int v2)] [] ρ) j := by
    refine z_down ?_ ?_
    · intro ρ v2 h2 l
      exact k_X12_text_318 ⟨fun _ => hK ρ l, fun q => absurd (by rw [z_le, l.1.1 345 (by omega), h37, h2]; omega) q⟩
    · intro j hj ih ρ v2 h2 l
      have c2 : v2.toNatClampNeg = j := by rw [z_cl, h2]; omega
      have hmu : ((400 : Int32) * v1).toInt = 400 * (t : Int) := by rw [z_mul (by rw [hv]; simp only [Int32.reduceToInt]; omega), hv]; simp only [Int32.reduceToInt]
      have ha : (((400 : Int32) * v1) + v2).toInt = (400 * t + j : Nat) := by rw [z_add (by rw [hmu, h2]; omega), hmu, h2]; omega
      have ca : (((400 : Int32) * v1) + v2).toNatClampNeg = 400 * t + j := by rw [z_cl, ha]; omega
      have iv : vp_in v2 400 := ix_n (by omega)
      have ia : vp_in (((400 : Int32) * v1) + v2) 1600 := ix_n (by omega)
      have step : ∀ (x : Int32) (t3 : x_T), t3 = x_w1 ρ 355 (400 * t + j) (ρ.1 367 j) → x = (if ρ.1 367 j = 404 ∨ ρ.1 367 j = 409 then 400 * v1 else 0) → x_WI (1999 + 1) mX12_text K0 386 [(0, .ref 345), (1, .int v1), (2, .int v2)] [.int x, .int (t3.1 368 j), .int ((400 * v1) + v2), .ref 356] t3 := by
        intro x t3 e3 ex
        refine k_X12_text_386 ⟨ia, fun t1 e1 y2 e2 => ?_⟩
        rw [ca] at e1
        have g3 : ∀ c, ¬ c = 355 → t3.1 c = ρ.1 c := fun c hc => by rw [e3, w1_c hc]
        have r0 : ∀ k, t1.1 355 k = if k = 400 * t + j then ρ.1 367 j else ρ.1 355 k := fun k => by
          rw [e1, w1_c (by omega), e3, w1_at]; simp only [true_and]
        have r1 : ∀ k, t1.1 356 k = if k = 400 * t + j then ρ.1 368 j + x else ρ.1 356 k := fun k => by
          rw [e1, w1_at, g3 368 (by omega), g3 356 (by omega)]; simp only [true_and]
        refine ih t1 y2 ?_ ⟨?_, ?_, ?_⟩
        · rw [e2, z_add (by rw [h2]; simp only [Int32.reduceToInt]; omega), h2]; simp only [Int32.reduceToInt]; omega
        · rw [e1, e3]; exact fr_w (fr_w l.1 (Or.inl rfl)) (Or.inr rfl)
        · intro k hk
          rw [r0, r1, if_neg (by omega), if_neg (by omega)]; exact l.2.1 k hk
        · intro i hi
          rw [r0, r1]
          by_cases q : i = j
          · subst q
            rw [if_pos rfl, if_pos rfl, ex, l.1.1 367 (by omega), l.1.1 368 (by omega)]
            exact ⟨rfl, rfl⟩
          · have q' : ¬ 400 * t + i = 400 * t + j := by omega
            rw [if_neg q', if_neg q']
            exact l.2.2 i (by omega)
      refine k_X12_text_318 ⟨fun q => ?_, fun _ => ?_⟩
      · rw [z_le, l.1.1 345 (by omega), h37, h2] at q; omega
      rw [c2, ca]
      refine ⟨iv, fun y2 ey => ⟨ia, fun t3 e3 => ⟨iv, fun q => k_X12_text_377 (step _ t3 (by rw [e3, ey]) ?_), fun q1 => ⟨fun q2 => step _ t3 (by rw [e3, ey]) ?_, fun q => k_X12_text_377 (step _ t3 (by rw [e3, ey]) ?_)⟩⟩⟩⟩
      · rw [if_pos (Or.inl (ey.symm.trans q))]
      · rw [if_neg (fun z => by rcases z with z | z; exact q1 (ey.trans z); exact q2 (ey.trans z))]
      · rw [if_pos (Or.inr (ey.symm.trans q))]
  exact loop 0 (by omega) σ 0 (by decide) ⟨fr_r _ _, fun _ _ => ⟨rfl, rfl⟩, fun i hi => by omega⟩
