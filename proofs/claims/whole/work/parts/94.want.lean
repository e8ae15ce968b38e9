/-! want -/
theorem wA_want {A A' : Nat → Int} (w : w_A A) (k : ∀ k, ¬ k = 5 → k < 94 ∨ 110 ≤ k → A k = A' k) (hl : 0 ≤ A' 5 ∧ A' 5 ≤ 8 ∧ ∀ i : Nat, i < 8 → (i : Int) < A' 5 → 0 ≤ A' (94 + 2 * i) ∧ A' (94 + 2 * i) < A 0 ∧ 0 ≤ A' (95 + 2 * i) ∧ A' (95 + 2 * i) ≤ 23) : w_A A' := by
  obtain ⟨w1, w2, w3, w4, w5, w6, w7, w8⟩ := w
  have k0 := k 0 (by omega) (by omega)
  refine ⟨by rw [← k0, ← k 1 (by omega) (by omega)]; exact w1, fun h hh => ?_, fun h hh => ?_, fun h hh => ?_, fun h hh => ?_, fun i j hi hj => ?_, ⟨hl.1, hl.2.1, fun i hi hj => by rw [← k0]; exact hl.2.2 i hi hj⟩, ⟨by rw [← k 6 (by omega) (by omega)]; exact w8.1, by rw [← k 6 (by omega) (by omega)]; exact w8.2.1, fun i hi hj => ?_⟩⟩
  · rw [← k (10 + h) (by omega) (by omega)]; exact w2 h hh
  · rw [← k (18 + h) (by omega) (by omega)]; exact w3 h hh
  · rw [← k (22 + h) (by omega) (by omega), ← k0]; exact w4 h hh
  · rw [← k (30 + h) (by omega) (by omega)]; exact w5 h hh
  · rw [← k (30 + (8 * i + j)) (by omega) (by omega), ← k (30 + (8 * j + i)) (by omega) (by omega), ← k0]; exact w6 i j hi hj
  · rw [← k 6 (by omega) (by omega)] at hj
    rw [← k (110 + 2 * i) (by omega) (by omega), ← k (111 + 2 * i) (by omega) (by omega), ← k0]; exact w8.2.2 i hi hj
theorem cl_want {A A' : Nat → Int} {τ σ : x_T} (c : x_cl 1 τ A) (k : ∀ k, ¬ k = 5 → k < 94 ∨ 110 ≤ k → A k = A' k) (o : ∀ c, ¬ c = 7 → ¬ c = 8 → ¬ c = 9 → σ.1 c = τ.1 c) (hl : (σ.1 7 2).toInt = A' 5 ∧ ∀ i, i < 8 → (σ.1 8 i).toInt = A' (94 + 2 * i) ∧ (σ.1 9 i).toInt = A' (95 + 2 * i)) : x_cl 1 σ A' := by
  obtain ⟨c1, c2, c3, c4, c5, c6, c7, c8, c9⟩ := c
  refine ⟨?_, ?_, fun j hj => ?_, fun j hj hj2 => ?_, fun j hj => ?_, fun j hj => ?_, fun hz j hj => ?_, hl, ⟨?_, fun i hi => ?_⟩⟩
  · rw [o _ (by omega) (by omega) (by omega), c1, k 0 (by omega) (by omega)]
  · rw [o _ (by omega) (by omega) (by omega), c2, k 1 (by omega) (by omega)]
  · rw [o _ (by omega) (by omega) (by omega), c3 j hj, k (10 + j) (by omega) (by omega)]
  · rw [← k 0 (by omega) (by omega)] at hj2
    rw [o _ (by omega) (by omega) (by omega), c4 j hj hj2, k (22 + j) (by omega) (by omega)]
  · rw [o _ (by omega) (by omega) (by omega), c5 j hj, k (18 + j) (by omega) (by omega)]
  · rw [o _ (by omega) (by omega) (by omega), c6 j hj, k (30 + j) (by omega) (by omega)]
  · rw [← k 0 (by omega) (by omega)] at hz
    rw [o _ (by omega) (by omega) (by omega), c7 hz j hj, lk_W (fun m hm => k (30 + m) (by omega) (by omega))]
  · rw [o _ (by omega) (by omega) (by omega), c9.1, k 6 (by omega) (by omega)]
  · rw [o _ (by omega) (by omega) (by omega), o _ (by omega) (by omega) (by omega), (c9.2 i hi).1, (c9.2 i hi).2, k (110 + 2 * i) (by omega) (by omega), k (111 + 2 * i) (by omega) (by omega)]
    exact ⟨rfl, rfl⟩
theorem q_want {τ : x_T} (h : x_J τ) (a1 a2 : Int32) : x_CI 2000 mX11_want [.ref 0, .int a1, .int a2] τ (fun τ1 u => x_CI 2000 mX12_want [.ref 345, .int a1, .int a2] τ1 (fun τ2 v => u = v ∧ x_J τ2)) := by
  generalize hA : j_A τ = A
  have hc : x_hf 1 13 17 τ A := by rw [← hA]; exact h.1
  have wA := hc.1
  have w0 := wA.1
  have hcl := hc.2.1
  have wl := wA.2.2.2.2.2.2.1
  have cl := hcl.2.2.2.2.2.2.2.1
  have m0 : (τ.1 346 0).toInt = A 0 := jA_at hA 0
  have m5 : (τ.1 346 5).toInt = A 5 := jA_at hA 5
  have cl1 : (τ.1 7 2).toInt = A 5 := cl.1
  have no : ¬ a1 = -1 → ¬ (0 ≤ a1.toInt ∧ a1.toInt < A 0 ∧ 0 ≤ a2.toInt ∧ a2.toInt ≤ 23 ∧ A 5 < 8) → x_CI 2000 mX12_want [.ref 345, .int a1, .int a2] τ (fun τ2 v => (-2 : Int32) = v ∧ x_J τ2) := by
    intro n1 z
    refine e_X12_want ⟨fun _ => ml_isHouse wA m0 (fun p1 p2 => ⟨fun q => absurd q z_10, fun _ => ml_in (fun q1 q2 => ⟨fun q => absurd q z_10, fun _ => ⟨fun q3 => ?_, fun _ => ⟨rfl, h⟩⟩⟩) (fun q => ⟨fun _ => ⟨rfl, h⟩, fun r => absurd rfl r⟩)⟩) (fun p => ⟨fun _ => ⟨rfl, h⟩, fun r => absurd rfl r⟩), fun q => absurd q n1⟩
    rw [z_eq, m5] at q3
    simp only [Int32.reduceToInt] at q1 q2 q3
    omega
  refine e_X11_want (e_X3_noteDown rfl ⟨fun n1 y1 e1 => cl_isHouse hcl wA (fun p1 p2 => ⟨fun z => absurd z z_10, fun _ => ⟨fun q => no n1 ?_, fun q1 => ⟨fun q => no n1 ?_, fun q2 => ⟨fun q => ?_, fun _ => ⟨fun q3 => ?_, fun q => no n1 ?_⟩⟩⟩⟩⟩) (fun p => ⟨fun _ => no n1 (by omega), fun z => absurd rfl z⟩), fun n1 t7 e7 => ?_⟩)
  · rw [z_lt] at q; simp only [Int32.reduceToInt] at q; omega
  · rw [z_lt] at q; simp only [Int32.reduceToInt] at q; omega
  · rw [z_lt, e1, cl1] at q; simp only [Int32.reduceToInt] at q; omega
  · rw [z_lt] at q1 q2
    rw [z_lt, e1, cl1] at q3
    simp only [Int32.reduceToInt] at q1 q2 q3
    have hy : y1.toInt = A 5 := by rw [e1, cl1]
    obtain ⟨c, hcn⟩ : ∃ c : Nat, A 5 = c := ⟨(A 5).toNat, by omega⟩
    have hcl2 : y1.toNatClampNeg = c := by rw [z_cl, hy, hcn]; rfl
    have hy1 : (y1 + 1).toInt = c + 1 := by rw [z_add (by rw [hy]; simp only [Int32.reduceToInt]; omega), hy, hcn]; rfl
    refine ⟨ix_n (by omega), fun t4 e4 => ⟨ix_n (by omega), fun t5 e5 t6 e6 => ?_⟩⟩
    rw [hcl2] at e4 e5
    let A' : Nat → Int := z_set (z_set (z_set A (94 + 2 * c) a1.toInt) (95 + 2 * c) a2.toInt) 5 (c + 1)
    have aE : ∀ k, A' k = if k = 5 then (c : Int) + 1 else if k = 95 + 2 * c then a2.toInt else if k = 94 + 2 * c then a1.toInt else A k := fun k => rfl
    have k : ∀ k, ¬ k = 5 → k < 94 ∨ 110 ≤ k → A k = A' k := fun k h1 h2 => by rw [aE, if_neg h1, if_neg (by omega), if_neg (by omega)]
    have f6 : x_fr (fun c => 1 ≤ c ∧ c ≤ 12) τ t6 := by rw [e6, e5, e4]; exact fr_w (fr_w (fr_w (fr_r _ _) (by omega)) (by omega)) (by omega)
    have aI : A' 5 = c + 1 := by rw [aE, if_pos rfl]
    have aH : ∀ i, i < 8 → A' (94 + 2 * i) = if i = c then a1.toInt else A (94 + 2 * i) := fun i hi => by
      rw [aE, if_neg (by omega), if_neg (by omega)]
      by_cases r : i = c
      · rw [if_pos (by omega), if_pos r]
      · rw [if_neg (by omega), if_neg r]
    have aN : ∀ i, i < 8 → A' (95 + 2 * i) = if i = c then a2.toInt else A (95 + 2 * i) := fun i hi => by
      rw [aE, if_neg (by omega)]
      by_cases r : i = c
      · rw [if_pos (by omega), if_pos r]
      · rw [if_neg (by omega), if_neg (by omega), if_neg r]
    have wA2 : w_A A' := by
      refine wA_want wA k ⟨by rw [aI]; omega, by rw [aI]; omega, fun i hi hj => ?_⟩
      rw [aI] at hj
      rw [aH i hi, aN i hi]
      by_cases r : i = c
      · rw [if_pos r, if_pos r]; omega
      · rw [if_neg r, if_neg r]; exact wl.2.2 i hi (by omega)
    have hf6 : x_hf 1 13 17 t6 A' := by
      refine hf_land hc f6 wA2 (cl_want hcl k (fun x h1 h2 h3 => ?_) ⟨?_, fun i hi => ?_⟩) (by rw [← k 0 (by omega) (by omega)]; omega) (by rw [← k 1 (by omega) (by omega)]; omega) (k 4 (by omega) (by omega)) (fun j hj => k j (by omega) (by omega))
      · rw [e6, w1_c h1, e5, w1_c h3, e4, w1_c h2]
      · rw [e6, w1_at, if_pos ⟨rfl, rfl⟩, hy1, aI]
      · rw [aH i hi, aN i hi, e6, w1_c (by omega), w1_c (by omega), e5, w1_c (by omega), w1_at, e4, w1_at, w1_c (by omega)]
        by_cases r : i = c
        · rw [if_pos r, if_pos r, if_pos ⟨rfl, r⟩, if_pos ⟨rfl, r⟩]; exact ⟨rfl, rfl⟩
        · rw [if_neg r, if_neg r, if_neg (fun z => r z.2), if_neg (fun z => r z.2)]; exact cl.2 i hi
    have n46 : t6.1 346 = τ.1 346 := f6.1 346 (by omega)
    have r5 : t6.1 346 5 = nI c := z_of (by omega) (by rw [n46, m5, hcn])
    have i2 : (2 : Int32) * nI c = nI (2 * c) := n_mul 2 c
    have i94 : (94 : Int32) + nI (2 * c) = nI (94 + 2 * c) := n_add 94 _
    have i95 : nI (94 + 2 * c) + 1 = nI (95 + 2 * c) := (n_add (94 + 2 * c) 1).trans (by congr 1; omega)
    refine e_X12_want ⟨fun _ => ml_isHouse wA (by rw [n46]; exact m0) (fun _ _ => ⟨fun q => absurd q z_10, fun _ => ml_in (fun _ _ => ⟨fun q => absurd q z_10, fun _ => ⟨fun _ => ?_, fun q => ?_⟩⟩) (fun q => ?_)⟩) (fun p => absurd ⟨p1, p2⟩ p), fun q => absurd q n1⟩
    · rw [r5, i2, i94, nI_clamp (by omega)]
      refine ⟨vp_in_nI (by omega) (by decide), fun s5 g5 => ?_⟩
      have x5 : s5.1 346 5 = nI c := by rw [g5, w1_at, if_neg (by omega), r5]
      rw [x5, i2, i94, i95, nI_clamp (by omega)]
      refine ⟨vp_in_nI (by omega) (by decide), fun s6 g6 s7 g7 => ?_⟩
      have x6 : s6.1 346 5 = nI c := by rw [g6, w1_at, if_neg (by omega), x5]
      have x7 : (s7.1 346 5).toInt = c + 1 := by rw [g7, w1_at, if_pos ⟨rfl, rfl⟩, x6, z_add (by rw [z_n (by omega)]; simp only [Int32.reduceToInt]; omega), z_n (by omega)]; rfl
      refine ⟨z_eq.mpr (by rw [hy1, x7]), J_of (A' := A') h (fr_m s12_sC f6) hf6 (by rw [g7, g6, g5]; exact fr_w (fr_w (fr_w (fr_r _ _) (Or.inl rfl)) (Or.inl rfl)) (Or.inl rfl)) ?_ (by rw [hA, ← k 2 (by omega) (by omega)]) (by rw [hA, ← k 3 (by omega) (by omega)])⟩
      funext j
      unfold j_A
      rw [aE]
      by_cases r : j = 5
      · rw [if_pos r, r, x7]
      · rw [if_neg r, g7, w1_at, if_neg (fun z => r z.2), g6, w1_at]
        by_cases s : j = 95 + 2 * c
        · rw [if_pos ⟨rfl, s⟩, if_pos s]
        · rw [if_neg (fun z => s z.2), if_neg s, g5, w1_at]
          by_cases t : j = 94 + 2 * c
          · rw [if_pos ⟨rfl, t⟩, if_pos t]
          · rw [if_neg (fun z => t z.2), if_neg t, n46]; exact jA_at hA j
    · rw [z_eq, r5, z_n (by omega)] at q; simp only [Int32.reduceToInt] at q; omega
    · simp only [Int32.reduceToInt] at q; omega
  · rw [z_lt, e1, cl1] at q; simp only [Int32.reduceToInt] at q; omega
  · let A' : Nat → Int := z_set A 5 0
    have aE : ∀ k, A' k = if k = 5 then 0 else A k := fun k => rfl
    have k : ∀ k, ¬ k = 5 → k < 94 ∨ 110 ≤ k → A k = A' k := fun k h1 h2 => by rw [aE, if_neg h1]
    have f7 : x_fr (fun c => 1 ≤ c ∧ c ≤ 12) τ t7 := by rw [e7]; exact fr_w (fr_r _ _) (by omega)
    have aI : A' 5 = 0 := by rw [aE, if_pos rfl]
    have hf7 : x_hf 1 13 17 t7 A' := by
      refine hf_land hc f7 (wA_want wA k ⟨by rw [aI]; omega, by rw [aI]; omega, fun i hi hj => by rw [aI] at hj; omega⟩) (cl_want hcl k (fun x h1 h2 h3 => ?_) ⟨?_, fun i hi => ?_⟩) (by rw [← k 0 (by omega) (by omega)]; omega) (by rw [← k 1 (by omega) (by omega)]; omega) (k 4 (by omega) (by omega)) (fun j hj => k j (by omega) (by omega))
      · rw [e7, w1_c h1]
      · rw [e7, w1_at, if_pos ⟨rfl, rfl⟩, aI]; rfl
      · rw [aE, aE, if_neg (by omega), if_neg (by omega), e7, w1_c (by omega), w1_c (by omega)]; exact cl.2 i hi
    refine e_X12_want ⟨fun q => absurd n1 q, fun _ t8 e8 => ⟨rfl, J_of (A' := A') h (fr_m s12_sC f7) hf7 (by rw [e8]; exact fr_w (fr_r _ _) (Or.inl rfl)) ?_ (by rw [hA, ← k 2 (by omega) (by omega)]) (by rw [hA, ← k 3 (by omega) (by omega)])⟩⟩
    funext j
    unfold j_A
    rw [aE, e8, w1_at]
    by_cases r : j = 5
    · rw [if_pos ⟨rfl, r⟩, if_pos r]; rfl
    · rw [if_neg (fun z => r z.2), if_neg r, f7.1 346 (by omega)]; exact jA_at hA j
/-! feel -/
theorem wA_feel {A A' : Nat → Int} (w : w_A A) (k : ∀ k, ¬ k = 6 → k < 110 ∨ 126 ≤ k → A k = A' k) (hl : 0 ≤ A' 6 ∧ A' 6 ≤ 8 ∧ ∀ i : Nat, i < 8 → (i : Int) < A' 6 → 0 ≤ A' (110 + 2 * i) ∧ A' (110 + 2 * i) < A 0 ∧ 0 ≤ A' (111 + 2 * i) ∧ A' (111 + 2 * i) ≤ 99) : w_A A' := by
  obtain ⟨w1, w2, w3, w4, w5, w6, w7, w8⟩ := w
  have k0 := k 0 (by omega) (by omega)
  refine ⟨by rw [← k0, ← k 1 (by omega) (by omega)]; exact w1, fun h hh => ?_, fun h hh => ?_, fun h hh => ?_, fun h hh => ?_, fun i j hi hj => ?_, ⟨by rw [← k 5 (by omega) (by omega)]; exact w7.1, by rw [← k 5 (by omega) (by omega)]; exact w7.2.1, fun i hi hj => ?_⟩, ⟨hl.1, hl.2.1, fun i hi hj => by rw [← k0]; exact hl.2.2 i hi hj⟩⟩
  · rw [← k (10 + h) (by omega) (by omega)]; exact w2 h hh
  · rw [← k (18 + h) (by omega) (by omega)]; exact w3 h hh
  · rw [← k (22 + h) (by omega) (by omega), ← k0]; exact w4 h hh
  · rw [← k (30 + h) (by omega) (by omega)]; exact w5 h hh
  · rw [← k (30 + (8 * i + j)) (by omega) (by omega), ← k (30 + (8 * j + i)) (by omega) (by omega), ← k0]; exact w6 i j hi hj
  · rw [← k 5 (by omega) (by omega)] at hj
    rw [← k (94 + 2 * i) (by omega) (by omega), ← k (95 + 2 * i) (by omega) (by omega), ← k0]; exact w7.2.2 i hi hj
theorem cl_feel {A A' : Nat → Int} {τ σ : x_T} (c : x_cl 1 τ A) (k : ∀ k, ¬ k = 6 → k < 110 ∨ 126 ≤ k → A k = A' k) (o : ∀ c, ¬ c = 10 → ¬ c = 11 → ¬ c = 12 → σ.1 c = τ.1 c) (hl : (σ.1 10 2).toInt = A' 6 ∧ ∀ i, i < 8 → (σ.1 11 i).toInt = A' (110 + 2 * i) ∧ (σ.1 12 i).toInt = A' (111 + 2 * i)) : x_cl 1 σ A' := by
  obtain ⟨c1, c2, c3, c4, c5, c6, c7, c8, c9⟩ := c
  refine ⟨?_, ?_, fun j hj => ?_, fun j hj hj2 => ?_, fun j hj => ?_, fun j hj => ?_, fun hz j hj => ?_, ⟨?_, fun i hi => ?_⟩, hl⟩
  · rw [o _ (by omega) (by omega) (by omega), c1, k 0 (by omega) (by omega)]
  · rw [o _ (by omega) (by omega) (by omega), c2, k 1 (by omega) (by omega)]
  · rw [o _ (by omega) (by omega) (by omega), c3 j hj, k (10 + j) (by omega) (by omega)]
  · rw [← k 0 (by omega) (by omega)] at hj2
    rw [o _ (by omega) (by omega) (by omega), c4 j hj hj2, k (22 + j) (by omega) (by omega)]
  · rw [o _ (by omega) (by omega) (by omega), c5 j hj, k (18 + j) (by omega) (by omega)]
  · rw [o _ (by omega) (by omega) (by omega), c6 j hj, k (30 + j) (by omega) (by omega)]
  · rw [← k 0 (by omega) (by omega)] at hz
    rw [o _ (by omega) (by omega) (by omega), c7 hz j hj, lk_W (fun m hm => k (30 + m) (by omega) (by omega))]
  · rw [o _ (by omega) (by omega) (by omega), c8.1, k 5 (by omega) (by omega)]
  · rw [o _ (by omega) (by omega) (by omega), o _ (by omega) (by omega) (by omega), (c8.2 i hi).1, (c8.2 i hi).2, k (94 + 2 * i) (by omega) (by omega), k (95 + 2 * i) (by omega) (by omega)]
    exact ⟨rfl, rfl⟩
theorem q_feel {τ : x_T} (h : x_J τ) (a1 a2 : Int32) : x_CI 2000 mX11_feel [.ref 0, .int a1, .int a2] τ (fun τ1 u => x_CI 2000 mX12_feel [.ref 345, .int a1, .int a2] τ1 (fun τ2 v => u = v ∧ x_J τ2)) := by
  generalize hA : j_A τ = A
  have hc : x_hf 1 13 17 τ A := by rw [← hA]; exact h.1
  have wA := hc.1
  have w0 := wA.1
  have hcl := hc.2.1
  have wl := wA.2.2.2.2.2.2.2
  have cl := hcl.2.2.2.2.2.2.2.2
  have m0 : (τ.1 346 0).toInt = A 0 := jA_at hA 0
  have m5 : (τ.1 346 6).toInt = A 6 := jA_at hA 6
  have cl1 : (τ.1 10 2).toInt = A 6 := cl.1
  have no : ¬ a1 = -1 → ¬ (0 ≤ a1.toInt ∧ a1.toInt < A 0 ∧ 0 ≤ a2.toInt ∧ a2.toInt ≤ 99 ∧ A 6 < 8) → x_CI 2000 mX12_feel [.ref 345, .int a1, .int a2] τ (fun τ2 v => (-2 : Int32) = v ∧ x_J τ2) := by
    intro n1 z
    refine e_X12_feel ⟨fun _ => ml_isHouse wA m0 (fun p1 p2 => ⟨fun q => absurd q z_10, fun _ => ml_in (fun q1 q2 => ⟨fun q => absurd q z_10, fun _ => ⟨fun q3 => ?_, fun _ => ⟨rfl, h⟩⟩⟩) (fun q => ⟨fun _ => ⟨rfl, h⟩, fun r => absurd rfl r⟩)⟩) (fun p => ⟨fun _ => ⟨rfl, h⟩, fun r => absurd rfl r⟩), fun q => absurd q n1⟩
    rw [z_eq, m5] at q3
    simp only [Int32.reduceToInt] at q1 q2 q3
    omega
  refine e_X11_feel (e_X3_noteDown rfl ⟨fun n1 y1 e1 => cl_isHouse hcl wA (fun p1 p2 => ⟨fun z => absurd z z_10, fun _ => ⟨fun q => no n1 ?_, fun q1 => ⟨fun q => no n1 ?_, fun q2 => ⟨fun q => ?_, fun _ => ⟨fun q3 => ?_, fun q => no n1 ?_⟩⟩⟩⟩⟩) (fun p => ⟨fun _ => no n1 (by omega), fun z => absurd rfl z⟩), fun n1 t7 e7 => ?_⟩)
  · rw [z_lt] at q; simp only [Int32.reduceToInt] at q; omega
  · rw [z_lt] at q; simp only [Int32.reduceToInt] at q; omega
  · rw [z_lt, e1, cl1] at q; simp only [Int32.reduceToInt] at q; omega
  · rw [z_lt] at q1 q2
    rw [z_lt, e1, cl1] at q3
    simp only [Int32.reduceToInt] at q1 q2 q3
    have hy : y1.toInt = A 6 := by rw [e1, cl1]
    obtain ⟨c, hcn⟩ : ∃ c : Nat, A 6 = c := ⟨(A 6).toNat, by omega⟩
    have hcl2 : y1.toNatClampNeg = c := by rw [z_cl, hy, hcn]; rfl
    have hy1 : (y1 + 1).toInt = c + 1 := by rw [z_add (by rw [hy]; simp only [Int32.reduceToInt]; omega), hy, hcn]; rfl
    refine ⟨ix_n (by omega), fun t4 e4 => ⟨ix_n (by omega), fun t5 e5 t6 e6 => ?_⟩⟩
    rw [hcl2] at e4 e5
    let A' : Nat → Int := z_set (z_set (z_set A (110 + 2 * c) a1.toInt) (111 + 2 * c) a2.toInt) 6 (c + 1)
    have aE : ∀ k, A' k = if k = 6 then (c : Int) + 1 else if k = 111 + 2 * c then a2.toInt else if k = 110 + 2 * c then a1.toInt else A k := fun k => rfl
    have k : ∀ k, ¬ k = 6 → k < 110 ∨ 126 ≤ k → A k = A' k := fun k h1 h2 => by rw [aE, if_neg h1, if_neg (by omega), if_neg (by omega)]
    have f6 : x_fr (fun c => 1 ≤ c ∧ c ≤ 12) τ t6 := by rw [e6, e5, e4]; exact fr_w (fr_w (fr_w (fr_r _ _) (by omega)) (by omega)) (by omega)
    have aI : A' 6 = c + 1 := by rw [aE, if_pos rfl]
    have aH : ∀ i, i < 8 → A' (110 + 2 * i) = if i = c then a1.toInt else A (110 + 2 * i) := fun i hi => by
      rw [aE, if_neg (by omega), if_neg (by omega)]
      by_cases r : i = c
      · rw [if_pos (by omega), if_pos r]
      · rw [if_neg (by omega), if_neg r]
    have aN : ∀ i, i < 8 → A' (111 + 2 * i) = if i = c then a2.toInt else A (111 + 2 * i) := fun i hi => by
      rw [aE, if_neg (by omega)]
      by_cases r : i = c
      · rw [if_pos (by omega), if_pos r]
      · rw [if_neg (by omega), if_neg (by omega), if_neg r]
    have wA2 : w_A A' := by
      refine wA_feel wA k ⟨by rw [aI]; omega, by rw [aI]; omega, fun i hi hj => ?_⟩
      rw [aI] at hj
      rw [aH i hi, aN i hi]
      by_cases r : i = c
      · rw [if_pos r, if_pos r]; omega
      · rw [if_neg r, if_neg r]; exact wl.2.2 i hi (by omega)
    have hf6 : x_hf 1 13 17 t6 A' := by
      refine hf_land hc f6 wA2 (cl_feel hcl k (fun x h1 h2 h3 => ?_) ⟨?_, fun i hi => ?_⟩) (by rw [← k 0 (by omega) (by omega)]; omega) (by rw [← k 1 (by omega) (by omega)]; omega) (k 4 (by omega) (by omega)) (fun j hj => k j (by omega) (by omega))
      · rw [e6, w1_c h1, e5, w1_c h3, e4, w1_c h2]
      · rw [e6, w1_at, if_pos ⟨rfl, rfl⟩, hy1, aI]
      · rw [aH i hi, aN i hi, e6, w1_c (by omega), w1_c (by omega), e5, w1_c (by omega), w1_at, e4, w1_at, w1_c (by omega)]
        by_cases r : i = c
        · rw [if_pos r, if_pos r, if_pos ⟨rfl, r⟩, if_pos ⟨rfl, r⟩]; exact ⟨rfl, rfl⟩
        · rw [if_neg r, if_neg r, if_neg (fun z => r z.2), if_neg (fun z => r z.2)]; exact cl.2 i hi
    have n46 : t6.1 346 = τ.1 346 := f6.1 346 (by omega)
    have r5 : t6.1 346 6 = nI c := z_of (by omega) (by rw [n46, m5, hcn])
    have i2 : (2 : Int32) * nI c = nI (2 * c) := n_mul 2 c
    have i94 : (110 : Int32) + nI (2 * c) = nI (110 + 2 * c) := n_add 110 _
    have i95 : nI (110 + 2 * c) + 1 = nI (111 + 2 * c) := (n_add (110 + 2 * c) 1).trans (by congr 1; omega)
    refine e_X12_feel ⟨fun _ => ml_isHouse wA (by rw [n46]; exact m0) (fun _ _ => ⟨fun q => absurd q z_10, fun _ => ml_in (fun _ _ => ⟨fun q => absurd q z_10, fun _ => ⟨fun _ => ?_, fun q => ?_⟩⟩) (fun q => ?_)⟩) (fun p => absurd ⟨p1, p2⟩ p), fun q => absurd q n1⟩
    · rw [r5, i2, i94, nI_clamp (by omega)]
      refine ⟨vp_in_nI (by omega) (by decide), fun s5 g5 => ?_⟩
      have x5 : s5.1 346 6 = nI c := by rw [g5, w1_at, if_neg (by omega), r5]
      rw [x5, i2, i94, i95, nI_clamp (by omega)]
      refine ⟨vp_in_nI (by omega) (by decide), fun s6 g6 s7 g7 => ?_⟩
      have x6 : s6.1 346 6 = nI c := by rw [g6, w1_at, if_neg (by omega), x5]
      have x7 : (s7.1 346 6).toInt = c + 1 := by rw [g7, w1_at, if_pos ⟨rfl, rfl⟩, x6, z_add (by rw [z_n (by omega)]; simp only [Int32.reduceToInt]; omega), z_n (by omega)]; rfl
      refine ⟨z_eq.mpr (by rw [hy1, x7]), J_of (A' := A') h (fr_m s12_sC f6) hf6 (by rw [g7, g6, g5]; exact fr_w (fr_w (fr_w (fr_r _ _) (Or.inl rfl)) (Or.inl rfl)) (Or.inl rfl)) ?_ (by rw [hA, ← k 2 (by omega) (by omega)]) (by rw [hA, ← k 3 (by omega) (by omega)])⟩
      funext j
      unfold j_A
      rw [aE]
      by_cases r : j = 6
      · rw [if_pos r, r, x7]
      · rw [if_neg r, g7, w1_at, if_neg (fun z => r z.2), g6, w1_at]
        by_cases s : j = 111 + 2 * c
        · rw [if_pos ⟨rfl, s⟩, if_pos s]
        · rw [if_neg (fun z => s z.2), if_neg s, g5, w1_at]
          by_cases t : j = 110 + 2 * c
          · rw [if_pos ⟨rfl, t⟩, if_pos t]
          · rw [if_neg (fun z => t z.2), if_neg t, n46]; exact jA_at hA j
    · rw [z_eq, r5, z_n (by omega)] at q; simp only [Int32.reduceToInt] at q; omega
    · simp only [Int32.reduceToInt] at q; omega
  · rw [z_lt, e1, cl1] at q; simp only [Int32.reduceToInt] at q; omega
  · let A' : Nat → Int := z_set A 6 0
    have aE : ∀ k, A' k = if k = 6 then 0 else A k := fun k => rfl
    have k : ∀ k, ¬ k = 6 → k < 110 ∨ 126 ≤ k → A k = A' k := fun k h1 h2 => by rw [aE, if_neg h1]
    have f7 : x_fr (fun c => 1 ≤ c ∧ c ≤ 12) τ t7 := by rw [e7]; exact fr_w (fr_r _ _) (by omega)
    have aI : A' 6 = 0 := by rw [aE, if_pos rfl]
    have hf7 : x_hf 1 13 17 t7 A' := by
      refine hf_land hc f7 (wA_feel wA k ⟨by rw [aI]; omega, by rw [aI]; omega, fun i hi hj => by rw [aI] at hj; omega⟩) (cl_feel hcl k (fun x h1 h2 h3 => ?_) ⟨?_, fun i hi => ?_⟩) (by rw [← k 0 (by omega) (by omega)]; omega) (by rw [← k 1 (by omega) (by omega)]; omega) (k 4 (by omega) (by omega)) (fun j hj => k j (by omega) (by omega))
      · rw [e7, w1_c h1]
      · rw [e7, w1_at, if_pos ⟨rfl, rfl⟩, aI]; rfl
      · rw [aE, aE, if_neg (by omega), if_neg (by omega), e7, w1_c (by omega), w1_c (by omega)]; exact cl.2 i hi
    refine e_X12_feel ⟨fun q => absurd n1 q, fun _ t8 e8 => ⟨rfl, J_of (A' := A') h (fr_m s12_sC f7) hf7 (by rw [e8]; exact fr_w (fr_r _ _) (Or.inl rfl)) ?_ (by rw [hA, ← k 2 (by omega) (by omega)]) (by rw [hA, ← k 3 (by omega) (by omega)])⟩⟩
    funext j
    unfold j_A
    rw [aE, e8, w1_at]
    by_cases r : j = 6
    · rw [if_pos ⟨rfl, r⟩, if_pos r]; rfl
    · rw [if_neg (fun z => r z.2), if_neg r, f7.1 346 (by omega)]; exact jA_at hA j
