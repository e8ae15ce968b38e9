theorem q_house {τ : x_T} (h : x_J τ) (a1 : Int32) : x_CI 2000 mX11_house [.ref 0, .int a1] τ (fun τ1 u => x_CI 2000 mX12_house [.ref 345, .int a1] τ1 (fun τ2 v => u = v ∧ x_J τ2)) := by
  have w0 := h.1.1.1
  have h3 : ∀ k, k = 2 ∨ k = 3 → z_Phouse (j_A τ) a1.toInt k = j_A τ k := by
    intro k hk
    unfold z_Phouse
    split
    · rename_i q
      have := of_decide_eq_true q
      exact (Ph_k (by omega) (by omega) (by omega)).symm
    · rfl
  exact cs_house h.1 (fun σ u f g hu => ms_house (A := j_A τ) (jA_fr f (by unfold j_sC; omega)) h.1.1 (fun ρ v f2 g2 hv => ⟨z_eq.mpr (by rw [hu, hv]), J_of h f g f2 g2 (h3 2 (by omega)) (h3 3 (by omega))⟩))
theorem q_lane {τ : x_T} (h : x_J τ) (a1 a2 a3 : Int32) : x_CI 2000 mX11_lane [.ref 0, .int a1, .int a2, .int a3] τ (fun τ1 u => x_CI 2000 mX12_lane [.ref 345, .int a1, .int a2, .int a3] τ1 (fun τ2 v => u = v ∧ x_J τ2)) := by
  have w0 := h.1.1.1
  have h3 : ∀ k, k = 2 ∨ k = 3 → z_Plane (j_A τ) a1.toInt a2.toInt a3.toInt k = j_A τ k := by
    intro k hk
    unfold z_Plane
    split
    · rename_i q
      have := of_decide_eq_true q
      exact (Pl_o (by omega) (by omega) (by omega)).symm
    · rfl
  exact cs_lane h.1 (fun σ u f g hu => ms_lane (A := j_A τ) (jA_fr f (by unfold j_sC; omega)) h.1.1 (fun ρ v f2 g2 hv => ⟨z_eq.mpr (by rw [hu, hv]), J_of h f g f2 g2 (h3 2 (by omega)) (h3 3 (by omega))⟩))
theorem q_pusher {τ : x_T} (h : x_J τ) (a1 : Int32) : x_CI 2000 mX11_pusher [.ref 0, .int a1] τ (fun τ1 u => x_CI 2000 mX12_pusher [.ref 345, .int a1] τ1 (fun τ2 v => u = v ∧ x_J τ2)) := by
  have w0 := h.1.1.1
  have h3 : ∀ k, k = 2 ∨ k = 3 → z_Ppus (j_A τ) a1.toInt k = j_A τ k := by
    intro k hk
    unfold z_Ppus
    split
    · rename_i q
      have := of_decide_eq_true q
      exact (Pp_o (by omega) (by omega) (by omega)).symm
    · rfl
  exact cs_pusher h.1 (fun σ u f g hu => ms_pusher (A := j_A τ) (jA_fr f (by unfold j_sC; omega)) h.1.1 (fun ρ v f2 g2 hv => ⟨z_eq.mpr (by rw [hu, hv]), J_of h f g f2 g2 (h3 2 (by omega)) (h3 3 (by omega))⟩))
theorem q_fault {τ : x_T} (h : x_J τ) (a1 : Int32) : x_CI 2000 mX11_fault [.ref 0, .int a1] τ (fun τ1 u => x_CI 2000 mX12_fault [.ref 345, .int a1] τ1 (fun τ2 v => u = v ∧ x_J τ2)) := by
  have f := h.2.2.2.2.1
  refine e_X11_fault ⟨fun q => e_X12_fault ⟨fun r => absurd q r, fun _ => ⟨f.1, h⟩⟩, fun q0 => ⟨fun q => e_X12_fault ⟨fun _ => ⟨fun r => absurd q r, fun _ => ⟨f.2, h⟩⟩, fun r => absurd r q0⟩, fun q1 => e_X12_fault ⟨fun _ => ⟨fun _ => ⟨rfl, h⟩, fun r => absurd r q1⟩, fun r => absurd r q0⟩⟩⟩
/-- the tie when tape and taped alone change -/
theorem J_tape {τ ρ : x_T} (h : x_J τ) (g : ∀ c, ¬ c = 314 → ¬ c = 315 → ¬ c = 345 → ¬ c = 348 → ρ.1 c = τ.1 c) (g4 : ρ.1 345 4 = τ.1 345 4) (g5 : ρ.1 345 5 = τ.1 345 5) (er : ρ.2.2 = τ.2.2) (ht : j_tape ρ) : x_J ρ := by
  have ga : ∀ c, c < 314 ∨ (316 ≤ c ∧ c ≤ 328) ∨ (346 ≤ c ∧ c ≤ 347) ∨ (349 ≤ c ∧ c ≤ 356) → ρ.1 c = τ.1 c := fun c hc => g c (by omega) (by omega) (by omega) (by omega)
  have eA : j_A ρ = j_A τ := by funext k; unfold j_A; rw [ga 346 (by omega)]
  have eI : j_I ρ = j_I τ := by funext k; unfold j_I; rw [ga 347 (by omega)]
  obtain ⟨k1, k2, k3, k4, k5, k6⟩ := h
  refine ⟨?_, ?_, ?_, ht, ?_, ?_⟩
  · rw [eA]; exact hf_fr k1 (fun c hc => ga c (by omega))
  · rw [eI]; exact hf_fr k2 (fun c hc => ga c (by omega))
  · unfold j_mis at k3 ⊢
    rw [eA, eI, ga 0 (by omega), er]; exact k3
  · unfold j_flt at k5 ⊢
    rw [ga 319 (by omega), g4, g5]; exact k5
  · intro t ht
    rw [eA] at ht
    have := k3.2.1
    exact text_fr (by omega) (k6 t ht) (fun c hc => ga c (by omega))
theorem q_end {τ : x_T} (h : x_J τ) (a1 : Int32) : x_CI 2000 mX11_end [.ref 0, .int a1] τ (fun τ1 u => x_CI 2000 mX12_end [.ref 345, .int a1] τ1 (fun τ2 v => u = v ∧ x_J τ2)) := by
  have tp := h.2.2.2.1
  have t1 := tp.1
  have no : ¬ (0 ≤ a1.toInt ∧ a1.toInt ≤ (τ.1 345 3).toInt) → x_CI 2000 mX12_end [.ref 345, .int a1] τ (fun τ2 v => (-1 : Int32) = v ∧ x_J τ2) := by
    intro z
    exact e_X12_end (ml_in (fun q1 q2 => absurd ⟨q1, q2⟩ z) (fun q => ⟨fun r => absurd rfl r, fun _ => ⟨rfl, h⟩⟩))
  refine e_X11_end ⟨fun q => no ?_, fun q1 => ⟨fun q2 t2 e2 => ?_, fun q => no ?_⟩⟩
  · rw [z_lt] at q; simp only [Int32.reduceToInt] at q; omega
  · rw [z_lt] at q1
    rw [z_le, t1] at q2
    simp only [Int32.reduceToInt] at q1
    have e345 : t2.1 345 = τ.1 345 := by rw [e2]; exact w1_c (by omega)
    refine e_X12_end (ml_in (fun _ _ => ⟨fun _ t3 e3 => ⟨rfl, ?_⟩, fun r => absurd r z_10⟩) (fun q => ?_))
    · refine J_tape h (fun c h1 h2 h3 h4 => by rw [e3, w1_c h3, e2, w1_c h1]) (by rw [e3, w1_at, if_neg (by omega), e345]) (by rw [e3, w1_at, if_neg (by omega), e345]) (by rw [e3, e2]; rfl) ?_
      have q3 : (t3.1 345 3).toInt = a1.toInt := by rw [e3, w1_at, if_pos ⟨rfl, rfl⟩]
      refine ⟨by rw [q3, e3, w1_c (by omega), e2, w1_at, if_pos ⟨rfl, rfl⟩], by rw [q3]; omega, by rw [q3]; have := tp.2.2.1; omega, fun k hk => ?_⟩
      rw [e3, w1_c (by omega), w1_c (by omega), e2, w1_c (by omega), w1_c (by omega)]
      exact tp.2.2.2 k hk
    · rw [e345] at q; simp only [Int32.reduceToInt] at q; omega
  · rw [z_le, t1] at q; omega
/-! the text that rules -/
theorem shd_140 {k : Nat} (h : k < 4) : x_sh (139 + 1 + 9 * k) = (9, 10) := by
  have : k = 0 ∨ k = 1 ∨ k = 2 ∨ k = 3 := by omega
  rcases this with rfl | rfl | rfl | rfl <;> rfl
theorem cl_textTold {d : Nat} {v : Int32} {n : Int} {τ : x_T} {K : x_T → Option Nat → Prop} (hn : (τ.1 0 4).toInt = n) (hn4 : n ≤ 4) (h0 : ¬ (0 ≤ v.toInt ∧ v.toInt < n) → K τ none) (h1 : 0 ≤ v.toInt → v.toInt < n → x_sh (140 + 9 * v.toInt.toNat) = (9, 10) → K τ (some (140 + 9 * v.toInt.toNat))) : x_CR d mX11_textTold [.ref 0, .int v] τ K := by
  refine e_X11_textTold ⟨fun q => h0 ?_, fun q1 => ⟨fun q => h0 ?_, fun q2 => ⟨fun q => h0 ?_, fun q3 => ?_⟩⟩⟩
  · rw [z_lt] at q; simp only [Int32.reduceToInt] at q; omega
  · rw [z_le, hn] at q; omega
  · rw [z_le] at q; simp only [Int32.reduceToInt] at q; omega
  · rw [z_lt] at q1
    rw [z_le, hn] at q2
    rw [z_le] at q3
    simp only [Int32.reduceToInt] at q1 q3
    refine ⟨ix_n (by omega), fun c1 e1 => ?_⟩
    have hs : x_sh (140 + 9 * v.toInt.toNat) = (9, 10) := shd_140 (by omega)
    rw [z_cl] at e1
    subst e1
    exact ⟨hs, h1 (by omega) (by omega) hs⟩
theorem cl_letRule {d : Nat} {v : Int32} {n : Int} {τ : x_T} {K : x_T → Prop} (hn : (τ.1 0 4).toInt = n) (hn4 : n ≤ 4) (hv : -1 ≤ v.toInt ∧ v.toInt < n) (h : ∀ σ : x_T, (∀ c, ¬ c = 0 → σ.1 c = τ.1 c) → (∀ k, ¬ k = 5 → σ.1 0 k = τ.1 0 k) → σ.1 0 5 = v → σ.2.2.2 = (if v.toInt = -1 then none else some (140 + 9 * v.toInt.toNat)) → K σ) : x_CV (d + 1) mX11_letRule [.ref 0, .int v] τ K := by
  refine e_X11_letRule (fun t1 e1 => cl_textTold (n := n) (by rw [e1, w1_at, if_neg (by omega)]; exact hn) hn4 (fun z t4 e4 => ?_) (fun z1 z2 _ t4 e4 => ?_))
  · subst e4
    refine h _ (fun c hc => by rw [e1]; exact w1_c hc) (fun k hk => by rw [e1, w1_at, if_neg (fun z => hk z.2)]) (by rw [e1, w1_at, if_pos ⟨rfl, rfl⟩]) ?_
    rw [if_pos (by omega)]
  · subst e4
    refine h _ (fun c hc => by rw [e1]; exact w1_c hc) (fun k hk => by rw [e1, w1_at, if_neg (fun z => hk z.2)]) (by rw [e1, w1_at, if_pos ⟨rfl, rfl⟩]) ?_
    rw [if_neg (by omega)]
theorem q_by {τ : x_T} (h : x_J τ) (a1 : Int32) : x_CI 2000 mX11_by [.ref 0, .int a1] τ (fun τ1 u => x_CI 2000 mX12_by [.ref 345, .int a1] τ1 (fun τ2 v => u = v ∧ x_J τ2)) := by
  obtain ⟨k1, k2, k3, k4, k5, k6⟩ := h
  have m := k3.2.1
  have m1 := k3.1.1
  have hJ : x_J τ := ⟨k1, k2, k3, k4, k5, k6⟩
  have ok : -1 ≤ a1.toInt → a1.toInt < j_A τ 2 → x_WI 2000 mX11_by (fun τ1 u => x_CI 2000 mX12_by [.ref 345, .int a1] τ1 (fun τ2 v => u = v ∧ x_J τ2)) 15 [(0, .ref 0), (1, .int a1)] [] τ := by
    intro h1 h2
    refine k_X11_by_15 (cl_letRule m1 (by omega) ⟨h1, h2⟩ (fun σ s1 s2 s3 s4 => ?_))
    have s46 : σ.1 346 = τ.1 346 := s1 346 (by omega)
    have fin : x_WI 2000 mX12_by (fun τ2 v => (1 : Int32) = v ∧ x_J τ2) 23 [(0, .ref 345), (1, .int a1)] [] σ := by
      refine k_X12_by_23 (fun t1 e1 => ⟨rfl, ?_⟩)
      have g : ∀ c, ¬ c = 0 → ¬ c = 346 → t1.1 c = τ.1 c := fun c h0 h6 => by rw [e1, w1_c h6, s1 c h0]
      have eI : j_I t1 = j_I τ := by funext k; unfold j_I; rw [g 347 (by omega) (by omega)]
      have eA : ∀ k, ¬ k = 3 → j_A t1 k = j_A τ k := fun k hk => by unfold j_A; rw [e1, w1_at, if_neg (fun z => hk z.2), s46]
      have e3 : j_A t1 3 = a1.toInt := by unfold j_A; rw [e1, w1_at, if_pos ⟨rfl, rfl⟩]
      refine ⟨?_, ?_, ?_, ?_, ?_, ?_⟩
      · have q : x_q (j_A τ) (j_A t1) := fun k hk hn => (eA k (by omega)).symm
        obtain ⟨g1, g2, g3, g4, g5⟩ := k1
        refine ⟨wA_cg q g1, cl_cg q (clB_fr g2 (fun c hc => g c (by omega) (by omega))), wD_cg (eA 0 (by omega)).symm (eA 1 (by omega)).symm (fun k hk => (eA _ (by omega)).symm) g3, cd_cg (cd_fr g4 (g _ (by omega) (by omega)) (g _ (by omega) (by omega)) (g _ (by omega) (by omega)) (g _ (by omega) (by omega))) (fun k hk => (eA _ (by omega)).symm), cs_cg (eA 0 (by omega)).symm (eA 1 (by omega)).symm (eA 4 (by omega)).symm (fun k hk => (eA _ (by omega)).symm) (cs_fr g5 (fun c hc => g c (by omega) (by omega)))⟩
      · rw [eI]; exact hf_fr k2 (fun c hc => g c (by omega) (by omega))
      · unfold j_mis at k3 ⊢
        have t0 : t1.1 0 = σ.1 0 := by rw [e1]; exact w1_c (by omega)
        have tr : t1.2.2.2 = σ.2.2.2 := by rw [e1]; rfl
        rw [eI, eA 2 (by omega), e3, t0, s2 4 (by omega), s2 9 (by omega), s2 10 (by omega), s3, tr]
        exact ⟨⟨k3.1.1, rfl, k3.1.2.2⟩, by omega, s4⟩
      · unfold j_tape at k4 ⊢
        rw [g 314 (by omega) (by omega), g 345 (by omega) (by omega), g 315 (by omega) (by omega), g 348 (by omega) (by omega)]; exact k4
      · unfold j_flt at k5 ⊢
        rw [g 319 (by omega) (by omega), g 345 (by omega) (by omega)]; exact k5
      · intro t ht
        rw [eA 2 (by omega)] at ht
        exact text_fr (by omega) (k6 t ht) (fun c hc => g c (by omega) (by omega))
    refine e_X12_by ⟨fun _ => fin, fun q => ml_in (fun _ _ => ⟨fun _ => fin, fun r => absurd r z_10⟩) (fun r => ?_)⟩
    have m2 : (σ.1 346 2).toInt = j_A τ 2 := by rw [s46]; rfl
    rw [z_eq] at q
    rw [z_sub (by rw [m2]; simp only [Int32.reduceToInt]; omega), m2] at r
    have e1 : (-1 : Int32).toInt = -1 := by decide
    simp only [Int32.reduceToInt] at r q
    omega
  have n1 : (-1 : Int32).toInt = -1 := by decide
  refine e_X11_by ⟨fun q => ok (by rw [q]; omega) (by rw [q]; omega), fun q => cl_textTold m1 (by omega) (fun z => ⟨fun c e => (by cases e), fun _ => ?_⟩) (fun z1 z2 hs => ⟨fun c e => ?_, fun e => (by cases e)⟩)⟩
  · refine e_X12_by ⟨fun r => absurd r q, fun _ => ml_in (fun r1 r2 => ?_) (fun r => ⟨fun s => absurd rfl s, fun _ => ⟨rfl, hJ⟩⟩)⟩
    have m2 : (τ.1 346 2).toInt = j_A τ 2 := rfl
    rw [z_sub (by rw [m2]; simp only [Int32.reduceToInt]; omega), m2] at r2
    simp only [Int32.reduceToInt] at r1 r2
    omega
  · cases e
    exact ⟨hs, ok (by omega) (by omega)⟩
