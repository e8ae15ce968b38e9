/-! the laws out of the text that rules -/
def y_gC (τ : x_T) (w : Nat) (o : Option ((Int → Int → Int) → (Nat → Int) → Int)) : Prop := ∀ σ : x_T, (∀ c, 139 ≤ c ∧ c ≤ 175 → σ.1 c = τ.1 c) → σ.2.2.2 = τ.2.2.2 → ∀ (d : Nat) (K : x_T → Int32 → Prop),
  (o = none → K σ 0 → x_CI (d + 1) mX4_rules [.ref 329, .int (nI w)] σ K)
  ∧ (∀ f, o = some f → (K σ 1 → x_CI (d + 1) mX4_rules [.ref 329, .int (nI w)] σ K)
    ∧ ∀ (A : Nat → Int), w_A A → x_cl 1 σ A → ∀ env : Nat → Int, (∀ j, x_al w j → -1000000 ≤ env j ∧ env j ≤ 1000000) → (∀ j, x_al w j → (σ.1 330 (x_wd j)).toInt = env j) → (∀ (ρ : x_T) (v : Int32), x_fr (fun c => c = 329 ∨ c = 331) σ ρ → v.toInt = f (z_far A) env → K ρ v) → x_CI (d + 1) mX4_said [.ref 329, .int (nI w)] σ K)
def y_gM (τ : x_T) (w : Nat) (o : Option ((Int → Int → Int) → (Nat → Int) → Int)) : Prop :=
  (o = none → ∀ σ : x_T, σ.1 346 3 = τ.1 346 3 → (∀ c, 349 ≤ c ∧ c ≤ 356 → σ.1 c = τ.1 c) → ∀ (d : Nat) (K : x_T → Int32 → Prop), K σ (-1) → x_CI d mX12_ordersOf [.ref 345, .int (nI w)] σ K)
  ∧ (∀ f, o = some f → ∃ p : Int32, ¬ p = -1 ∧ ∀ σ : x_T, σ.1 346 3 = τ.1 346 3 → (∀ c, 349 ≤ c ∧ c ≤ 356 → σ.1 c = τ.1 c) → ∀ (d : Nat),
    (∀ (K : x_T → Int32 → Prop), K σ p → x_CI d mX12_ordersOf [.ref 345, .int (nI w)] σ K)
    ∧ ∀ (A : Nat → Int), w_A A → (σ.1 346 0).toInt = A 0 → (∀ k, k < 64 → (σ.1 369 k).toInt = z_W A (k / 8) (k % 8)) → ∀ (K : x_T → Int64 → Prop) (env : Nat → Int), (∀ j, x_al w j → -1000000 ≤ env j ∧ env j ≤ 1000000) → (∀ j, x_al w j → (σ.1 371 j).toInt = env j) → (∀ (ρ : x_T) (v : Int64), ρ.1 = σ.1 → ρ.2.2 = σ.2.2 → v.toInt = f (z_far A) env → K ρ v) → x_CL (d + 1 + 1) mX12_saysOf [.ref 345, .int p] σ K)
theorem g_HL {τ : x_T} (h : ∀ w, w < 4 → ∃ o, y_gC τ w o ∧ y_gM τ w o) : ∃ L : x_L2, x_LC2 τ L ∧ x_LM2 τ L := by
  obtain ⟨o0, c0, m0⟩ := h 0 (by omega)
  obtain ⟨o1, c1, m1⟩ := h 1 (by omega)
  obtain ⟨o2, c2, m2⟩ := h 2 (by omega)
  obtain ⟨o3, c3, m3⟩ := h 3 (by omega)
  refine ⟨fun w => if w = 0 then o0 else if w = 1 then o1 else if w = 2 then o2 else o3, fun σ s1 s2 w hw d K => ?_, fun w hw => ?_⟩
  · have : w = 0 ∨ w = 1 ∨ w = 2 ∨ w = 3 := by omega
    rcases this with rfl | rfl | rfl | rfl
    · exact c0 σ s1 s2 d K
    · exact c1 σ s1 s2 d K
    · exact c2 σ s1 s2 d K
    · exact c3 σ s1 s2 d K
  · have : w = 0 ∨ w = 1 ∨ w = 2 ∨ w = 3 := by omega
    rcases this with rfl | rfl | rfl | rfl
    · exact m0
    · exact m1
    · exact m2
    · exact m3
theorem ml_orders {τ σ : x_T} {t w n d : Nat} {K : x_T → Int32 → Prop} (ht : t < 4) (hn : n ≤ 24) (h3 : (σ.1 346 3).toInt = t) (h9 : (σ.1 349 t).toInt = n) (Q : Nat → Int32) (hQ0 : Q 0 = -1) (hQ : ∀ k, k < n → (¬ (σ.1 350 (24 * t + k)).toInt = w → Q (k + 1) = Q k) ∧ ((σ.1 350 (24 * t + k)).toInt = w → Q (k + 1) = σ.1 351 (24 * t + k))) (hw : w < 4) (hK : K σ (Q n)) : x_CI d mX12_ordersOf [.ref 345, .int (nI w)] σ K := by
  have e3 : σ.1 346 3 = nI t := z_of (by omega) h3
  have zw : (nI w).toInt = w := z_n (by omega)
  refine e_X12_ordersOf ?_
  have loop : ∀ k, k ≤ n → (fun k => x_WI d mX12_ordersOf K 4 [(0, .ref 345), (1, .int (nI w)), (2, .int (Q k)), (3, .int (nI k))] [] σ) k := by
    refine z_down ?_ ?_
    · refine k_X12_ordersOf_4 ⟨fun _ => hK, fun _ => ?_⟩
      rw [e3, nI_clamp (by omega)]
      exact ⟨vp_in_nI (by omega) (by decide), fun _ => hK, fun q => absurd (by rw [z_le, h9, z_n (by omega)]; omega) q⟩
    · intro k hk ih
      have zk : (nI k).toInt = k := z_n (by omega)
      have ix : (24 : Int32) * nI t + nI k = nI (24 * t + k) := by rw [show (24 : Int32) * nI t = nI (24 * t) from n_mul 24 t, n_add]
      obtain ⟨q0, q1⟩ := hQ k hk
      refine k_X12_ordersOf_4 ⟨fun q => ?_, fun _ => ?_⟩
      · have : (σ.1 346 3).toInt = -1 := by rw [q]; decide
        omega
      rw [e3, nI_clamp (by omega), ix]
      refine ⟨vp_in_nI (by omega) (by decide), fun q => ?_, fun _ y1 e1 => ?_⟩
      · rw [z_le, h9, zk] at q; omega
      subst e1
      rw [nI_clamp (by omega)]
      refine ⟨vp_in_nI (by omega) (by decide), fun q => k_X12_ordersOf_64 (fun y1 e1 => ?_), fun q => ⟨vp_in_nI (by omega) (by decide), k_X12_ordersOf_64 (fun y1 e1 => ?_)⟩⟩
      · rw [z_eq, zw] at q
        rw [e1, ← nI_succ, ← q0 q]; exact ih
      · rw [z_eq, zw] at q
        rw [e1, ← nI_succ, ← q1 q]; exact ih
  have := loop 0 (by omega)
  simp only [hQ0] at this
  exact this
theorem HL : x_HL := by
  intro τ h
  obtain ⟨-, -, k3, -, -, k6⟩ := h
  have m := k3.2.1
  have ru := k3.2.2
  have j3 : (τ.1 346 3).toInt = j_A τ 3 := rfl
  apply g_HL
  intro w hw
  by_cases r : j_A τ 3 = -1
  · rw [if_pos r] at ru
    refine ⟨none, fun σ s1 s2 d K => ⟨fun _ hK => e_X4_rules ⟨fun _ => hK, fun c1 e => ?_⟩, fun f hf => by cases hf⟩, fun _ σ s1 s2 d K hK => e_X12_ordersOf (k_X12_ordersOf_4 ⟨fun _ => hK, fun q => absurd ?_ q⟩), fun f hf => by cases hf⟩
    · rw [s2, ru] at e; cases e
    · rw [s1, z_eq, j3, r]; decide
  · rw [if_neg r] at ru
    obtain ⟨t, ht⟩ : ∃ t : Nat, j_A τ 3 = t := ⟨(j_A τ 3).toNat, by omega⟩
    have ht2 : (j_A τ 3).toNat = t := by omega
    rw [ht2] at ru
    have t4 : t < 4 := by omega
    have hs9 : x_sh (140 + 9 * t) = (9, 10) := shd_140 t4
    have zw : (nI w).toInt = w := z_n (by omega)
    have cw : (nI w).toNatClampNeg = w := nI_clamp (by omega)
    obtain ⟨n, hn24, hn1, hn2, hcl, hlaw⟩ := k6 t (by omega)
    have hasL : ∀ (σ : x_T) (d : Nat) (Q : x_T → Int32 → Prop), (∀ c, 139 ≤ c ∧ c ≤ 175 → σ.1 c = τ.1 c) → ((τ.1 (140 + 9 * t + 6) w).toInt ≤ (τ.1 (140 + 9 * t + 5) w).toInt → Q σ 0) → (¬ (τ.1 (140 + 9 * t + 6) w).toInt ≤ (τ.1 (140 + 9 * t + 5) w).toInt → Q σ 1) → x_CI d mX9_hasLaw [.ref (140 + 9 * t), .int (nI w)] σ Q := by
      intro σ d Q s1 q0 q1
      refine e_X9_hasLaw hs9 ⟨fun q => ?_, fun _ => ⟨fun q => ?_, fun _ => ⟨vp_in_nI (by omega) (by decide), vp_in_nI (by omega) (by decide), fun q => q0 ?_, fun q => q1 ?_⟩⟩⟩
      · rw [z_lt, zw] at q; simp only [Int32.reduceToInt] at q; omega
      · rw [z_le, zw] at q; simp only [Int32.reduceToInt] at q; omega
      · rw [cw, z_le, s1 _ (by omega), s1 _ (by omega)] at q; exact q
      · rw [cw, z_le, s1 _ (by omega), s1 _ (by omega)] at q; exact q
    rcases hlaw w hw with ⟨hno, hnc⟩ | ⟨k, P, hk, hkw, huni, hP, F, N, O, V, T, hF, hFN, hN0, hF300, hPN, hT, hcode, hend⟩
    · refine ⟨none, fun σ s1 s2 d K => ⟨fun _ hK => e_X4_rules ⟨fun e => ?_, fun c1 e => ⟨140 + 9 * t, by rw [s2, ru], hs9, hasL σ d _ s1 (fun _ => ⟨fun _ => hK, fun z => absurd rfl z⟩) (fun z => absurd hno z)⟩⟩, fun f hf => by cases hf⟩, fun _ σ s1 s2 d K hK => ?_, fun f hf => by cases hf⟩
      · rw [s2, ru] at e; cases e
      · refine ml_orders (τ := τ) t4 hn24 (by rw [s1, j3, ht]) (by rw [s2 349 (by omega)]; exact hn2) (fun _ => -1) rfl (fun k hk => ⟨fun _ => rfl, fun z => ?_⟩) hw hK
        rw [s2 350 (by omega)] at z
        exact absurd z (hnc k hk)
    · refine ⟨some (fun far env => y_ev O V N far env N 0 []), fun σ s1 s2 d K => ⟨fun z => (by cases z), fun f hf => ?_⟩, fun z => (by cases z), fun f hf => ?_⟩
      · cases hf
        refine ⟨fun hK => e_X4_rules ⟨fun e => ?_, fun c1 e => ⟨140 + 9 * t, by rw [s2, ru], hs9, hasL σ d _ s1 (fun z => ?_) (fun _ => ⟨fun z => absurd z z_10, fun _ => hK⟩)⟩⟩, fun A wA hcl2 env hb he hK => ?_⟩
        · rw [s2, ru] at e; cases e
        · rw [hF, hFN] at z; omega
        · refine e_X4_said ⟨fun c1 e1 t2 e2 => ?_, fun e => ?_⟩
          · have r2 : t2.2.2.2 = some (140 + 9 * t) := by rw [e2, w1_2, s2, ru]
            have t2c : ∀ c, ¬ c = 329 → t2.1 c = σ.1 c := fun c hc => by rw [e2, w1_c hc]
            have v6 : t2.1 (140 + 9 * t + 6) w = nI (F + N) := z_of (by omega) (by rw [t2c _ (by omega), s1 _ (by omega), hFN]; omega)
            have v5 : t2.1 (140 + 9 * t + 5) w = nI F := z_of (by omega) (by rw [t2c _ (by omega), s1 _ (by omega), hF])
            refine ⟨140 + 9 * t, r2, hs9, e_X9_lawEnd hs9 ⟨fun q => ?_, fun _ => ⟨fun q => ?_, fun _ => ⟨vp_in_nI (by omega) (by decide), 140 + 9 * t, r2, hs9, e_X9_lawStart hs9 ⟨fun q => ?_, fun _ => ⟨fun q => ?_, fun _ => ⟨vp_in_nI (by omega) (by decide), ?_⟩⟩⟩⟩⟩⟩⟩
            · rw [z_lt, zw] at q; simp only [Int32.reduceToInt] at q; omega
            · rw [z_le, zw] at q; simp only [Int32.reduceToInt] at q; omega
            · rw [z_lt, zw] at q; simp only [Int32.reduceToInt] at q; omega
            · rw [z_le, zw] at q; simp only [Int32.reduceToInt] at q; omega
            · rw [cw, v6, v5]
              have cc : x_cl 1 t2 A := clB_fr hcl2 (fun c hc => t2c c (by omega))
              have kc : y_kc t2 t2 [] := ⟨fr_r _ _, by rw [e2, w1_at, if_pos ⟨rfl, rfl⟩]; rfl, trivial⟩
              refine cl_run (τ := t2) (A := A) (O := O) (V := V) (T := T) (w := w) (env := env) t4 r2 hF300 hT (fun i hi => ?_) wA cc (fun j hj => hb j hj) (fun j hj => by rw [t2c 330 (by omega)]; exact he j hj) N 0 [] (by omega) (by omega) (by rw [hT.1]; trivial) t2 0 kc (by simp only [Int32.reduceToInt]; omega) (fun ρ u fρ hu => hK ρ u (fr_t (by rw [e2]; exact fr_w (fr_r _ _) (Or.inl rfl)) fρ) hu)
              obtain ⟨-, -, x3, x4⟩ := hcode i hi
              rw [t2c _ (by omega), t2c _ (by omega), s1 _ (by omega), s1 _ (by omega)]
              exact ⟨x3, x4⟩
          · rw [s2, ru] at e; cases e
      · cases hf
        have eP : τ.1 351 (24 * t + k) = nI P := z_of (by omega) hP
        refine ⟨nI P, fun z => ?_, fun σ s1 s2 d => ⟨fun K hK => ?_, fun A wA hm hfar K env hb he hK => ?_⟩⟩
        · have : (nI P).toInt = -1 := by rw [z]; decide
          rw [z_n (by omega)] at this
          omega
        · refine ml_orders (τ := τ) t4 hn24 (by rw [s1, j3, ht]) (by rw [s2 349 (by omega)]; exact hn2) (fun k' => if k < k' then nI P else -1) rfl (fun k' hk' => ⟨fun z => ?_, fun z => ?_⟩) hw (by rw [if_pos hk]; exact hK)
          · rw [s2 350 (by omega)] at z
            have : ¬ k' = k := fun y => z (by rw [y]; exact hkw)
            by_cases y : k < k'
            · rw [if_pos y, if_pos (by omega)]
            · rw [if_neg y, if_neg (by omega)]
          · rw [s2 350 (by omega)] at z
            have := huni k' hk' z
            rw [this, if_pos (by omega), s2 351 (by omega), eP]
        · refine e_X12_saysOf ?_
          refine ml_run (τ := σ) (A := A) (O := O) (V := V) (T := T) (w := w) (env := env) (by omega) hT (fun i hi => ?_) (by rw [s2 355 (by omega)]; exact hend) wA hm hfar (fun j hj => hb j hj) he N 0 [] (by omega) (by omega) (by rw [hT.1]; trivial) σ ⟨⟨rfl, rfl⟩, trivial⟩ (fun ρ u f1 f2 hu => hK ρ u f1 f2 hu)
          obtain ⟨x1, x2, -, -⟩ := hcode i hi
          rw [s2 355 (by omega), s2 356 (by omega)]
          exact ⟨x1, x2⟩
