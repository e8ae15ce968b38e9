/-! arrives -/
def z_r5 (A : Nat → Int) (L : x_L) (e : Nat → Int) : Nat → Int := z_set (z_roll A L e) 5 (z_roll A L e 5 + 1)
def z_ar (A : Nat → Int) (L : x_L) : Nat → Nat → (Nat → Int) → Int
  | 0, _, _ => -1
  | f + 1, k, e => if 9999 ≤ e 5 then -1 else if z_r5 A L e 2 = 0 then (k : Int) else z_ar A L f (k + 1) (z_r5 A L e)
theorem roll_cg {A e e' : Nat → Int} {L : x_L} (h : ∀ j, j < 7 → e j = e' j) : ∀ j, j < 7 → z_roll A L e j = z_roll A L e' j := by
  have h0 := h 0 (by omega)
  have h1 := h 1 (by omega)
  have h2 := h 2 (by omega)
  have h3 := h 3 (by omega)
  have h4 := h 4 (by omega)
  have h5 := h 5 (by omega)
  have hl : z_rl A e = z_rl A e' := by unfold z_rl; rw [h2, h3]
  have hw : z_rw A L e = z_rw A L e' := by
    unfold z_rw z_wear z_set
    simp only [hl, h0, h4, h5, reduceIte, Nat.reduceEqDiff]
  intro j hj
  have hjj := h j hj
  unfold z_roll z_lie z_set
  rw [hl, hw, h1, h2]
  split
  · exact hjj
  · split
    · simp only []
      grind
    · split
      · simp only []
        grind
      · simp only []
        grind
theorem pd_r5 {A e e' : Nat → Int} {L : x_L} (h : ∀ j, j < 7 → e' j = e j) : ∀ j, j < 7 → z_pd A L e' j = z_r5 A L e j := by
  intro j hj
  unfold z_pd z_r5
  rw [z_set_e, z_set_e, z_fd_lt (by omega), z_fd_lt hj, roll_cg h j hj, roll_cg h 5 (by omega)]
theorem q_arrives (hL : x_HL) {τ : x_T} (h : x_J τ) : x_CI 2000 mX11_arrives [.ref 0] τ (fun τ1 u => x_CI 2000 mX12_arrives [.ref 345] τ1 (fun τ2 v => u = v ∧ x_J τ2)) := by
  obtain ⟨L, l1, l2⟩ := hL τ h
  generalize hA : j_A τ = A
  have hJ := h.1
  rw [hA] at hJ
  have wA := hJ.1
  have w0 := wA.1
  have wD : w_D A (z_dy A) := hJ.2.2.1
  have he : x_cd 13 τ (z_dy A) := hJ.2.2.2.1
  have hcc := hc_cc (τ := τ) (A := A) (L := L) ⟨hJ, l1⟩
  have hmm : x_hm τ A L := ⟨hA, l2⟩
  have w2 : 0 ≤ A 132 := wD.2.1.1
  have e2 : (τ.1 13 2).toInt = A 132 := cd_0 he (k := 2) (by omega)
  refine pair_q h (if A 132 = 0 then -1 else z_ar A (x_La L A) 60 1 (z_dy A)) (fun K hK => ?_) (fun σ f K hK => ?_)
  · refine e_X11_arrives ⟨fun q => cl_copyDay rfl rfl (by omega) he (fun σ1 f1 g1 => ?_), fun q => hK _ _ (fr_r _ _) ?_⟩
    · rw [z_lt, e2] at q; simp only [Int32.reduceToInt] at q
      rw [if_neg (by omega)] at hK
      generalize hZ : z_ar A (x_La L A) 60 1 (z_dy A) = Z at hK
      have loop : ∀ (f k : Nat) (e : Nat → Int) (ρ : x_T), k + f = 61 → w_D A e → x_fr (x_sD 341) τ ρ → x_cd 341 ρ e → Z = z_ar A (x_La L A) f k e → x_WI 2000 mX11_arrives K 25 [(0, .ref 0), (1, .int (nI k))] [] ρ := by
        intro f
        induction f with
        | zero =>
          intro k e ρ hk we fρ gρ hz
          refine k_X11_arrives_25 ⟨fun _ => hK _ _ (fr_m sD_x fρ) (by rw [hz]; rfl), fun q => absurd (by rw [z_lt, z_n (by omega)]; simp only [Int32.reduceToInt]; omega) q⟩
        | succ f ih =>
          intro k e ρ hk we fρ gρ hz
          have c5 := cd_0 gρ (k := 5) (by omega)
          have we5 := we.2.2.2.2.2.1
          rw [z_ar] at hz
          refine k_X11_arrives_25 ⟨fun q => ?_, fun _ => ⟨fun q => hK _ _ (fr_m sD_x fρ) ?_, fun q => cl_roll (Or.inr rfl) (cc_fr hcc fρ (sD_cc (Or.inr rfl))) wA gρ we (fun ρ2 f2 g2 t3 e3 => ?_)⟩⟩
          · rw [z_lt, z_n (by omega)] at q; simp only [Int32.reduceToInt] at q; omega
          · rw [z_le, c5] at q; simp only [Int32.reduceToInt] at q
            rw [hz, if_pos q]; rfl
          · rw [z_le, c5] at q; simp only [Int32.reduceToInt] at q
            rw [if_neg q] at hz
            have c52 := cd_0 g2 (k := 5) (by omega)
            have hr5 : z_roll A (x_La L A) e 5 = e 5 := z_roll_5
            have g3 : x_cd 341 t3 (z_r5 A (x_La L A) e) := by
              rw [e3]
              refine cd_w0 g2 (by omega) ?_
              rw [z_add (by rw [c52, hr5]; simp only [Int32.reduceToInt]; omega), c52]; rfl
            have f3 : x_fr (x_sD 341) τ t3 := by rw [e3]; exact fr_w (fr_t fρ f2) (Or.inl (by omega))
            have w3 : w_D A (z_r5 A (x_La L A) e) := wD_5 (wD_roll wA we _) (by rw [hr5]; omega)
            have c2 := cd_0 g3 (k := 2) (by omega)
            refine ⟨fun r y4 e4 => ?_, fun r => hK _ _ (fr_m sD_x f3) ?_⟩
            · rw [z_eq, c2] at r; simp only [Int32.reduceToInt] at r
              rw [if_neg r] at hz
              rw [e4, ← nI_succ]
              exact ih (k + 1) _ _ (by omega) w3 f3 g3 hz
            · rw [z_eq, c2] at r; simp only [Int32.reduceToInt] at r
              rw [if_pos r] at hz
              rw [hz, z_n (by omega)]
      exact loop 60 1 _ σ1 (by omega) wD (fr_m (fun c hc => Or.inl hc) f1) g1 hZ.symm
    · rw [z_lt, e2] at q; simp only [Int32.reduceToInt] at q
      rw [if_pos (by omega)]; rfl
  · have hmσ := hmX_fr hmm f
    refine e_X12_arrives (ml_laysNow hmσ wA (fun σ1 f1 g1 mc1 hm1 => ?_))
    have fx := fr_m s69_x f1
    have r2 : (σ1.1 370 2).toInt = A 132 := g1 2 (by omega)
    refine ⟨fun q => ?_, fun q => hK _ _ fx ?_⟩
    · rw [z_eq, r2] at q; simp only [Int32.reduceToInt] at q
      rw [if_neg q] at hK
      generalize hZ : z_ar A (x_La L A) 60 1 (z_dy A) = Z at hK
      have loop : ∀ (f k : Nat) (e m : Nat → Int) (ρ : x_T), k + f = 61 → w_D A m → x_fr x_sW σ1 ρ → x_md ρ m → (∀ j, j < 7 → m j = e j) → Z = z_ar A (x_La L A) f k e → x_WI 2000 mX12_arrives K 17 [(0, .ref 345), (1, .int (nI k))] [] ρ := by
        intro f
        induction f with
        | zero =>
          intro k e m ρ hk wm fρ gρ hme hz
          refine k_X12_arrives_17 ⟨fun _ => hK _ _ (fr_t fx (fr_m sW_x fρ)) (by rw [hz]; rfl), fun q => absurd (by rw [z_le, z_n (by omega)]; simp only [Int32.reduceToInt]; omega) q⟩
        | succ f ih =>
          intro k e m ρ hk wm fρ gρ hme hz
          have c5 : (ρ.1 370 5).toInt = e 5 := (gρ 5 (by omega)).trans (hme 5 (by omega))
          have h5 := hme 5 (by omega)
          rw [z_ar] at hz
          refine k_X12_arrives_17 ⟨fun q => ?_, fun _ => e_X12_canPass ⟨fun q => ⟨fun _ => hK _ _ (fr_t fx (fr_m sW_x fρ)) ?_, fun z => absurd rfl z⟩, fun q => ⟨fun z => absurd z z_10, fun _ => ml_minutePasses (mc_fr mc1 fρ sW_mc) wA gρ wm (fun ρ2 u f2 g2 _ => ?_)⟩⟩⟩
          · rw [z_le, z_n (by omega)] at q; simp only [Int32.reduceToInt] at q; omega
          · rw [z_le, c5] at q; simp only [Int32.reduceToInt] at q
            rw [hz, if_pos q]; rfl
          · rw [z_le, c5] at q; simp only [Int32.reduceToInt] at q
            rw [if_neg q] at hz
            have hm2 := pd_r5 (A := A) (L := x_La L A) hme
            have c2 : (ρ2.1 370 2).toInt = z_r5 A (x_La L A) e 2 := (g2 2 (by omega)).trans (hm2 2 (by omega))
            refine ⟨fun r y4 e4 => ?_, fun r => hK _ _ (fr_t fx (fr_m sW_x (fr_t fρ f2))) ?_⟩
            · rw [z_eq, c2] at r; simp only [Int32.reduceToInt] at r
              rw [if_neg r] at hz
              rw [e4, ← nI_succ]
              exact ih (k + 1) _ _ _ (by omega) (wD_pd wA wm _ (by omega)) (fr_t fρ f2) g2 hm2 hz
            · rw [z_eq, c2] at r; simp only [Int32.reduceToInt] at r
              rw [if_pos r] at hz
              rw [hz, z_n (by omega)]
      exact loop 60 1 _ _ σ1 (by omega) wD (fr_r _ _) g1 (fun _ _ => rfl) hZ.symm
    · rw [z_eq, r2] at q; simp only [Int32.reduceToInt] at q
      rw [if_pos q]; rfl
