/-! fitting -/
def z_fit (A : Nat → Int) (noon : Nat) : Bool := decide (∀ i, i < (A 5).toNat → z_hour A noon (A (94 + 2 * i)) = A (95 + 2 * i))
theorem cl_fitting {d : Nat} {τ : x_T} {A : Nat → Int} {L : x_L2} {K : x_T → Int32 → Prop} (hJ : x_hf 1 13 17 τ A) (l1 : x_LC2 τ L) (hK : ∀ σ : x_T, x_fr x_sL τ σ → K σ (z_bits (z_fit A) (A 0).toNat)) : x_CI (d + 1 + 1 + 1 + 1) mX0_placesFitting [.ref 339] τ K := by
  have wA := hJ.1
  have w0 := wA.1
  have hc := hJ.2.1
  have wD : w_D A (z_dy A) := hJ.2.2.1
  have he : x_cd 13 τ (z_dy A) := hJ.2.2.2.1
  have wl := wA.2.2.2.2.2.2.1
  have hcc := hc_cc (τ := τ) (A := A) (L := L) ⟨hJ, l1⟩
  obtain ⟨N, hN⟩ : ∃ N : Nat, A 0 = N := ⟨(A 0).toNat, by omega⟩
  have hNt : (A 0).toNat = N := by omega
  obtain ⟨M, hM⟩ : ∃ M : Nat, A 5 = M := ⟨(A 5).toNat, by omega⟩
  have hMt : (A 5).toNat = M := by omega
  rw [hNt] at hK
  have fit : ∀ (σ : x_T) (k : Nat) (P : x_T → Int32 → Prop), x_fr x_sL τ σ → k < N → (∀ ρ : x_T, x_fr x_sL τ ρ → z_fit A k = true → P ρ 1) → (∀ ρ : x_T, x_fr x_sL τ ρ → z_fit A k = false → P ρ 0) → x_CI (d + 1 + 1 + 1) mX0_fits [.ref 339, .int (nI k)] σ P := by
    intro σ0 k P fσ hk h1 h0
    have zk : (nI k).toInt = k := z_n (by omega)
    refine e_X0_fits (?_)
    have loop : ∀ i, i ≤ M → (fun i => (∀ j, j < i → z_hour A k (A (94 + 2 * j)) = A (95 + 2 * j)) → ∀ σ : x_T, x_fr x_sL τ σ → x_WI (d + 1 + 1 + 1) mX0_fits P 10 [(0, .ref 339), (1, .int (nI k)), (2, .ref 7), (3, .int (nI i))] [] σ) i := by
      refine z_down ?_ ?_
      · intro ho σ fσ
        have cs := (cc_fr hcc fσ sL_cc).1.2.2.2.2.2.2.2.1.1
        refine k_X0_fits_10 ⟨fun _ => h1 σ fσ ?_, fun q => absurd (by rw [z_le, cs, z_n (by omega)]; omega) q⟩
        rw [z_fit, hMt, decide_eq_true ho]
      · intro i hi ih ho σ fσ
        have ccσ := cc_fr hcc fσ sL_cc
        have cn := ccσ.1.2.2.2.2.2.2.2.1
        have cs := cn.1
        have zi : (nI i).toInt = i := z_n (by omega)
        have cv := cn.2 i (by omega)
        have ci : (nI i).toNatClampNeg = i := nI_clamp (by omega)
        have wi := wl.2.2 i (by omega) (by omega)
        have nx : ∀ ρ : x_T, x_fr x_sL τ ρ → z_hour A k (A (94 + 2 * i)) = A (95 + 2 * i) → ∀ y : Int32, y = nI i + 1 → x_WI (d + 1 + 1 + 1) mX0_fits P 10 [(0, .ref 339), (1, .int (nI k)), (2, .ref 7), (3, .int y)] [] ρ := by
          intro ρ fρ hv y ey
          rw [ey, ← nI_succ]
          refine ih (fun j hj => ?_) ρ fρ
          by_cases r : j = i
          · rw [r]; exact hv
          · exact ho j (by omega)
        have nz : z_hour A k (A (94 + 2 * i)) ≠ A (95 + 2 * i) → z_fit A k = false := fun hv => by
          rw [z_fit, hMt, decide_eq_false]
          intro z
          exact hv (z i hi)
        refine k_X0_fits_10 ⟨fun q => ?_, fun _ => ⟨fun q => ?_, fun _ => ⟨ix_n (by omega), ?_⟩⟩⟩
        · rw [z_le, cs, zi] at q; omega
        · rw [z_le, zi] at q; simp only [Int32.reduceToInt] at q; omega
        · rw [ci]
          refine cl_hourBy ccσ.1 wA (fun u hu => ⟨ix_n (by omega), fun q => nx σ fσ ?_, fun q => h0 σ fσ (nz ?_)⟩)
          · rw [z_eq, hu, zk] at q; rw [cv.1, cv.2] at q; exact q
          · rw [z_eq, hu, zk] at q; rw [cv.1, cv.2] at q; exact q
    exact loop 0 (by omega) (fun j hj => by omega) σ0 fσ
  refine e_X0_placesFitting (?_)
  have loop : ∀ k, k ≤ N → (fun k => ∀ σ : x_T, x_fr x_sL τ σ → x_WI (d + 1 + 1 + 1 + 1) mX0_placesFitting K 4 [(0, .ref 339), (1, .int (z_bits (z_fit A) k)), (2, .int (nI k))] [] σ) k := by
    refine z_down ?_ ?_
    · intro σ fσ
      have c0 := (cc_fr hcc fσ sL_cc).1.1
      exact k_X0_placesFitting_4 ⟨fun _ => hK σ fσ, fun q => absurd (by rw [z_le, c0, z_n (by omega)]; omega) q⟩
    · intro k hk ih σ fσ
      have c0 := (cc_fr hcc fσ sL_cc).1.1
      have zk : (nI k).toInt = k := z_n (by omega)
      refine k_X0_placesFitting_4 ⟨fun q => ?_, fun _ => fit σ k _ fσ hk (fun ρ fρ hb => ⟨fun z => absurd z z_10, fun _ y3 e3 => k_X0_placesFitting_29 (fun y1 e1 => ?_)⟩) (fun ρ fρ hb => ⟨fun _ => k_X0_placesFitting_29 (fun y1 e1 => ?_), fun z => absurd rfl z⟩)⟩
      · rw [z_le, c0, zk] at q; omega
      · rw [e1, e3, ← nI_succ]
        have := ih ρ fρ
        rw [z_bits, if_pos hb] at this
        exact this
      · rw [e1, ← nI_succ]
        have := ih ρ fρ
        rw [z_bits, hb] at this
        exact this
  exact loop 0 (by omega) τ (fr_r _ _)
theorem ml_fitting {d : Nat} {τ : x_T} {A : Nat → Int} {L : x_L2} {K : x_T → Int32 → Prop} (hmm : x_hm τ A L) (wH : w_H A) (hK : ∀ σ : x_T, x_fr x_sc τ σ → x_md σ (z_dy A) → x_mc σ A (x_La L A) → x_hm σ A L → K σ (z_bits (z_fit A) (A 0).toNat)) : x_CI (d + 1 + 1 + 1 + 1 + 1) mX12_fitting [.ref 345] τ K := by
  have wA := wH.1
  have w0 := wA.1
  have wD := wH.2.1
  have wl := wA.2.2.2.2.2.2.1
  obtain ⟨N, hN⟩ : ∃ N : Nat, A 0 = N := ⟨(A 0).toNat, by omega⟩
  have hNt : (A 0).toNat = N := by omega
  obtain ⟨M, hM⟩ : ∃ M : Nat, A 5 = M := ⟨(A 5).toNat, by omega⟩
  have hMt : (A 5).toNat = M := by omega
  rw [hNt] at hK
  refine e_X12_fitting (ml_laysNow hmm wA (fun σ1 f1 g1 mc1 hm1 => ?_))
  have loop : ∀ k, k ≤ N → (fun k => ∀ σ : x_T, x_fr x_sN σ1 σ → x_WI (d + 1 + 1 + 1 + 1 + 1) mX12_fitting K 8 [(0, .ref 345), (1, .int (z_bits (z_fit A) k)), (2, .int (nI k))] [] σ) k := by
    refine z_down ?_ ?_
    · intro σ fσ
      have mcσ := mc_fr mc1 fσ sN_mc
      refine k_X12_fitting_8 ⟨fun _ => hK σ (fr_t (fr_m s69_x f1) (fr_m sN_x fσ)) (md_sN g1 fσ) mcσ ?_, fun q => absurd (by rw [z_le, mcσ.1 0 (by omega) (by omega), z_n (by omega)]; omega) q⟩
      exact hm_fr hm1 (fr_m sN_sM fσ) (by rw [jA_fr fσ (by unfold x_sN; omega), hm1.1]) rfl
    · intro k hk ih σ fσ
      have zk : (nI k).toInt = k := z_n (by omega)
      refine k_X12_fitting_8 ⟨fun q => ?_, fun _ => ?_⟩
      · rw [z_le, (mc_fr mc1 fσ sN_mc).1 0 (by omega) (by omega), zk] at q; omega
      have inner : ∀ i, i ≤ M → (fun i => ∀ (v : Int32), v = z_b (decide (∀ j, j < i → z_hour A k (A (94 + 2 * j)) = A (95 + 2 * j))) → ∀ σ : x_T, x_fr x_sN σ1 σ → x_WI (d + 1 + 1 + 1 + 1 + 1) mX12_fitting K 23 [(0, .ref 345), (1, .int (z_bits (z_fit A) k)), (2, .int (nI k)), (3, .int v), (4, .int (nI i))] [] σ) i := by
        refine z_down ?_ ?_
        · intro v hv σ fσ
          have mcσ := mc_fr mc1 fσ sN_mc
          have hb : z_fit A k = decide (∀ j, j < M → z_hour A k (A (94 + 2 * j)) = A (95 + 2 * j)) := by rw [z_fit, hMt]
          rw [← hb] at hv
          refine k_X12_fitting_23 ⟨fun _ => ⟨fun q => k_X12_fitting_72 (fun y1 e1 y2 e2 => ?_), fun q => k_X12_fitting_72 (fun y1 e1 y2 e2 => ?_)⟩, fun q => absurd (by rw [z_le, mcσ.1 5 (by omega) (by omega), z_n (by omega)]; omega) q⟩
          · rw [hv, z_b0] at q
            rw [e2, ← nI_succ, e1, Int32.or_zero]
            have := ih σ fσ
            rw [z_bits, q] at this
            exact this
          · have hb2 : z_fit A k = true := by
              cases hb3 : z_fit A k
              · rw [hv, hb3] at q; exact absurd rfl q
              · rfl
            rw [e2, ← nI_succ, e1]
            have := ih σ fσ
            rw [z_bits, if_pos hb2] at this
            exact this
        · intro i hi ihi v hv σ fσ
          have mcσ := mc_fr mc1 fσ sN_mc
          have zi : (nI i).toInt = i := z_n (by omega)
          have wi := wl.2.2 i (by omega) (by omega)
          have nx : ∀ (ρ : x_T) (s : Int32), x_fr x_sN σ1 ρ → s = z_b (decide (∀ j, j < i + 1 → z_hour A k (A (94 + 2 * j)) = A (95 + 2 * j))) → x_WI (d + 1 + 1 + 1 + 1 + 1) mX12_fitting K 53 [(0, .ref 345), (1, .int (z_bits (z_fit A) k)), (2, .int (nI k)), (4, .int (nI i))] [.int s] ρ := by
            intro ρ s fρ hs
            refine k_X12_fitting_53 (fun y1 e1 => ?_)
            rw [e1, ← nI_succ]
            exact ihi s hs ρ fρ
          have nx0 : ∀ (ρ : x_T), x_fr x_sN σ1 ρ → ¬ (∀ j, j < i + 1 → z_hour A k (A (94 + 2 * j)) = A (95 + 2 * j)) → x_WI (d + 1 + 1 + 1 + 1 + 1) mX12_fitting K 52 [(0, .ref 345), (1, .int (z_bits (z_fit A) k)), (2, .int (nI k)), (4, .int (nI i))] [] ρ := fun ρ fρ z => k_X12_fitting_52 (nx ρ 0 fρ (by rw [decide_eq_false z]; rfl))
          have i2 : (2 : Int32) * nI i = nI (2 * i) := n_mul 2 i
          have iB : (94 : Int32) + nI (2 * i) = nI (94 + 2 * i) := n_add 94 _
          have iC : nI (94 + 2 * i) + 1 = nI (95 + 2 * i) := (n_add (94 + 2 * i) 1).trans (by congr 1; omega)
          refine k_X12_fitting_23 ⟨fun q => ?_, fun _ => ⟨fun q => nx0 σ fσ (fun z => ?_), fun q => ?_⟩⟩
          · rw [z_le, mcσ.1 5 (by omega) (by omega), zi] at q; omega
          · rw [hv, z_b0, decide_eq_false_iff_not] at q
            exact q (fun j hj => z j (by omega))
          · have hall : ∀ j, j < i → z_hour A k (A (94 + 2 * j)) = A (95 + 2 * j) := by
              by_cases r : ∀ j, j < i → z_hour A k (A (94 + 2 * j)) = A (95 + 2 * j)
              · exact r
              · rw [hv, decide_eq_false r] at q; exact absurd rfl q
            have ext : z_hour A k (A (94 + 2 * i)) = A (95 + 2 * i) → ∀ j, j < i + 1 → z_hour A k (A (94 + 2 * j)) = A (95 + 2 * j) := by
              intro z j hj
              by_cases r : j = i
              · rw [r]; exact z
              · exact hall j (by omega)
            have yes : ∀ (ρ : x_T), x_fr x_sN σ1 ρ → z_hour A k (A (94 + 2 * i)) = A (95 + 2 * i) → x_WI (d + 1 + 1 + 1 + 1 + 1) mX12_fitting K 53 [(0, .ref 345), (1, .int (z_bits (z_fit A) k)), (2, .int (nI k)), (4, .int (nI i))] [.int 1] ρ := fun ρ fρ z => nx ρ 1 fρ (by rw [decide_eq_true (ext z)]; rfl)
            have nope : ∀ (ρ : x_T), x_fr x_sN σ1 ρ → ¬ z_hour A k (A (94 + 2 * i)) = A (95 + 2 * i) → x_WI (d + 1 + 1 + 1 + 1 + 1) mX12_fitting K 52 [(0, .ref 345), (1, .int (z_bits (z_fit A) k)), (2, .int (nI k)), (4, .int (nI i))] [] ρ := fun ρ fρ z => nx0 ρ fρ (fun y => z (y i (by omega)))
            refine e_X12_isWanted ?_
            rw [i2, iB, iC, nI_clamp (by omega), nI_clamp (by omega)]
            have h1 := mcσ.1 (94 + 2 * i) (by omega) (by omega)
            have h2 := mcσ.1 (95 + 2 * i) (by omega) (by omega)
            refine ⟨vp_in_nI (by omega) (by decide), ml_hourAt wA mcσ.2.1 (by omega) (by omega) (fun u hu => ⟨vp_in_nI (by omega) (by decide), fun q => ⟨fun _ => nope σ fσ ?_, fun z => absurd rfl z⟩, fun q => ⟨fun z => absurd z z_10, fun _ => yes σ fσ ?_⟩⟩)⟩
            · rw [z_eq, hu, zk, h1, h2] at q; exact q
            · rw [z_eq, hu, zk, h1, h2] at q; exact q
      exact inner 0 (by omega) 1 (by rw [decide_eq_true (fun j hj => by omega)]; rfl) σ fσ
  exact loop 0 (by omega) σ1 (fr_r _ _)
theorem q_fitting (hL : x_HL) {τ : x_T} (h : x_J τ) : x_CI 2000 mX11_fitting [.ref 0] τ (fun τ1 u => x_CI 2000 mX12_fitting [.ref 345] τ1 (fun τ2 v => u = v ∧ x_J τ2)) := by
  obtain ⟨L, l1, l2⟩ := hL τ h
  exact e_X11_fitting (cl_fitting h.1 l1 (fun σ f => ml_fitting (hmX_fr ⟨rfl, l2⟩ (fr_m sL_x f)) (hf_wH h.1) (fun ρ g _ _ _ => ⟨rfl, J_q h (fr_m sL_x f) g⟩)))
/-! lost -/
def z_fog (A : Nat → Int) (L : x_L2) (noon : Nat) : Bool := decide (∀ i, i < (A 6).toNat → z_warm A (x_La L A) (z_dy A) (A (110 + 2 * i)) noon = A (111 + 2 * i))
theorem cl_lost {d : Nat} {τ : x_T} {A : Nat → Int} {L : x_L2} {K : x_T → Int32 → Prop} (hJ : x_hf 1 13 17 τ A) (l1 : x_LC2 τ L) (hK : ∀ σ : x_T, x_fr x_sL τ σ → K σ (z_bits (z_fog A L) (A 0).toNat)) : x_CI (d + 1 + 1 + 1 + 1) mX0_placesInFog [.ref 339, .ref 13] τ K := by
  have wA := hJ.1
  have w0 := wA.1
  have hc := hJ.2.1
  have wD : w_D A (z_dy A) := hJ.2.2.1
  have he : x_cd 13 τ (z_dy A) := hJ.2.2.2.1
  have wl := wA.2.2.2.2.2.2.2
  have hcc := hc_cc (τ := τ) (A := A) (L := L) ⟨hJ, l1⟩
  obtain ⟨N, hN⟩ : ∃ N : Nat, A 0 = N := ⟨(A 0).toNat, by omega⟩
  have hNt : (A 0).toNat = N := by omega
  obtain ⟨M, hM⟩ : ∃ M : Nat, A 6 = M := ⟨(A 6).toNat, by omega⟩
  have hMt : (A 6).toNat = M := by omega
  rw [hNt] at hK
  have fit : ∀ (σ : x_T) (k : Nat) (P : x_T → Int32 → Prop), x_fr x_sL τ σ → k < N → (∀ ρ : x_T, x_fr x_sL τ ρ → z_fog A L k = true → P ρ 1) → (∀ ρ : x_T, x_fr x_sL τ ρ → z_fog A L k = false → P ρ 0) → x_CI (d + 1 + 1 + 1) mX0_mayBeAt [.ref 339, .ref 13, .int (nI k)] σ P := by
    intro σ0 k P fσ hk h1 h0
    have zk : (nI k).toInt = k := z_n (by omega)
    refine e_X0_mayBeAt rfl (?_)
    have loop : ∀ i, i ≤ M → (fun i => (∀ j, j < i → z_warm A (x_La L A) (z_dy A) (A (110 + 2 * j)) k = A (111 + 2 * j)) → ∀ σ : x_T, x_fr x_sL τ σ → x_WI (d + 1 + 1 + 1) mX0_mayBeAt P 11 [(0, .ref 339), (1, .ref 13), (2, .int (nI k)), (3, .ref 10), (4, .int (nI i))] [] σ) i := by
      refine z_down ?_ ?_
      · intro ho σ fσ
        have cs := (cc_fr hcc fσ sL_cc).1.2.2.2.2.2.2.2.2.1
        refine k_X0_mayBeAt_11 rfl ⟨fun _ => h1 σ fσ ?_, fun q => absurd (by rw [z_le, cs, z_n (by omega)]; omega) q⟩
        rw [z_fog, hMt, decide_eq_true ho]
      · intro i hi ih ho σ fσ
        have ccσ := cc_fr hcc fσ sL_cc
        have cn := ccσ.1.2.2.2.2.2.2.2.2
        have cs := cn.1
        have zi : (nI i).toInt = i := z_n (by omega)
        have cv := cn.2 i (by omega)
        have ci : (nI i).toNatClampNeg = i := nI_clamp (by omega)
        have wi := wl.2.2 i (by omega) (by omega)
        have nx : ∀ ρ : x_T, x_fr x_sL τ ρ → z_warm A (x_La L A) (z_dy A) (A (110 + 2 * i)) k = A (111 + 2 * i) → ∀ y : Int32, y = nI i + 1 → x_WI (d + 1 + 1 + 1) mX0_mayBeAt P 11 [(0, .ref 339), (1, .ref 13), (2, .int (nI k)), (3, .ref 10), (4, .int y)] [] ρ := by
          intro ρ fρ hv y ey
          rw [ey, ← nI_succ]
          refine ih (fun j hj => ?_) ρ fρ
          by_cases r : j = i
          · rw [r]; exact hv
          · exact ho j (by omega)
        have nz : z_warm A (x_La L A) (z_dy A) (A (110 + 2 * i)) k ≠ A (111 + 2 * i) → z_fog A L k = false := fun hv => by
          rw [z_fog, hMt, decide_eq_false]
          intro z
          exact hv (z i hi)
        refine k_X0_mayBeAt_11 rfl ⟨fun q => ?_, fun _ => ⟨fun q => ?_, fun _ => ⟨ix_n (by omega), ?_⟩⟩⟩
        · rw [z_le, cs, zi] at q; omega
        · rw [z_le, zi] at q; simp only [Int32.reduceToInt] at q; omega
        · rw [ci]
          have cv1 : (σ.1 11 i).toInt = A (110 + 2 * i) := cv.1
          have cv2 : (σ.1 12 i).toInt = A (111 + 2 * i) := cv.2
          refine cl_warmth rfl (by omega) ccσ wA (cd_sL (Or.inl rfl) he fσ) wD.2.2.2.2.2.1 (by omega) (by omega) (fun ρ u fρ hu => ⟨ix_n (by omega), fun q => nx ρ (fr_t fσ fρ) ?_, fun q => h0 ρ (fr_t fσ fρ) (nz ?_)⟩)
          · rw [fρ.1 12 (by unfold x_sL; omega), z_eq, hu, zk, cv1, cv2] at q; exact q
          · rw [fρ.1 12 (by unfold x_sL; omega), z_eq, hu, zk, cv1, cv2] at q; exact q
    exact loop 0 (by omega) (fun j hj => by omega) σ0 fσ
  refine e_X0_placesInFog rfl (?_)
  have loop : ∀ k, k ≤ N → (fun k => ∀ σ : x_T, x_fr x_sL τ σ → x_WI (d + 1 + 1 + 1 + 1) mX0_placesInFog K 4 [(0, .ref 339), (1, .ref 13), (2, .int (z_bits (z_fog A L) k)), (3, .int (nI k))] [] σ) k := by
    refine z_down ?_ ?_
    · intro σ fσ
      have c0 := (cc_fr hcc fσ sL_cc).1.1
      exact k_X0_placesInFog_4 rfl ⟨fun _ => hK σ fσ, fun q => absurd (by rw [z_le, c0, z_n (by omega)]; omega) q⟩
    · intro k hk ih σ fσ
      have c0 := (cc_fr hcc fσ sL_cc).1.1
      have zk : (nI k).toInt = k := z_n (by omega)
      refine k_X0_placesInFog_4 rfl ⟨fun q => ?_, fun _ => fit σ k _ fσ hk (fun ρ fρ hb => ⟨fun z => absurd z z_10, fun _ y3 e3 => k_X0_placesInFog_30 rfl (fun y1 e1 => ?_)⟩) (fun ρ fρ hb => ⟨fun _ => k_X0_placesInFog_30 rfl (fun y1 e1 => ?_), fun z => absurd rfl z⟩)⟩
      · rw [z_le, c0, zk] at q; omega
      · rw [e1, e3, ← nI_succ]
        have := ih ρ fρ
        rw [z_bits, if_pos hb] at this
        exact this
      · rw [e1, ← nI_succ]
        have := ih ρ fρ
        rw [z_bits, hb] at this
        exact this
  exact loop 0 (by omega) τ (fr_r _ _)
theorem ml_lost {d : Nat} {τ : x_T} {A : Nat → Int} {L : x_L2} {K : x_T → Int32 → Prop} (hmm : x_hm τ A L) (wH : w_H A) (hK : ∀ σ : x_T, x_fr x_sc τ σ → x_md σ (z_dy A) → x_mc σ A (x_La L A) → x_hm σ A L → K σ (z_bits (z_fog A L) (A 0).toNat)) : x_CI (d + 1 + 1 + 1 + 1 + 1) mX12_lost [.ref 345] τ K := by
  have wA := wH.1
  have w0 := wA.1
  have wD := wH.2.1
  have wl := wA.2.2.2.2.2.2.2
  obtain ⟨N, hN⟩ : ∃ N : Nat, A 0 = N := ⟨(A 0).toNat, by omega⟩
  have hNt : (A 0).toNat = N := by omega
  obtain ⟨M, hM⟩ : ∃ M : Nat, A 6 = M := ⟨(A 6).toNat, by omega⟩
  have hMt : (A 6).toNat = M := by omega
  rw [hNt] at hK
  refine e_X12_lost (ml_laysNow hmm wA (fun σ1 f1 g1 mc1 hm1 => ?_))
  have loop : ∀ k, k ≤ N → (fun k => ∀ σ : x_T, x_fr x_sN σ1 σ → x_WI (d + 1 + 1 + 1 + 1 + 1) mX12_lost K 8 [(0, .ref 345), (1, .int (z_bits (z_fog A L) k)), (2, .int (nI k))] [] σ) k := by
    refine z_down ?_ ?_
    · intro σ fσ
      have mcσ := mc_fr mc1 fσ sN_mc
      refine k_X12_lost_8 ⟨fun _ => hK σ (fr_t (fr_m s69_x f1) (fr_m sN_x fσ)) (md_sN g1 fσ) mcσ ?_, fun q => absurd (by rw [z_le, mcσ.1 0 (by omega) (by omega), z_n (by omega)]; omega) q⟩
      exact hm_fr hm1 (fr_m sN_sM fσ) (by rw [jA_fr fσ (by unfold x_sN; omega), hm1.1]) rfl
    · intro k hk ih σ fσ
      have zk : (nI k).toInt = k := z_n (by omega)
      refine k_X12_lost_8 ⟨fun q => ?_, fun _ => ?_⟩
      · rw [z_le, (mc_fr mc1 fσ sN_mc).1 0 (by omega) (by omega), zk] at q; omega
      have inner : ∀ i, i ≤ M → (fun i => ∀ (v : Int32), v = z_b (decide (∀ j, j < i → z_warm A (x_La L A) (z_dy A) (A (110 + 2 * j)) k = A (111 + 2 * j))) → ∀ σ : x_T, x_fr x_sN σ1 σ → x_WI (d + 1 + 1 + 1 + 1 + 1) mX12_lost K 23 [(0, .ref 345), (1, .int (z_bits (z_fog A L) k)), (2, .int (nI k)), (3, .int v), (4, .int (nI i))] [] σ) i := by
        refine z_down ?_ ?_
        · intro v hv σ fσ
          have mcσ := mc_fr mc1 fσ sN_mc
          have hb : z_fog A L k = decide (∀ j, j < M → z_warm A (x_La L A) (z_dy A) (A (110 + 2 * j)) k = A (111 + 2 * j)) := by rw [z_fog, hMt]
          rw [← hb] at hv
          refine k_X12_lost_23 ⟨fun _ => ⟨fun q => k_X12_lost_97 (fun y1 e1 y2 e2 => ?_), fun q => k_X12_lost_97 (fun y1 e1 y2 e2 => ?_)⟩, fun q => absurd (by rw [z_le, mcσ.1 6 (by omega) (by omega), z_n (by omega)]; omega) q⟩
          · rw [hv, z_b0] at q
            rw [e2, ← nI_succ, e1, Int32.or_zero]
            have := ih σ fσ
            rw [z_bits, q] at this
            exact this
          · have hb2 : z_fog A L k = true := by
              cases hb3 : z_fog A L k
              · rw [hv, hb3] at q; exact absurd rfl q
              · rfl
            rw [e2, ← nI_succ, e1]
            have := ih σ fσ
            rw [z_bits, if_pos hb2] at this
            exact this
        · intro i hi ihi v hv σ fσ
          have mcσ := mc_fr mc1 fσ sN_mc
          have zi : (nI i).toInt = i := z_n (by omega)
          have wi := wl.2.2 i (by omega) (by omega)
          have nx : ∀ (ρ : x_T) (s : Int32), x_fr x_sN σ1 ρ → s = z_b (decide (∀ j, j < i + 1 → z_warm A (x_La L A) (z_dy A) (A (110 + 2 * j)) k = A (111 + 2 * j))) → x_WI (d + 1 + 1 + 1 + 1 + 1) mX12_lost K 78 [(0, .ref 345), (1, .int (z_bits (z_fog A L) k)), (2, .int (nI k)), (4, .int (nI i))] [.int s] ρ := by
            intro ρ s fρ hs
            refine k_X12_lost_78 (fun y1 e1 => ?_)
            rw [e1, ← nI_succ]
            exact ihi s hs ρ fρ
          have nx0 : ∀ (ρ : x_T), x_fr x_sN σ1 ρ → ¬ (∀ j, j < i + 1 → z_warm A (x_La L A) (z_dy A) (A (110 + 2 * j)) k = A (111 + 2 * j)) → x_WI (d + 1 + 1 + 1 + 1 + 1) mX12_lost K 77 [(0, .ref 345), (1, .int (z_bits (z_fog A L) k)), (2, .int (nI k)), (4, .int (nI i))] [] ρ := fun ρ fρ z => k_X12_lost_77 (nx ρ 0 fρ (by rw [decide_eq_false z]; rfl))
          have i2 : (2 : Int32) * nI i = nI (2 * i) := n_mul 2 i
          have iB : (110 : Int32) + nI (2 * i) = nI (110 + 2 * i) := n_add 110 _
          have iC : nI (110 + 2 * i) + 1 = nI (111 + 2 * i) := (n_add (110 + 2 * i) 1).trans (by congr 1; omega)
          refine k_X12_lost_23 ⟨fun q => ?_, fun _ => ⟨fun q => nx0 σ fσ (fun z => ?_), fun q => ?_⟩⟩
          · rw [z_le, mcσ.1 6 (by omega) (by omega), zi] at q; omega
          · rw [hv, z_b0, decide_eq_false_iff_not] at q
            exact q (fun j hj => z j (by omega))
          · have hall : ∀ j, j < i → z_warm A (x_La L A) (z_dy A) (A (110 + 2 * j)) k = A (111 + 2 * j) := by
              by_cases r : ∀ j, j < i → z_warm A (x_La L A) (z_dy A) (A (110 + 2 * j)) k = A (111 + 2 * j)
              · exact r
              · rw [hv, decide_eq_false r] at q; exact absurd rfl q
            have ext : z_warm A (x_La L A) (z_dy A) (A (110 + 2 * i)) k = A (111 + 2 * i) → ∀ j, j < i + 1 → z_warm A (x_La L A) (z_dy A) (A (110 + 2 * j)) k = A (111 + 2 * j) := by
              intro z j hj
              by_cases r : j = i
              · rw [r]; exact z
              · exact hall j (by omega)
            have yes : ∀ (ρ : x_T), x_fr x_sN σ1 ρ → z_warm A (x_La L A) (z_dy A) (A (110 + 2 * i)) k = A (111 + 2 * i) → x_WI (d + 1 + 1 + 1 + 1 + 1) mX12_lost K 78 [(0, .ref 345), (1, .int (z_bits (z_fog A L) k)), (2, .int (nI k)), (4, .int (nI i))] [.int 1] ρ := fun ρ fρ z => nx ρ 1 fρ (by rw [decide_eq_true (ext z)]; rfl)
            have nope : ∀ (ρ : x_T), x_fr x_sN σ1 ρ → ¬ z_warm A (x_La L A) (z_dy A) (A (110 + 2 * i)) k = A (111 + 2 * i) → x_WI (d + 1 + 1 + 1 + 1 + 1) mX12_lost K 77 [(0, .ref 345), (1, .int (z_bits (z_fog A L) k)), (2, .int (nI k)), (4, .int (nI i))] [] ρ := fun ρ fρ z => nx0 ρ fρ (fun y => z (y i (by omega)))
            rw [i2, iB, iC, nI_clamp (by omega), nI_clamp (by omega)]
            have h1 := mcσ.1 (110 + 2 * i) (by omega) (by omega)
            have h2 := mcσ.1 (111 + 2 * i) (by omega) (by omega)
            refine ⟨vp_in_nI (by omega) (by decide), ml_warmOf (e := z_dy A) mcσ wA (md_sN g1 fσ) (by omega) (by omega) wD.2.2.2.2.2.1 (fun ρ u fρ hu => ⟨vp_in_nI (by omega) (by decide), fun q => nope ρ (fr_t fσ fρ) ?_, fun q => yes ρ (fr_t fσ fρ) ?_⟩)⟩
            · rw [fρ.1 346 (by unfold x_sN; omega), z_eq, hu, zk, h1, h2] at q; exact q
            · rw [fρ.1 346 (by unfold x_sN; omega), z_eq, hu, zk, h1, h2] at q; exact q
      exact inner 0 (by omega) 1 (by rw [decide_eq_true (fun j hj => by omega)]; rfl) σ fσ
  exact loop 0 (by omega) σ1 (fr_r _ _)
theorem q_lost (hL : x_HL) {τ : x_T} (h : x_J τ) : x_CI 2000 mX11_lost [.ref 0] τ (fun τ1 u => x_CI 2000 mX12_lost [.ref 345] τ1 (fun τ2 v => u = v ∧ x_J τ2)) := by
  obtain ⟨L, l1, l2⟩ := hL τ h
  exact e_X11_lost (cl_lost h.1 l1 (fun σ f => ml_lost (hmX_fr ⟨rfl, l2⟩ (fr_m sL_x f)) (hf_wH h.1) (fun ρ g _ _ _ => ⟨rfl, J_q h (fr_m sL_x f) g⟩)))
