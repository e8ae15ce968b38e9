/-! least, the model's side -/
def y_mv (r : Int) : Int := if r = 1000000 then 99999 else r
def y_Sp (c : Nat) : Prop := c = 371 ∨ c = 374
theorem Sp_mc (c : Nat) (h : y_Sp c) : 370 ≤ c := by unfold y_Sp at h; omega
theorem Sp_x (c : Nat) (h : y_Sp c) : x_sc c := by unfold y_Sp at h; unfold x_sc; omega
theorem md_Sp {τ σ : x_T} {e : Nat → Int} (h : x_md τ e) (f : x_fr y_Sp τ σ) : x_md σ e := md_fr h (f.1 _ (by unfold y_Sp; omega))
theorem ix_30n (i j : Nat) : (30 : Int32) + 8 * nI i + nI j = nI (30 + (8 * i + j)) := by
  rw [show (8 : Int32) * nI i = nI (8 * i) from n_mul 8 i, show (30 : Int32) + nI (8 * i) = nI (30 + 8 * i) from n_add 30 _, n_add, Nat.add_assoc]
theorem ml_laysPushing {d h : Nat} {p : Int32} {τ : x_T} {A : Nat → Int} {L : x_L2} {K : x_T → Prop} (hh : h < 8) (mc : x_mc τ A (x_La L A)) (wA : w_A A) (he : x_md τ (z_dy A)) (w5 : 0 ≤ z_dy A 5 ∧ z_dy A 5 ≤ 9999) (hp : 0 ≤ p.toInt ∧ p.toInt < A 1) (hK : ∀ σ : x_T, x_fr y_Sp τ σ → (∀ x, x < 8 → (σ.1 374 x).toInt = y_mv (y_rt (y_co A L p.toInt) (y_r0 h) 8 x)) → K σ) : x_CV (d + 1 + 1 + 1 + 1) mX12_laysPushing [.ref 345, .int (nI h), .int p] τ K := by
  have w0 := wA.1
  obtain ⟨N, hN⟩ : ∃ N : Nat, A 0 = N := ⟨(A 0).toNat, by omega⟩
  have hc := co_b wA L p.toInt
  have hdg := co_d wA L p.toInt
  have hou : ∀ i j : Nat, N ≤ i ∨ N ≤ j → y_co A L p.toInt i j = 1000000 := fun i j z => co_o L p.toInt (by omega)
  have ce : ∀ i j : Nat, y_co A L p.toInt i j = if 0 < z_ln A i j then z_hard A (x_La L A) (z_dy A) i j p.toInt else 1000000 := fun _ _ => rfl
  generalize y_co A L p.toInt = c at hK hc hdg hou ce
  have hc1 : ∀ i j, 1 ≤ c i j := fun i j => by have := hc i j; omega
  have zh : (nI h).toInt = h := z_n (by omega)
  refine e_X12_laysPushing ?_
  have rounds : ∀ t, t ≤ 8 → (fun t => ∀ ρ : x_T, x_fr y_Sp τ ρ → (∀ x, x < 8 → (ρ.1 374 x).toInt = y_mv (y_rt c (y_r0 h) t x)) → x_WV (d + 1 + 1 + 1 + 1) mX12_laysPushing K 33 [(0, .ref 345), (2, .int p), (3, .int (nI t))] [] ρ) t := by
    refine z_down ?_ ?_
    · intro ρ f h7
      exact k_X12_laysPushing_33 ⟨fun _ => hK ρ f h7, fun q => absurd (by decide) q⟩
    · intro t ht ih ρ f h7
      have bdt := rt_P (bd_rx hc1) (bd_0 h) t
      have fbt := rt_fb hc hdg h t
      refine k_X12_laysPushing_33 ⟨fun q => absurd q (nI_ge (a := t) (b := 8) (by omega) (by decide)), fun _ => ?_⟩
      have lp : ∀ i, i ≤ N → (fun i => ∀ ρ : x_T, x_fr y_Sp τ ρ → (∀ x, x < 8 → (ρ.1 374 x).toInt = y_mv (y_rr c (y_rt c (y_r0 h) t) i x)) → x_WV (d + 1 + 1 + 1 + 1) mX12_laysPushing K 42 [(0, .ref 345), (2, .int p), (3, .int (nI t)), (4, .int (nI i))] [] ρ) i := by
        refine z_down ?_ ?_
        · intro ρ f h7
          have m0 := (mc_fr mc f Sp_mc).1 0 (by omega) (by omega)
          refine k_X12_laysPushing_42 ⟨fun _ y1 e1 => ?_, fun q => absurd (by rw [z_le, m0, z_n (by omega)]; omega) q⟩
          rw [e1, ← nI_succ]
          refine ih ρ f ?_
          have e : y_rt c (y_r0 h) (t + 1) = y_rr c (y_rt c (y_r0 h) t) N := rr_tr hc1 bdt (N := N) (fun i j hi => hou i j (Or.inl hi)) 8 (by omega) (by omega)
          rw [e]
          exact h7
        · intro i hi ih2 ρ f h7
          have zi : (nI i).toInt = i := z_n (by omega)
          have bdi := rr_P (bd_rx hc1) bdt i (by omega)
          have fbi := rr_fb hc hdg (by omega) fbt i (by omega)
          refine k_X12_laysPushing_42 ⟨fun q => ?_, fun _ => ?_⟩
          · rw [z_le, (mc_fr mc f Sp_mc).1 0 (by omega) (by omega), zi] at q; omega
          have inner : ∀ j, j ≤ N → (fun j => ∀ ρ : x_T, x_fr y_Sp τ ρ → (∀ x, x < 8 → (ρ.1 374 x).toInt = y_mv (y_ri c (y_rr c (y_rt c (y_r0 h) t) i) i j x)) → x_WV (d + 1 + 1 + 1 + 1) mX12_laysPushing K 56 [(0, .ref 345), (2, .int p), (3, .int (nI t)), (4, .int (nI i)), (5, .int (nI j))] [] ρ) j := by
            refine z_down ?_ ?_
            · intro ρ f h7
              have m0 := (mc_fr mc f Sp_mc).1 0 (by omega) (by omega)
              refine k_X12_laysPushing_56 ⟨fun _ y1 e1 => ?_, fun q => absurd (by rw [z_le, m0, z_n (by omega)]; omega) q⟩
              rw [e1, ← nI_succ]
              refine ih2 ρ f ?_
              have e : y_rr c (y_rt c (y_r0 h) t) (i + 1) = y_ri c (y_rr c (y_rt c (y_r0 h) t) i) i N := ri_tr hc1 bdi (N := N) (by omega) (fun j hj => hou i j (Or.inr hj)) 8 (by omega) (by omega)
              rw [e]
              exact h7
            · intro j hj ih3 ρ f h7
              have zj : (nI j).toInt = j := z_n (by omega)
              have mcρ := mc_fr mc f Sp_mc
              have m0 := mcρ.1 0 (by omega) (by omega)
              have lane := mcρ.1 (30 + (8 * i + j)) (by omega) (by omega)
              have ln : z_ln A i j = A (30 + (8 * i + j)) := by
                rw [z_ln, if_pos (by omega)]; rfl
              have bdj := ri_P (bd_rx hc1) (i := i) (by omega) bdi j (by omega)
              generalize hQ : y_ri c (y_rr c (y_rt c (y_r0 h) t) i) i j = Q at h7 bdj
              have ih3 : ∀ ρ : x_T, x_fr y_Sp τ ρ → (∀ x, x < 8 → (ρ.1 374 x).toInt = y_mv (y_rx c Q i j x)) → x_WV (d + 1 + 1 + 1 + 1) mX12_laysPushing K 56 [(0, .ref 345), (2, .int p), (3, .int (nI t)), (4, .int (nI i)), (5, .int (nI (j + 1)))] [] ρ := by
                intro ρ f h
                refine ih3 ρ f ?_
                rw [y_ri, hQ]
                exact h
              refine k_X12_laysPushing_56 ⟨fun q => ?_, fun _ => ?_⟩
              · rw [z_le, m0, zj] at q; omega
              rw [ix_30n, nI_clamp (n := 30 + (8 * i + j)) (by omega)]
              refine ⟨vp_in_nI (by omega) (by decide), fun q => k_X12_laysPushing_136 (fun y1 e1 => ?_), fun q => ?_⟩
              · rw [z_le, lane] at q
                simp only [Int32.reduceToInt] at q
                rw [e1, ← nI_succ]
                refine ih3 ρ f ?_
                rw [rx_no bdj (by rw [ce, ln, if_neg (by omega)])]
                exact h7
              · rw [z_le, lane] at q
                simp only [Int32.reduceToInt] at q
                have hcv : c i j = z_hard A (x_La L A) (z_dy A) i j p.toInt := by rw [ce, ln, if_pos (by omega)]
                have cb : 1 ≤ c i j ∧ c i j ≤ 999 := by rw [hcv]; exact z_hard_b wA _ _ _ _ _
                have ij : ¬ j = i := fun z => by rw [z, hdg i] at cb; omega
                refine ml_hardOf (e := z_dy A) mcρ wA (md_Sp he f) (by omega) (by omega) hp w5 (fun ρ2 u f2 hu => ?_)
                rw [zi, zj, ← hcv] at hu
                have f3 : x_fr y_Sp τ ρ2 := fr_t f (fr_m (fun c hc => Or.inl hc) f2)
                have r4 : ρ2.1 374 = ρ.1 374 := f2.1 374 (by unfold x_sN; omega)
                have gj : (ρ2.1 374 j).toInt = y_mv (Q j) := by rw [r4]; exact h7 j (by omega)
                have gi : (ρ2.1 374 i).toInt = y_mv (Q i) := by rw [r4]; exact h7 i (by omega)
                have fj : Q j = 1000000 ∨ (0 ≤ Q j ∧ Q j ≤ 80000) := by
                  rw [← hQ, ri_n ij]
                  have := fbi j (by omega)
                  omega
                have fi : Q i = 1000000 ∨ (0 ≤ Q i ∧ Q i ≤ 80000) := by
                  rw [← hQ]
                  have := ri_fb hc hdg (by omega) fbi (i := i) (by omega) j (by omega)
                  omega
                have mj : y_mv (Q j) = 99999 ∧ Q j = 1000000 ∨ (y_mv (Q j) = Q j ∧ 0 ≤ Q j ∧ Q j ≤ 80000) := by
                  unfold y_mv; split <;> omega
                have mi : y_mv (Q i) = 99999 ∧ Q i = 1000000 ∨ (y_mv (Q i) = Q i ∧ 0 ≤ Q i ∧ Q i ≤ 80000) := by
                  unfold y_mv; split <;> omega
                rw [nI_clamp (n := j) (by omega), nI_clamp (n := i) (by omega)]
                refine ⟨vp_in_nI (by omega) (by decide), fun y4 e4 => ⟨vp_in_nI (by omega) (by decide), ?_⟩⟩
                have e4 : y4.toInt = c i j + y_mv (Q j) := by rw [e4, z_add (by rw [hu, gj]; omega), hu, gj]
                have fin : ∀ v : Int32, v.toInt = y_mv (y_rx c Q i j i) → x_WV (d + 1 + 1 + 1 + 1) mX12_laysPushing K 135 [(0, .ref 345), (2, .int p), (3, .int (nI t)), (4, .int (nI i)), (5, .int (nI j))] [.int v, .int (nI i), .ref 374] ρ2 := by
                  intro v hv
                  refine k_X12_laysPushing_135 ⟨vp_in_nI (by omega) (by decide), fun t1 e1 => k_X12_laysPushing_136 (fun y1 ey => ?_)⟩
                  rw [nI_clamp (n := i) (by omega)] at e1
                  rw [ey, ← nI_succ]
                  refine ih3 t1 (by rw [e1]; exact fr_w f3 (Or.inr rfl)) (fun x hx => ?_)
                  rw [e1, w1_at]
                  by_cases r : x = i
                  · rw [if_pos ⟨rfl, r⟩, hv, r]
                  · rw [if_neg (fun z => r z.2), rx_n r, r4]; exact h7 x hx
                refine ⟨fun q2 => ⟨vp_in_nI (by omega) (by decide), fin _ ?_⟩, fun q2 => fin _ ?_⟩
                · rw [z_le, gi, e4] at q2
                  rw [gi, rx_i]
                  have : min (Q i) (c i j + Q j) = Q i := by omega
                  rw [this]
                · rw [z_le, gi, e4] at q2
                  rw [e4, rx_i]
                  have : min (Q i) (c i j + Q j) = c i j + Q j := by omega
                  have e5 : y_mv (c i j + Q j) = c i j + Q j := by rw [y_mv, if_neg (by omega)]
                  rw [this, e5]
                  omega
          exact inner 0 (by omega) ρ f h7
      exact lp 0 (by omega) ρ f h7
  have fill : ∀ x, x ≤ 8 → (fun x => ∀ ρ : x_T, x_fr y_Sp τ ρ → (∀ y, y < x → (ρ.1 374 y).toInt = y_mv (y_r0 h y)) → x_WV (d + 1 + 1 + 1 + 1) mX12_laysPushing K 2 [(0, .ref 345), (1, .int (nI h)), (2, .int p), (3, .int (nI x))] [] ρ) x := by
    refine z_down ?_ ?_
    · intro ρ f h7
      exact k_X12_laysPushing_2 ⟨fun _ => rounds 0 (by omega) ρ f h7, fun q => absurd (by decide) q⟩
    · intro x hx ih ρ f h7
      have zx : (nI x).toInt = x := z_n (by omega)
      have go : ∀ v : Int32, v.toInt = y_mv (y_r0 h x) → x_WV (d + 1 + 1 + 1 + 1) mX12_laysPushing K 24 [(0, .ref 345), (1, .int (nI h)), (2, .int p), (3, .int (nI x))] [.int v, .int (nI x), .ref 374] ρ := by
        intro v hv
        refine k_X12_laysPushing_24 ⟨vp_in_nI (by omega) (by decide), fun t2 e2 y2 ey => ?_⟩
        rw [ey, ← nI_succ]
        rw [nI_clamp (by omega)] at e2
        refine ih t2 (by rw [e2]; exact fr_w f (Or.inr rfl)) (fun y hy => ?_)
        rw [e2, w1_at]
        by_cases q : y = x
        · rw [if_pos ⟨rfl, q⟩, hv, q]
        · rw [if_neg (fun z => q z.2)]; exact h7 y (by omega)
      refine k_X12_laysPushing_2 ⟨fun q => absurd q (nI_ge (a := x) (b := 8) (by omega) (by decide)), fun _ => ⟨fun q => go _ ?_, fun q => go _ ?_⟩⟩
      · rw [z_eq, zx, zh] at q; rw [y_r0, if_neg (by omega)]; rfl
      · rw [z_eq, zx, zh] at q; rw [y_r0, if_pos (by omega)]; rfl
  exact fill 0 (by omega) τ (fr_r _ _) (fun y hy => by omega)
theorem q_least (hL : x_HL) {τ : x_T} (h : x_J τ) (a1 a2 a3 : Int32) : x_CI 2000 mX11_least [.ref 0, .int a1, .int a2, .int a3] τ (fun τ1 u => x_CI 2000 mX12_least [.ref 345, .int a1, .int a2, .int a3] τ1 (fun τ2 v => u = v ∧ x_J τ2)) := by
  obtain ⟨L, l1, l2⟩ := hL τ h
  generalize hA : j_A τ = A
  have hJ := h.1
  rw [hA] at hJ
  have wA := hJ.1
  have w0 := wA.1
  have wD : w_D A (z_dy A) := hJ.2.2.1
  have he : x_cd 13 τ (z_dy A) := hJ.2.2.2.1
  have hmm : x_hm τ A L := ⟨hA, l2⟩
  have hcl := hJ.2.1
  have e2 : (τ.1 13 2).toInt = A 132 := cd_0 (e := z_dy A) he (k := 2) (by omega)
  have d0 : 0 ≤ A 130 ∧ (A 130 = 0 ∨ A 130 < A 0) := wD.1
  have d2 : 0 ≤ A 132 ∧ A 132 ≤ 9999 := wD.2.1
  have n1 : (-1 : Int32).toInt = -1 := by decide
  have n2 : (-2 : Int32).toInt = -2 := by decide
  have n3 : (-3 : Int32).toInt = -3 := by decide
  by_cases ok : A 132 = 0 ∧ 0 ≤ a1.toInt ∧ a1.toInt < A 0 ∧ 0 ≤ a2.toInt ∧ a2.toInt < A 1
  · obtain ⟨s, hs⟩ : ∃ s : Nat, A 130 = s := ⟨(A 130).toNat, by omega⟩
    obtain ⟨hh, hhe⟩ : ∃ k : Nat, a1.toInt = k := ⟨a1.toInt.toNat, by omega⟩
    have s8 : s < 8 := by omega
    have h8 : hh < 8 := by omega
    have ea : a1 = nI hh := z_of (by omega) hhe
    have hc := co_b wA L a2.toInt
    have hc1 : ∀ i j, 1 ≤ y_co A L a2.toInt i j := fun i j => by have := hc i j; omega
    have hdg := co_d wA L a2.toInt
    have fixp := rt_fix hc1 h8
    have wit := rt_w hc1 (h := hh) 8
    have bdF := rt_P (bd_rx hc1) (bd_0 hh) 8
    have fbF := rt_fb hc hdg hh 8
    have ce : ∀ i j : Nat, y_co A L a2.toInt i j = if 0 < z_ln A i j then z_hard A (x_La L A) (z_dy A) i j a2.toInt else 1000000 := fun _ _ => rfl
    have wit2 : ∀ i, i < 8 → ¬ i = hh → y_rt (y_co A L a2.toInt) (y_r0 hh) 8 i < 1000000 → ∃ j, j < 8 ∧ y_co A L a2.toInt i j + y_rt (y_co A L a2.toInt) (y_r0 hh) 8 j = y_rt (y_co A L a2.toInt) (y_r0 hh) 8 i := by
      intro i hi hne hlt
      rcases wit i hi hne with z | ⟨j, j1, j2, j3⟩
      · omega
      · have := fixp i hi j j1
        exact ⟨j, j1, by omega⟩
    have pex : ∃ n, y_rt (y_co A L a2.toInt) (y_r0 hh) 8 s < 1000000 → n ≤ 7 ∧ y_pt (y_co A L a2.toInt) (y_rt (y_co A L a2.toInt) (y_r0 hh) 8) s n = hh ∧ ∀ k, k < n → ¬ y_pt (y_co A L a2.toInt) (y_rt (y_co A L a2.toInt) (y_r0 hh) 8) s k = hh ∧ y_pt (y_co A L a2.toInt) (y_rt (y_co A L a2.toInt) (y_r0 hh) 8) s k < 8 ∧ y_rt (y_co A L a2.toInt) (y_r0 hh) 8 (y_pt (y_co A L a2.toInt) (y_rt (y_co A L a2.toInt) (y_r0 hh) 8) s k) < 1000000 := by
      by_cases q : y_rt (y_co A L a2.toInt) (y_r0 hh) 8 s < 1000000
      · obtain ⟨n, g⟩ := pt_ex hc1 (fun j => (bdF j).1) wit2 7 s s8 q (rank_7 _ s8)
        exact ⟨n, fun _ => g⟩
      · exact ⟨0, fun z => absurd z q⟩
    obtain ⟨n, hn⟩ := pex
    obtain ⟨Z, hZ0, hZ1, hZ2, hZ3, hZ4⟩ : ∃ Z : Int, (¬ y_rt (y_co A L a2.toInt) (y_r0 hh) 8 s < 1000000 ∨ a3.toInt < -2 ∨ n ≤ a3.toInt → Z = -3) ∧ (y_rt (y_co A L a2.toInt) (y_r0 hh) 8 s < 1000000 → a3.toInt = -2 → Z = y_rt (y_co A L a2.toInt) (y_r0 hh) 8 s) ∧ (y_rt (y_co A L a2.toInt) (y_r0 hh) 8 s < 1000000 → a3.toInt = -1 → Z = n) ∧ (y_rt (y_co A L a2.toInt) (y_r0 hh) 8 s < 1000000 → 0 ≤ a3.toInt → a3.toInt < n → Z = y_pt (y_co A L a2.toInt) (y_rt (y_co A L a2.toInt) (y_r0 hh) 8) s (a3.toInt.toNat + 1)) ∧ True := by
      by_cases q : ¬ y_rt (y_co A L a2.toInt) (y_r0 hh) 8 s < 1000000 ∨ a3.toInt < -2 ∨ n ≤ a3.toInt
      · exact ⟨-3, fun _ => rfl, fun z1 z2 => by omega, fun z1 z2 => by omega, fun z1 z2 z3 => by omega, trivial⟩
      · by_cases q2 : a3.toInt = -2
        · exact ⟨_, fun z => absurd z q, fun _ _ => rfl, fun z1 z2 => by omega, fun z1 z2 z3 => by omega, trivial⟩
        · by_cases q3 : a3.toInt = -1
          · exact ⟨_, fun z => absurd z q, fun _ z => absurd z q2, fun _ _ => rfl, fun z1 z2 z3 => by omega, trivial⟩
          · exact ⟨_, fun z => absurd z q, fun _ z => absurd z q2, fun _ z => absurd z q3, fun _ _ _ => rfl, trivial⟩
    refine pair_q h Z (fun K hK => ?_) (fun σ f K hK => ?_)
    · refine e_X11_least ⟨fun q => ?_, fun _ => cl_isHouse hcl wA (fun _ _ => ⟨fun z => absurd z z_10, fun _ => cl_isPusher hcl wA (fun _ _ => ⟨fun _ => ?_, fun z => absurd z z_10⟩) (fun z => absurd ⟨ok.2.2.2.1, ok.2.2.2.2⟩ z)⟩) (fun z => absurd ⟨ok.2.1, ok.2.2.1⟩ z)⟩
      · rw [z_lt, e2] at q; simp only [Int32.reduceToInt] at q; omega
      · rw [ea]
        refine cl_seekLeast h8 s8 hJ l1 hs hn (fun q σ fσ => ⟨fun _ => hK σ _ fσ (by rw [hZ0 (Or.inl q)]; exact n3), fun z => absurd rfl z⟩) (fun q σ u fσ g9 g8 hu => ?_)
        have b := (bdF s).1
        obtain ⟨a1', a2', a3'⟩ := hn q
        refine ⟨fun z => ?_, fun _ => ⟨fun z => hK σ _ fσ ?_, fun z1 => ⟨fun z2 => ⟨fun z3 => hK σ _ fσ ?_, fun z3 => ⟨fun z4 => hK σ _ fσ ?_, fun z4 => e_X10_leastHouse ⟨fun z5 => ?_, fun z5 => ⟨fun z6 => ?_, fun z6 => ⟨ix_n ?_, hK σ _ fσ ?_⟩⟩⟩⟩⟩, fun z2 => hK σ _ fσ ?_⟩⟩⟩
        · rw [z_eq, hu, n1] at z; omega
        · rw [z_lt, n2] at z; rw [hZ0 (Or.inr (Or.inl z))]; exact n3
        · rw [z_eq, n2] at z3; rw [hu, hZ1 q z3]
        · rw [z_eq, n1] at z4; rw [g9, hZ2 q z4]
        · rw [z_lt] at z1 z5; rw [z_eq] at z3 z4; rw [n2] at z1 z3; rw [n1] at z4; simp only [Int32.reduceToInt] at z5; omega
        · rw [z_lt, g9] at z2; rw [z_le] at z6; simp only [Int32.reduceToInt] at z6; omega
        · rw [z_lt] at z5; rw [z_le] at z6; simp only [Int32.reduceToInt] at z5 z6; omega
        · rw [z_lt, g9] at z2
          rw [z_lt] at z5
          simp only [Int32.reduceToInt] at z5
          rw [z_cl, g8 _ (by omega), hZ3 q (by omega) z2]
          refine z_n ?_
          have hp : y_pt (y_co A L a2.toInt) (y_rt (y_co A L a2.toInt) (y_r0 hh) 8) s (a3.toInt.toNat + 1) < 8 := by
            by_cases r : a3.toInt.toNat + 1 = n
            · rw [r, a2']; exact h8
            · exact (a3' _ (by omega)).2.1
          omega
        · rw [z_lt, g9] at z2; rw [hZ0 (Or.inr (Or.inr (by omega)))]; exact n3
    · have hmσ := hmX_fr hmm f
      refine e_X12_least (ml_laysNow hmσ wA (fun σ1 f1 g1 mc1 hm1 => ?_))
      have fx := fr_m s69_x f1
      have m0 := jA_at hm1.1 0
      have m1 := jA_at hm1.1 1
      have k1 : (σ1.1 346 1 - 1).toInt = A 1 - 1 := by rw [z_sub (by rw [m1]; simp only [Int32.reduceToInt]; omega), m1]; rfl
      have r2 : (σ1.1 370 2).toInt = A 132 := g1 2 (by omega)
      refine ml_isHouse wA m0 (fun _ _ => ⟨fun z => absurd z z_10, fun _ => ml_in (fun _ _ => ⟨fun z => absurd z z_10, fun _ => ⟨fun z => hK σ1 _ fx ?_, fun z1 => ⟨fun _ => ?_, fun z => ?_⟩⟩⟩) (fun z => ?_)⟩) (fun z => absurd ⟨ok.2.1, ok.2.2.1⟩ z)
      · rw [z_lt, n2] at z; rw [hZ0 (Or.inr (Or.inl z))]; exact n3
      · rw [z_lt, n2] at z1
        rw [ea]
        refine ml_laysPushing h8 mc1 wA g1 wD.2.2.2.2.2.1 ⟨ok.2.2.2.1, ok.2.2.2.2⟩ (fun σ2 f2 g7 y9 e9 => ?_)
        have fx2 := fr_t fx (fr_m Sp_x f2)
        have md2 := md_Sp g1 f2
        have y9s : y9 = nI s := by rw [e9]; exact z_of (by omega) (by rw [md2 0 (by omega)]; exact hs)
        subst y9s
        rw [nI_clamp (n := s) (by omega)]
        generalize hR : y_rt (y_co A L a2.toInt) (y_r0 hh) 8 = R at hn hZ0 hZ1 hZ2 hZ3 bdF fbF wit2 g7
        have fs := fbF s s8
        have gs := g7 s s8
        refine ⟨vp_in_nI (by omega) (by decide), fun q => ?_, fun q => hK σ2 _ fx2 ?_⟩
        · rw [z_le, gs] at q
          simp only [Int32.reduceToInt] at q
          have fin : R s < 1000000 := by
            rw [y_mv] at q
            split at q <;> omega
          have ms : y_mv (R s) = R s := by rw [y_mv, if_neg (by omega)]
          obtain ⟨b1, b2, b3⟩ := hn fin
          refine ⟨fun z2 => ?_, fun z2 => ⟨vp_in_nI (by omega) (by decide), hK σ2 _ fx2 ?_⟩⟩
          · rw [z_eq, n2] at z2
            have lp : ∀ k, k ≤ n → (fun k : Nat => (0 ≤ a3.toInt → (k : Int) ≤ a3.toInt) → ∀ ρ : x_T, x_fr y_Sp σ1 ρ → ρ.1 374 = σ2.1 374 → x_WI 2000 mX12_least K 93 [(0, .ref 345), (1, .int (nI hh)), (2, .int a2), (3, .int a3), (4, .int (nI (y_pt (y_co A L a2.toInt) R s k))), (5, .int (nI k))] [] ρ) k := by
              refine z_down ?_ ?_
              · intro hk ρ f3 r4
                have fx3 := fr_t fx (fr_m Sp_x f3)
                refine k_X12_least_93 ⟨fun _ => ⟨fun z => hK ρ _ fx3 ?_, fun z => hK ρ _ fx3 ?_⟩, fun q => absurd (by rw [b2]) q⟩
                · rw [z_eq, n1] at z
                  rw [hZ0 (Or.inr (Or.inr (by omega)))]; exact n3
                · rw [z_eq, n1] at z
                  rw [hZ2 fin z, z_n (by omega)]
              · intro k hk ih hka ρ f3 r4
                obtain ⟨p1, p2, p3⟩ := b3 k hk
                have b8 : y_pt (y_co A L a2.toInt) R s (k + 1) = y_nx (y_co A L a2.toInt) R (y_pt (y_co A L a2.toInt) R s k) := rfl
                generalize hP : y_pt (y_co A L a2.toInt) R s k = P at p1 p2 p3 b8
                have zP : (nI P).toInt = P := z_n (by omega)
                obtain ⟨x1, x2, x3⟩ := nx_s (wit2 P p2 p1 p3)
                generalize hX : y_nx (y_co A L a2.toInt) R P = X at x1 x2 x3 b8
                have fP := fbF P p2
                have mP : y_mv (R P) = R P := by rw [y_mv, if_neg (by omega)]
                refine k_X12_least_93 ⟨fun q => ?_, fun _ => ?_⟩
                · rw [z_eq, zP, z_n (by omega)] at q; omega
                have lp2 : ∀ j, j ≤ X → (fun j => ∀ ρ : x_T, x_fr y_Sp σ1 ρ → ρ.1 374 = σ2.1 374 → x_WI 2000 mX12_least K 102 [(0, .ref 345), (1, .int (nI hh)), (2, .int a2), (3, .int a3), (4, .int (nI P)), (5, .int (nI k)), (6, .int (nI j))] [] ρ) j := by
                  have row : ∀ j, j < 8 → ∀ ρ : x_T, x_fr y_Sp σ1 ρ → ρ.1 374 = σ2.1 374 → (∀ ρ2 : x_T, x_fr y_Sp σ1 ρ2 → ρ2.1 374 = σ2.1 374 → y_co A L a2.toInt P j + R j = R P → (¬ nI k = a3 → ∀ y3, y3 = nI k + 1 → x_WI 2000 mX12_least K 93 [(0, .ref 345), (1, .int (nI hh)), (2, .int a2), (3, .int a3), (4, .int (nI j)), (5, .int y3)] [] ρ2) ∧ (nI k = a3 → K ρ2 (nI j))) → (∀ ρ2 : x_T, x_fr y_Sp σ1 ρ2 → ρ2.1 374 = σ2.1 374 → ¬ y_co A L a2.toInt P j + R j = R P → x_WI 2000 mX12_least K 148 [(0, .ref 345), (1, .int (nI hh)), (2, .int a2), (3, .int a3), (4, .int (nI P)), (5, .int (nI k)), (6, .int (nI j))] [] ρ2) → x_WI 2000 mX12_least K 102 [(0, .ref 345), (1, .int (nI hh)), (2, .int a2), (3, .int a3), (4, .int (nI P)), (5, .int (nI k)), (6, .int (nI j))] [] ρ := by
                    intro j hj ρ f3 r4 hy hno
                    have zj : (nI j).toInt = j := z_n (by omega)
                    have mcρ := mc_fr mc1 f3 Sp_mc
                    have lane := mcρ.1 (30 + (8 * P + j)) (by omega) (by omega)
                    have fj := fbF j hj
                    have bj := bdF j
                    have bln := wA.2.2.2.2.1 (8 * P + j) (by omega)
                    refine k_X12_least_102 ?_
                    rw [ix_30n, nI_clamp (n := 30 + (8 * P + j)) (by omega)]
                    refine ⟨vp_in_nI (by omega) (by decide), fun q => hno ρ f3 r4 ?_, fun q => ?_⟩
                    · rw [z_eq, lane] at q
                      simp only [Int32.reduceToInt] at q
                      have : y_co A L a2.toInt P j = 1000000 := by
                        rw [ce, if_neg]
                        rw [z_ln]
                        split
                        · rw [Int.toNat_natCast, Int.toNat_natCast, q]; omega
                        · omega
                      omega
                    · rw [z_eq, lane] at q
                      simp only [Int32.reduceToInt] at q
                      have sy := wA.2.2.2.2.2.1 P j p2 hj
                      have sy2 := wA.2.2.2.2.2.1 j P hj p2
                      have PN : (P : Int) < A 0 := by
                        rcases Int.lt_or_le P (A 0) with r | r
                        · exact r
                        · exact absurd (sy.2.1 r) q
                      have jN : (j : Int) < A 0 := by
                        rcases Int.lt_or_le j (A 0) with r | r
                        · exact r
                        · exact absurd (by rw [sy.1]; exact sy2.2.1 r) q
                      have ln : z_ln A P j = A (30 + (8 * P + j)) := by rw [z_ln, if_pos (by omega)]; rfl
                      have hcv : y_co A L a2.toInt P j = z_hard A (x_La L A) (z_dy A) P j a2.toInt := by rw [ce, ln, if_pos (by omega)]
                      have cb : 1 ≤ y_co A L a2.toInt P j ∧ y_co A L a2.toInt P j ≤ 999 := by rw [hcv]; exact z_hard_b wA _ _ _ _ _
                      refine ml_hardOf (e := z_dy A) mcρ wA (md_Sp g1 f3) (by omega) (by omega) ⟨ok.2.2.2.1, ok.2.2.2.2⟩ wD.2.2.2.2.2.1 (fun ρ2 u f4 hu => ?_)
                      rw [zP, zj, ← hcv] at hu
                      have f5 : x_fr y_Sp σ1 ρ2 := fr_t f3 (fr_m (fun c hc => Or.inl hc) f4)
                      have r5 : ρ2.1 374 = σ2.1 374 := (f4.1 374 (by unfold x_sN; omega)).trans r4
                      rw [nI_clamp (n := j) (by omega), nI_clamp (n := P) (by omega), r5]
                      have gj := g7 j hj
                      have gP := g7 P p2
                      rw [mP] at gP
                      have sm : (u + σ2.1 374 j).toInt = y_co A L a2.toInt P j + y_mv (R j) := by
                        have : 0 ≤ y_mv (R j) ∧ y_mv (R j) ≤ 1000000 := by rw [y_mv]; split <;> omega
                        rw [z_add (by rw [hu, gj]; omega), hu, gj]
                      refine ⟨vp_in_nI (by omega) (by decide), vp_in_nI (by omega) (by decide), fun q2 => hy ρ2 f5 r5 ?_, fun q2 => hno ρ2 f5 r5 ?_⟩
                      · rw [z_eq, sm, gP] at q2
                        rw [y_mv] at q2
                        split at q2 <;> omega
                      · rw [z_eq, sm, gP] at q2
                        rw [y_mv] at q2
                        split at q2 <;> omega
                  refine z_down ?_ ?_
                  · intro ρ f3 r4
                    refine row X x1 ρ f3 r4 (fun ρ2 f4 r5 _ => ⟨fun z y3 e3 => ?_, fun z => hK ρ2 _ (fr_t fx (fr_m Sp_x f4)) ?_⟩) (fun ρ2 _ _ z => absurd x2 z)
                    · rw [z_eq, z_n (by omega)] at z
                      rw [e3, ← nI_succ, ← b8]
                      exact ih (by omega) ρ2 f4 r5
                    · rw [z_eq, z_n (by omega)] at z
                      rw [hZ3 fin (by omega) (by omega), z_n (by omega), ← b8]
                      congr 2
                      omega
                  · intro j hj ih2 ρ f3 r4
                    refine row j (by omega) ρ f3 r4 (fun ρ2 f4 r5 z => absurd z (x3 j hj)) (fun ρ2 f4 r5 _ => k_X12_least_148 (fun y1 e1 => ?_))
                    rw [e1, ← nI_succ]
                    exact ih2 ρ2 f4 r5
                exact lp2 0 (by omega) ρ f3 r4
            exact lp 0 (by omega) (fun z => z) σ2 f2 rfl
          · rw [z_eq, n2] at z2
            rw [gs, ms, hZ1 fin z2]
        · rw [z_le, gs] at q
          simp only [Int32.reduceToInt] at q
          have : ¬ R s < 1000000 := by
            intro z
            rw [y_mv, if_neg (by omega)] at q
            omega
          rw [hZ0 (Or.inl this)]; exact n3
      · rw [z_le, r2] at z; simp only [Int32.reduceToInt] at z; omega
      · rw [k1] at z; simp only [Int32.reduceToInt] at z; omega
  · refine pair_q h (-3) (fun K hK => ?_) (fun σ f K hK => ?_)
    · have bad : K τ (-3) := hK τ _ (fr_r _ _) n3
      refine e_X11_least ⟨fun q => bad, fun q => cl_isHouse hcl wA (fun p1 p2 => ⟨fun _ => bad, fun _ => cl_isPusher hcl wA (fun p3 p4 => ?_) (fun _ => ⟨fun z => absurd rfl z, fun _ => bad⟩)⟩) (fun _ => ⟨fun _ => bad, fun z => absurd rfl z⟩)⟩
      rw [z_lt, e2] at q; simp only [Int32.reduceToInt] at q; omega
    · have hmσ := hmX_fr hmm f
      refine e_X12_least (ml_laysNow hmσ wA (fun σ1 f1 g1 mc1 hm1 => ?_))
      have bad : K σ1 (-3) := hK σ1 _ (fr_m s69_x f1) n3
      have m0 := jA_at hm1.1 0
      have m1 := jA_at hm1.1 1
      have k1 : (σ1.1 346 1 - 1).toInt = A 1 - 1 := by rw [z_sub (by rw [m1]; simp only [Int32.reduceToInt]; omega), m1]; rfl
      have r2 : (σ1.1 370 2).toInt = A 132 := g1 2 (by omega)
      refine ml_isHouse wA m0 (fun p1 p2 => ⟨fun _ => bad, fun _ => ml_in (fun p3 p4 => ⟨fun _ => bad, fun _ => ⟨fun _ => bad, fun _ => ⟨fun z => ?_, fun _ => bad⟩⟩⟩) (fun _ => ⟨fun _ => bad, fun z => absurd rfl z⟩)⟩) (fun _ => ⟨fun _ => bad, fun z => absurd rfl z⟩)
      rw [z_le, r2] at z
      rw [k1] at p4
      simp only [Int32.reduceToInt] at z p3
      omega
