/-! all clauses, read by both -/
def q_cR (b : Nat → Int) (n t p L : Nat) (S : List q_se) (E : x_T → x_T → Prop) : Prop := ∀ (D : Nat) (σ : x_T) (v2 : Int32) (K : x_T → Prop), 72 ≤ D → v2.toInt = S.length → q_st σ b n t p L → q_cS σ t S → (∀ ρ, E σ ρ → K ρ) → x_WV D mX6_read K 36 [(0, .ref 319), (2, .int v2)] [] σ
def q_gR (t : Nat) (S : List q_se) (σ ρ : x_T) : Prop := x_fr (q_sR t) σ ρ ∧ ρ.1 319 4 = 0 ∧ ρ.1 319 5 = σ.1 319 5 ∧ q_cS ρ t S
def q_GG (m : Nat) (S : List q_se) : q_KF := fun K0 σ => ∀ ρ, q_kM σ ρ 0 0 → ρ.1 345 19 = 0 → ρ.1 345 20 = -1 → (ρ.1 345 37).toInt = m → q_mS ρ S → x_WI (1999 + 1) mX12_text K0 167 [(0, .ref 345)] [] ρ
theorem st_z {σ : x_T} {b : Nat → Int} {n t p L : Nat} (h : q_st σ b n t p L) : σ.1 319 4 = 0 := z_eq.mpr (by rw [h.2.2.2.1]; rfl)
theorem cl_all {b : Nat → Int} {n t : Nat} (ht : t < 4) (hn : n ≤ 300) : ∀ (r : Nat) (p L m : Nat) (S : List q_se), n - p ≤ r → p ≤ n → L ≤ p → m ≤ p → q_vS S L m → (∃ (fl : Int32) (pf : Nat), q_cR b n t p L S (q_cB b n t fl pf) ∧ q_mC b n p m S (q_FB b n fl pf)) ∨ (∃ (L' m' : Nat) (S' : List q_se), q_cR b n t p L S (q_gR t S') ∧ q_mC b n p m S (q_GG m' S') ∧ q_vS S' L' m' ∧ L' ≤ 300 ∧ m' ≤ 300) := by
  have fin : ∀ (p L m : Nat) (S : List q_se), L ≤ 300 → m ≤ 300 → q_K b n p = 46 → q_vS S L m → (∃ (fl : Int32) (pf : Nat), q_cR b n t p L S (q_cB b n t fl pf) ∧ q_mC b n p m S (q_FB b n fl pf)) ∨ (∃ (L' m' : Nat) (S' : List q_se), q_cR b n t p L S (q_gR t S') ∧ q_mC b n p m S (q_GG m' S') ∧ q_vS S' L' m' ∧ L' ≤ 300 ∧ m' ≤ 300) := by
    intro p L m S hL hm hk hv
    refine Or.inr ⟨L, m, S, ?_, ?_, hv, hL, hm⟩
    · intro D σ v2 K hD hv2 hs hS hK
      obtain ⟨d, rfl⟩ : ∃ d, D = d + 1 := ⟨D - 1, by omega⟩
      have g : K σ := hK σ ⟨fr_r _ _, st_z hs, rfl, hS⟩
      exact k_X6_read_36 ⟨fun _ => g, fun _ => ⟨fun _ => g, fun _ => cl_kindAt hs.1 hs.2.2.1 (fun u hu => ⟨fun _ => g, fun q => absurd (z_eq.mpr (by rw [hu, hk]; rfl)) q⟩)⟩⟩
    · intro K0 σ w0 hs hS hE
      have g := hE σ (kM_r _ _ _) hs.2.2.1 hs.2.2.2.2.2.2.2.1.2 hs.2.2.2.2.2.2.2.2 hS
      exact k_X12_text_74 ⟨fun q => absurd hs.2.2.1 q, fun _ => ⟨fun q => absurd (z_eq.mpr (by rw [hs.2.2.2.2.2.2.1]; rfl)) q, fun _ => ⟨fun _ => g, fun q => absurd (z_eq.mpr ((tq_E hs.2.1.2.2 (K_b b n p)).mpr hk)) q⟩⟩⟩
  intro r
  induction r with
  | zero =>
    intro p L m S hr hp hL hm hv
    by_cases hk : q_K b n p = 46
    · exact fin p L m S (by omega) (by omega) hk hv
    · have := K_lt hk; omega
  | succ r ih =>
    intro p L m S hr hp hL hm hv
    by_cases hk : q_K b n p = 46
    · exact fin p L m S (by omega) (by omega) hk hv
    · have cstep : ∀ (E1 E : x_T → x_T → Prop), q_cC b n t p L S E1 → (∀ (d : Nat) (σ ρ : x_T) (y5 : Int32) (K : x_T → Prop), 72 ≤ d + 1 → y5.toInt = (S.length + 1 : Nat) → q_st σ b n t p L → E1 σ ρ → (∀ π, E σ π → K π) → x_WV (d + 1) mX6_read K 36 [(0, .ref 319), (2, .int y5)] [] ρ) → q_cR b n t p L S E := by
        intro E1 E h1 h2 D σ v2 K hD hv2 hs hS hK
        obtain ⟨d, rfl⟩ : ∃ d, D = d + 1 := ⟨D - 1, by omega⟩
        have h24 := hv.1
        refine k_X6_read_36 ⟨fun q => ?_, fun _ => ⟨fun q => absurd (st_z hs) q, fun _ => cl_kindAt hs.1 hs.2.2.1 (fun u hu => ⟨fun q => absurd (by rw [← hu, q]; rfl) hk, fun _ => h1 d σ _ (by omega) hs hS (fun ρ e y5 e5 => h2 d σ ρ y5 K hD ?_ hs e hK)⟩)⟩⟩
        · rw [z_lt, hv2] at q; simp only [Int32.reduceToInt] at q; omega
        · rw [e5, z_add (by rw [hv2]; simp only [Int32.reduceToInt]; omega), hv2]; simp only [Int32.reduceToInt]; omega
      rcases cl_step ht hn hL hm hv hk with ⟨fl, pf, c1, m1⟩ | ⟨p', L', m', e, c1, m1, v1, a1, a2, a3, a4⟩
      · refine Or.inl ⟨fl, pf, cstep _ _ c1 (fun d σ ρ y5 K hd hy hs e hK => ?_), m1⟩
        have fa := cB_a e hs ht
        exact k_X6_read_36 ⟨fun _ => hK ρ e, fun _ => ⟨fun _ => hK ρ e, fun q => absurd q fa.2.1⟩⟩
      · have len : (S ++ [e]).length = S.length + 1 := by rw [List.length_append]; rfl
        rcases ih p' L' m' (S ++ [e]) (by omega) a2 a3 a4 v1 with ⟨fl, pf, c2, m2⟩ | ⟨L2, m2', S2, c2, m2, v2, b1, b2⟩
        · refine Or.inl ⟨fl, pf, cstep _ _ c1 (fun d σ ρ y5 K hd hy hs g hK => c2 (d + 1) ρ y5 K hd (by rw [hy, len]) g.1 g.2.2 (fun π e => hK π ⟨fr_t g.2.1.1 e.1, e.2.1, e.2.2.1, e.2.2.2⟩)), ?_⟩
          intro K0 σ w0 hs hS hE
          exact m1 K0 σ w0 hs hS (fun ρ w1 ms mS k => m2 K0 ρ w1 (m0_of ms) mS (fun π k2 e1 e2 => hE π (kM_t k k2) e1 e2))
        · refine Or.inr ⟨L2, m2', S2, cstep _ _ c1 (fun d σ ρ y5 K hd hy hs g hK => c2 (d + 1) ρ y5 K hd (by rw [hy, len]) g.1 g.2.2 (fun π e => hK π ⟨fr_t g.2.1.1 e.1, e.2.1, e.2.2.1.trans g.2.1.2, e.2.2.2⟩)), ?_, v2, b1, b2⟩
          intro K0 σ w0 hs hS hE
          exact m1 K0 σ w0 hs hS (fun ρ w1 ms mS k => m2 K0 ρ w1 (m0_of ms) mS (fun π k2 e1 e2 e3 e4 => hE π (kM_t k k2) e1 e2 e3 e4))
