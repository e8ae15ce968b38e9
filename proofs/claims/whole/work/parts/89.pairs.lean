/-! pairs of deeds -/
def x_pr (mc mm : x_M) (ac am : List Value) (τ : x_T) : Prop := x_CI 2000 mc ac τ (fun τ1 u => x_CI 2000 mm am τ1 (fun τ2 v => u = v ∧ x_J τ2))
theorem q_push (hL : x_HL) {τ : x_T} (h : x_J τ) (a1 a2 : Int32) : x_CI 2000 mX11_push [.ref 0, .int a1, .int a2] τ (fun τ1 u => x_CI 2000 mX12_push [.ref 345, .int a1, .int a2] τ1 (fun τ2 v => u = v ∧ x_J τ2)) := by
  obtain ⟨L, l1, l2⟩ := hL τ h
  refine cs_push (J_hc h l1) (fun σ u f g hu => ms_push (hmC_fr ⟨rfl, l2⟩ f) (hf_wH h.1) (fun ρ v f2 g2 hv => ⟨z_eq.mpr (by rw [hu, hv]), J_of h f g f2 g2 (push_3 (by omega) (by omega)) (push_3 (by omega) (by omega))⟩))
theorem q_tip (hL : x_HL) {τ : x_T} (h : x_J τ) : x_CI 2000 mX11_tip [.ref 0] τ (fun τ1 u => x_CI 2000 mX12_tip [.ref 345] τ1 (fun τ2 v => u = v ∧ x_J τ2)) := by
  obtain ⟨L, l1, l2⟩ := hL τ h
  refine cs_tip (J_hc h l1) (fun σ u f g hu => ms_tip (hmC_fr ⟨rfl, l2⟩ f) (hf_wH h.1) (fun ρ v f2 g2 hv => ⟨z_eq.mpr (by rw [hu, hv]), J_of h f g f2 g2 (tip_3 (by omega) (by omega)) (tip_3 (by omega) (by omega))⟩))
theorem q_mend (hL : x_HL) {τ : x_T} (h : x_J τ) : x_CI 2000 mX11_mend [.ref 0] τ (fun τ1 u => x_CI 2000 mX12_mend [.ref 345] τ1 (fun τ2 v => u = v ∧ x_J τ2)) := by
  obtain ⟨L, l1, l2⟩ := hL τ h
  refine cs_mend (J_hc h l1) (fun σ u f g hu => ms_mend (hmC_fr ⟨rfl, l2⟩ f) (hf_wH h.1) (fun ρ v f2 g2 hv => ⟨z_eq.mpr (by rw [hu, hv]), J_of h f g f2 g2 (mend_3 (by omega) (by omega)) (mend_3 (by omega) (by omega))⟩))
theorem q_minute (hL : x_HL) {τ : x_T} (h : x_J τ) (a1 : Int32) : x_CI 2000 mX11_minute [.ref 0, .int a1] τ (fun τ1 u => x_CI 2000 mX12_minute [.ref 345, .int a1] τ1 (fun τ2 v => u = v ∧ x_J τ2)) := by
  obtain ⟨L, l1, l2⟩ := hL τ h
  refine cs_min (J_hc h l1) (fun σ u f g hu => ms_min (hmC_fr ⟨rfl, l2⟩ f) (hf_wH h.1) (fun ρ v f2 g2 hv => ⟨z_eq.mpr (by rw [hu, hv]), J_of h f g f2 g2 (min_3 (by omega) (by omega)) (min_3 (by omega) (by omega))⟩))
theorem q_years (hL : x_HL) {τ : x_T} (h : x_J τ) (a1 a2 : Int32) : x_CI 2000 mX11_years [.ref 0, .int a1, .int a2] τ (fun τ1 u => x_CI 2000 mX12_years [.ref 345, .int a1, .int a2] τ1 (fun τ2 v => u = v ∧ x_J τ2)) := by
  obtain ⟨L, l1, l2⟩ := hL τ h
  refine cs_years (J_hc h l1) (fun σ u f g hu => ms_years (hmC_fr ⟨rfl, l2⟩ f) (hf_wH h.1) (fun ρ v f2 g2 hv => ⟨z_eq.mpr (by rw [hu, hv]), J_of h f g f2 g2 (yr_3 (by omega) (by omega)) (yr_3 (by omega) (by omega))⟩))
theorem un_3 {A : Nat → Int} {k : Nat} (hk : k < 130) (h4 : k ≠ 4) : z_un A k = A k := by unfold z_un; rw [put_lt hk, z_set_e, if_neg h4]
theorem q_undo {τ : x_T} (h : x_J τ) : x_CI 2000 mX11_undo [.ref 0] τ (fun τ1 u => x_CI 2000 mX12_undo [.ref 345] τ1 (fun τ2 v => u = v ∧ x_J τ2)) := by
  have w4 := (hf_wH h.1).2.2
  refine cl_undo h.1 (fun h0 => ml_undo rfl w4 (fun _ => ⟨rfl, h⟩) (fun _ _ z => absurd h0 (by omega))) (fun σ u h0 f g hu => ml_undo (A := j_A τ) (jA_fr f (by unfold j_sC; omega)) w4 (fun z => absurd z (by omega)) (fun ρ v _ f2 g2 hv => ⟨z_eq.mpr (by rw [hu, hv]), J_of h f g (fr_m s46_sM f2) g2 (un_3 (by omega) (by omega)) (un_3 (by omega) (by omega))⟩))
/-! what is asked -/
theorem J_q {τ σ ρ : x_T} (h : x_J τ) (f : x_fr x_sc τ σ) (g : x_fr x_sc σ ρ) : x_J ρ := J_fr h (fr_t f g)
theorem sL_x (c : Nat) (h : x_sL c) : x_sc c := by unfold x_sL at h; unfold x_sc; omega
theorem sN_x (c : Nat) (h : x_sN c) : x_sc c := by unfold x_sN at h; unfold x_sc; omega
theorem sW_x (c : Nat) (h : x_sW c) : x_sc c := by unfold x_sW at h; unfold x_sc; omega
theorem s69_x (c : Nat) (h : c = 369 ∨ c = 370) : x_sc c := by unfold x_sc; omega
theorem q_about {τ : x_T} (h : x_J τ) (a1 : Int32) : x_CI 2000 mX11_about [.ref 0, .int a1] τ (fun τ1 u => x_CI 2000 mX12_about [.ref 345, .int a1] τ1 (fun τ2 v => u = v ∧ x_J τ2)) := by
  have he : x_cd 13 τ (z_dy (j_A τ)) := h.1.2.2.2.1
  have m : ∀ u : Int32, (a1 = 0 → u.toInt = j_A τ 0) → (¬ a1 = 0 → a1 = 1 → u.toInt = j_A τ 1) → (¬ a1 = 0 → ¬ a1 = 1 → a1 = 2 → u.toInt = j_A τ 135) → (¬ a1 = 0 → ¬ a1 = 1 → ¬ a1 = 2 → a1 = 3 → u.toInt = j_A τ 136) → (¬ a1 = 0 → ¬ a1 = 1 → ¬ a1 = 2 → ¬ a1 = 3 → a1 = 4 → u.toInt = j_A τ 2) → (¬ a1 = 0 → ¬ a1 = 1 → ¬ a1 = 2 → ¬ a1 = 3 → ¬ a1 = 4 → a1 = 5 → u.toInt = j_A τ 3) → (¬ a1 = 0 → ¬ a1 = 1 → ¬ a1 = 2 → ¬ a1 = 3 → ¬ a1 = 4 → ¬ a1 = 5 → a1 = 6 → u.toInt = j_A τ 4) → (¬ a1 = 0 → ¬ a1 = 1 → ¬ a1 = 2 → ¬ a1 = 3 → ¬ a1 = 4 → ¬ a1 = 5 → ¬ a1 = 6 → a1 = 7 → u.toInt = j_A τ 5) → (¬ a1 = 0 → ¬ a1 = 1 → ¬ a1 = 2 → ¬ a1 = 3 → ¬ a1 = 4 → ¬ a1 = 5 → ¬ a1 = 6 → ¬ a1 = 7 → a1 = 8 → u.toInt = j_A τ 6) → (¬ a1 = 0 → ¬ a1 = 1 → ¬ a1 = 2 → ¬ a1 = 3 → ¬ a1 = 4 → ¬ a1 = 5 → ¬ a1 = 6 → ¬ a1 = 7 → ¬ a1 = 8 → a1 = 9 → u.toInt = (τ.1 345 3).toInt) → (¬ a1 = 0 → ¬ a1 = 1 → ¬ a1 = 2 → ¬ a1 = 3 → ¬ a1 = 4 → ¬ a1 = 5 → ¬ a1 = 6 → ¬ a1 = 7 → ¬ a1 = 8 → ¬ a1 = 9 → u.toInt = -2) → x_CI 2000 mX12_about [.ref 345, .int a1] τ (fun τ2 v => u = v ∧ x_J τ2) := by
    intro u m0 m1 m2 m3 m4 m5 m6 m7 m8 m9 m10
    exact e_X12_about ⟨fun q => ⟨z_eq.mpr (m0 q), h⟩, fun q0 => ⟨fun q => ⟨z_eq.mpr (m1 q0 q), h⟩, fun q1 => ⟨fun q => ⟨z_eq.mpr (m2 q0 q1 q), h⟩, fun q2 => ⟨fun q => ⟨z_eq.mpr (m3 q0 q1 q2 q), h⟩, fun q3 => ⟨fun q => ⟨z_eq.mpr (m4 q0 q1 q2 q3 q), h⟩, fun q4 => ⟨fun q => ⟨z_eq.mpr (m5 q0 q1 q2 q3 q4 q), h⟩, fun q5 => ⟨fun q => ⟨z_eq.mpr (m6 q0 q1 q2 q3 q4 q5 q), h⟩, fun q6 => ⟨fun q => ⟨z_eq.mpr (m7 q0 q1 q2 q3 q4 q5 q6 q), h⟩, fun q7 => ⟨fun q => ⟨z_eq.mpr (m8 q0 q1 q2 q3 q4 q5 q6 q7 q), h⟩, fun q8 => ⟨fun q => ⟨z_eq.mpr (m9 q0 q1 q2 q3 q4 q5 q6 q7 q8 q), h⟩, fun q9 => ⟨z_eq.mpr (m10 q0 q1 q2 q3 q4 q5 q6 q7 q8 q9), h⟩⟩⟩⟩⟩⟩⟩⟩⟩⟩⟩
  have v0 := h.1.2.1.1
  have v1 := h.1.2.1.2.1
  have v2 : (τ.1 13 5).toInt = j_A τ 135 := cd_0 he (k := 5) (by omega)
  have v3 : (τ.1 13 6).toInt = j_A τ 136 := cd_0 he (k := 6) (by omega)
  have v4 := h.2.2.1.1.1
  have v5 := h.2.2.1.1.2.1
  have v6 := h.1.2.2.2.2.1
  have v7 : (τ.1 7 2).toInt = j_A τ 5 := h.1.2.1.2.2.2.2.2.2.2.1.1
  have v8 : (τ.1 10 2).toInt = j_A τ 6 := h.1.2.1.2.2.2.2.2.2.2.2.1
  have v9 := h.2.2.2.1.1
  refine e_X11_about ⟨fun q => m _ ?_ ?_ ?_ ?_ ?_ ?_ ?_ ?_ ?_ ?_ ?_, fun q0 => ⟨fun q => m _ ?_ ?_ ?_ ?_ ?_ ?_ ?_ ?_ ?_ ?_ ?_, fun q1 => ⟨fun q => m _ ?_ ?_ ?_ ?_ ?_ ?_ ?_ ?_ ?_ ?_ ?_, fun q2 => ⟨fun q => m _ ?_ ?_ ?_ ?_ ?_ ?_ ?_ ?_ ?_ ?_ ?_, fun q3 => ⟨fun q => m _ ?_ ?_ ?_ ?_ ?_ ?_ ?_ ?_ ?_ ?_ ?_, fun q4 => ⟨fun q => m _ ?_ ?_ ?_ ?_ ?_ ?_ ?_ ?_ ?_ ?_ ?_, fun q5 => ⟨fun q => m _ ?_ ?_ ?_ ?_ ?_ ?_ ?_ ?_ ?_ ?_ ?_, fun q6 => ⟨fun q => m _ ?_ ?_ ?_ ?_ ?_ ?_ ?_ ?_ ?_ ?_ ?_, fun q7 => ⟨fun q => m _ ?_ ?_ ?_ ?_ ?_ ?_ ?_ ?_ ?_ ?_ ?_, fun q8 => ⟨fun q => m _ ?_ ?_ ?_ ?_ ?_ ?_ ?_ ?_ ?_ ?_ ?_, fun q9 => m _ ?_ ?_ ?_ ?_ ?_ ?_ ?_ ?_ ?_ ?_ ?_⟩⟩⟩⟩⟩⟩⟩⟩⟩⟩ <;> intros <;> first | assumption | contradiction | rfl
