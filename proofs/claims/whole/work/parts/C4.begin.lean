/-! the tie at the beginning -/
def y_G (k : Nat) : Int := if k = 3 then -1 else if 22 ≤ k ∧ k < 30 then 1 else if k = 131 ∨ k = 133 then -1 else if k = 134 then 99 else if k = 136 then 89 else 0
set_option maxRecDepth 100000 in
theorem tM_a : ∀ k, k < 244 → (x_tM.1 346 k).toInt = y_G k := by decide +kernel
set_option maxRecDepth 100000 in
theorem tM_c : ∀ c, c < 13 → ∀ k, k < 64 → 1 ≤ c → (x_tM.1 c k).toInt = 0 := by decide +kernel
set_option maxRecDepth 100000 in
theorem tM_i : ∀ c, c < 12 → ∀ k, k < 64 → (x_tM.1 (176 + c) k).toInt = 0 := by decide +kernel
set_option maxRecDepth 100000 in
theorem tM_d : (∀ k, k < 7 → (x_tM.1 13 k).toInt = y_G (130 + k) ∧ (x_tM.1 188 k).toInt = y_G (130 + k)) ∧ (∀ k, k < 8 → (x_tM.1 14 k).toInt = y_G (137 + k) ∧ (x_tM.1 189 k).toInt = y_G (137 + k)) ∧ (∀ k, k < 8 → (x_tM.1 15 k).toInt = y_G (145 + k) ∧ (x_tM.1 190 k).toInt = y_G (145 + k)) ∧ ((x_tM.1 13 9).toInt = y_G 153 ∧ (x_tM.1 188 9).toInt = y_G 153) ∧ (∀ k, k < 90 → (x_tM.1 16 k).toInt = y_G (154 + k) ∧ (x_tM.1 191 k).toInt = y_G (154 + k)) := by decide +kernel
set_option maxRecDepth 100000 in
theorem tM_m : (x_tM.1 0 4).toInt = 0 ∧ (x_tM.1 0 5).toInt = -1 ∧ (x_tM.1 0 9).toInt = 0 ∧ (x_tM.1 0 10).toInt = -1 ∧ (x_tM.1 17 1).toInt = 0 ∧ (x_tM.1 17 2).toInt = 0 ∧ (x_tM.1 192 1).toInt = 0 ∧ (x_tM.1 192 2).toInt = 0 ∧ (x_tM.1 314 1).toInt = 0 ∧ (x_tM.1 345 3).toInt = 0 ∧ x_tM.1 319 4 = x_tM.1 345 4 ∧ x_tM.1 319 5 = x_tM.1 345 5 ∧ x_tM.2.2.2 = none := by decide +kernel
set_option maxRecDepth 100000 in
theorem tM_t : ∀ k, k < 300 → (x_tM.1 315 k).toInt = 0 ∧ (x_tM.1 348 k).toInt = 0 := by decide +kernel
theorem G_0 {k : Nat} (h : ¬ k = 3 ∧ ¬ (22 ≤ k ∧ k < 30) ∧ ¬ k = 131 ∧ ¬ k = 133 ∧ ¬ k = 134 ∧ ¬ k = 136) : y_G k = 0 := by
  unfold y_G
  rw [if_neg h.1, if_neg h.2.1, if_neg (by omega), if_neg h.2.2.2.2.1, if_neg h.2.2.2.2.2]
theorem hf_0 {B D P : Nat} {τ : x_T} {A : Nat → Int} (hA : ∀ k, k < 244 → A k = y_G k) (hB : ∀ c, c < 12 → ∀ k, k < 64 → (τ.1 (B + c) k).toInt = 0)
    (h0 : ∀ k, k < 7 → (τ.1 D k).toInt = y_G (130 + k)) (h1 : ∀ k, k < 8 → (τ.1 (D + 1) k).toInt = y_G (137 + k)) (h2 : ∀ k, k < 8 → (τ.1 (D + 2) k).toInt = y_G (145 + k)) (h9 : (τ.1 D 9).toInt = y_G 153) (h3 : ∀ k, k < 90 → (τ.1 (D + 3) k).toInt = y_G (154 + k)) (hP1 : (τ.1 P 1).toInt = 0) (hP2 : (τ.1 P 2).toInt = 0) : x_hf B D P τ A := by
  have z : ∀ k, k < 244 → ¬ k = 3 ∧ ¬ (22 ≤ k ∧ k < 30) ∧ ¬ k = 131 ∧ ¬ k = 133 ∧ ¬ k = 134 ∧ ¬ k = 136 → A k = 0 := fun k hk h => (hA k hk).trans (G_0 h)
  have a0 := z 0 (by omega) (by omega)
  have a1 := z 1 (by omega) (by omega)
  have a4 := z 4 (by omega) (by omega)
  have a5 := z 5 (by omega) (by omega)
  have a6 := z 6 (by omega) (by omega)
  refine ⟨⟨by omega, fun h hh => ?_, fun q hq => ?_, fun h hh => ?_, fun k hk => ?_, fun i j hi hj => ?_, ⟨by omega, by omega, fun i hi hlt => by omega⟩, ⟨by omega, by omega, fun i hi hlt => by omega⟩⟩, ⟨?_, ?_, fun h hh => ?_, fun h hh hlt => by omega, fun q hq => ?_, fun k hk => ?_, fun h0 => by omega, ⟨?_, fun i hi => ⟨?_, ?_⟩⟩, ⟨?_, fun i hi => ⟨?_, ?_⟩⟩⟩, ?_, ?_, ?_⟩
  · rw [z (10 + h) (by omega) (by omega)]; omega
  · rw [z (18 + q) (by omega) (by omega)]; omega
  · have e : A (22 + h) = 1 := by
      rw [hA (22 + h) (by omega)]
      unfold y_G
      rw [if_neg (by omega), if_pos (by omega)]
    rw [e]; omega
  · rw [z (30 + k) (by omega) (by omega)]; omega
  · rw [z (30 + (8 * i + j)) (by omega) (by omega), z (30 + (8 * j + i)) (by omega) (by omega)]
    exact ⟨rfl, fun _ => rfl, fun _ => rfl⟩
  · rw [a0]; exact hB 0 (by omega) 0 (by omega)
  · rw [a1]; exact hB 0 (by omega) 1 (by omega)
  · rw [z (10 + h) (by omega) (by omega)]; exact hB 1 (by omega) h (by omega)
  · rw [z (18 + q) (by omega) (by omega)]; exact hB 3 (by omega) q (by omega)
  · rw [z (30 + k) (by omega) (by omega)]; exact hB 4 (by omega) k hk
  · rw [a5]; exact hB 6 (by omega) 2 (by omega)
  · rw [z (94 + 2 * i) (by omega) (by omega)]; exact hB 7 (by omega) i (by omega)
  · rw [z (95 + 2 * i) (by omega) (by omega)]; exact hB 8 (by omega) i (by omega)
  · rw [a6]; exact hB 9 (by omega) 2 (by omega)
  · rw [z (110 + 2 * i) (by omega) (by omega)]; exact hB 10 (by omega) i (by omega)
  · rw [z (111 + 2 * i) (by omega) (by omega)]; exact hB 11 (by omega) i (by omega)
  · have e : ∀ k, k < 114 → A (130 + k) = y_G (130 + k) := fun k hk => hA _ (by omega)
    have e0 := z 130 (by omega) (by omega)
    have e1 : A 131 = -1 := hA 131 (by omega)
    have e2 := z 132 (by omega) (by omega)
    have e3 : A 133 = -1 := hA 133 (by omega)
    have e4 : A 134 = 99 := hA 134 (by omega)
    have e5 := z 135 (by omega) (by omega)
    have e6 : A 136 = 89 := hA 136 (by omega)
    have e23 := z 153 (by omega) (by omega)
    refine ⟨?_, ?_, fun q => ?_, fun _ => ?_, ?_, ?_, ?_, fun h hh => ?_, fun h hh => ?_, ?_⟩
    · show 0 ≤ A 130 ∧ (A 130 = 0 ∨ A 130 < A 0); omega
    · show 0 ≤ A 132 ∧ A 132 ≤ 9999; omega
    · have q : 0 < A 132 := q; omega
    · exact ⟨e1, e3⟩
    · show 0 ≤ A 134 ∧ A 134 ≤ 99; omega
    · show 0 ≤ A 135 ∧ A 135 ≤ 9999; omega
    · show 0 ≤ A 136 ∧ A 136 < 30313; omega
    · show -999 ≤ A (130 + (7 + h)) ∧ A (130 + (7 + h)) ≤ 9999
      rw [z _ (by omega) (by omega)]; omega
    · show 0 ≤ A (130 + (15 + h)) ∧ A (130 + (15 + h)) ≤ 99
      rw [z _ (by omega) (by omega)]; omega
    · show 0 ≤ A 153 ∧ A 153 ≤ 30; omega
  · refine cd_of (fun k hk => ?_) (fun k hk => ?_) (fun k hk => ?_) ?_ (fun k hk => ?_)
    · rw [h0 k hk]; exact (hA _ (by omega)).symm
    · rw [h1 k hk]; show _ = A (130 + (7 + k)); rw [hA _ (by omega)]; congr 1; omega
    · rw [h2 k hk]; show _ = A (130 + (15 + k)); rw [hA _ (by omega)]; congr 1; omega
    · rw [h9]; exact (hA 153 (by omega)).symm
    · rw [h3 k hk]; show _ = A (130 + (24 + k)); rw [hA _ (by omega)]; congr 1; omega
  · exact ⟨by rw [hP2, a4], by omega, by omega, 0, by omega, by rw [hP1]; rfl, fun i hi => by omega⟩
theorem J_0 : x_CV 1999 mX12_copies [.ref 345, .int 1] x_tM x_J := by
  refine p_copies1 ?_
  obtain ⟨m1, m2, m3, m4, m5, m6, m7, m8, m9, m10, m11, m12, m13⟩ := tM_m
  obtain ⟨d0, d1, d2, d9, d3⟩ := tM_d
  have ma := tM_a
  have mc := tM_c
  have mi := tM_i
  have mt := tM_t
  generalize x_tM = τ at m1 m2 m3 m4 m5 m6 m7 m8 m9 m10 m11 m12 m13 d0 d1 d2 d9 d3 ma mc mi mt
  generalize hρ : x_st τ 347 3670 (fun j => (τ.1 346 j).toInt) = ρ
  have g : ∀ c, ¬ c = 347 → ρ.1 c = τ.1 c := fun c hc => by rw [← hρ]; exact st_ne hc
  have gr : ρ.2.2 = τ.2.2 := by rw [← hρ]; rfl
  have hA : ∀ k, k < 244 → j_A ρ k = y_G k := fun k hk => by unfold j_A; rw [g 346 (by omega)]; exact ma k hk
  have hI : ∀ k, k < 244 → j_I ρ k = y_G k := fun k hk => by unfold j_I; rw [← hρ, st_at (by omega), Int32.ofInt_toInt]; exact ma k hk
  have A2 : j_A ρ 2 = 0 := hA 2 (by omega)
  have A3 : j_A ρ 3 = -1 := hA 3 (by omega)
  have I2 : j_I ρ 2 = 0 := hI 2 (by omega)
  have I3 : j_I ρ 3 = -1 := hI 3 (by omega)
  refine ⟨hf_0 hA (fun c hc k hk => ?_) (fun k hk => ?_) (fun k hk => ?_) (fun k hk => ?_) ?_ (fun k hk => ?_) ?_ ?_, hf_0 hI (fun c hc k hk => ?_) (fun k hk => ?_) (fun k hk => ?_) (fun k hk => ?_) ?_ (fun k hk => ?_) ?_ ?_, ⟨⟨?_, ?_, ?_, ?_⟩, ?_, ?_⟩, ⟨?_, ?_, ?_, fun k hk => ?_⟩, ⟨?_, ?_⟩, fun t ht => ?_⟩
  · rw [g _ (by omega)]; exact mc _ (by omega) k hk (by omega)
  · rw [g _ (by omega)]; exact (d0 k hk).1
  · rw [g _ (by omega)]; exact (d1 k hk).1
  · rw [g _ (by omega)]; exact (d2 k hk).1
  · rw [g _ (by omega)]; exact d9.1
  · rw [g _ (by omega)]; exact (d3 k hk).1
  · rw [g _ (by omega)]; exact m5
  · rw [g _ (by omega)]; exact m6
  · rw [g _ (by omega)]; exact mi _ hc k hk
  · rw [g _ (by omega)]; exact (d0 k hk).2
  · rw [g _ (by omega)]; exact (d1 k hk).2
  · rw [g _ (by omega)]; exact (d2 k hk).2
  · rw [g _ (by omega)]; exact d9.2
  · rw [g _ (by omega)]; exact (d3 k hk).2
  · rw [g _ (by omega)]; exact m7
  · rw [g _ (by omega)]; exact m8
  · rw [g _ (by omega), A2]; exact m1
  · rw [g _ (by omega), A3]; exact m2
  · rw [g _ (by omega), I2]; exact m3
  · rw [g _ (by omega), I3]; exact m4
  · rw [A2, A3, I2, I3]; omega
  · rw [A3, if_pos rfl, gr]; exact m13
  · rw [g _ (by omega), g _ (by omega), m9, m10]
  · rw [g _ (by omega), m10]; omega
  · rw [g _ (by omega), m10]; omega
  · rw [g _ (by omega), g _ (by omega), (mt k hk).1, (mt k hk).2]; decide
  · rw [g _ (by omega), g _ (by omega)]; exact m11
  · rw [g _ (by omega), g _ (by omega)]; exact m12
  · rw [A2] at ht; omega
