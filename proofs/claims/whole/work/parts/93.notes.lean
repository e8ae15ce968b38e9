/-! weight -/
def z_okw (A : Nat → Int) (a w : Int) : Bool := decide (0 ≤ a ∧ a < A 0 ∧ 1 ≤ w ∧ w ≤ 9)
def z_Pw (A : Nat → Int) (a w : Int) : Nat → Int := if z_okw A a w = true then z_set A (22 + a.toNat) w else A
def z_Aw (A : Nat → Int) (a w : Int) : Int := if z_okw A a w = true then 1 else 0
/-- what holds of a parish, but of the two lists -/
theorem q_weight {τ : x_T} (h : x_J τ) (a1 a2 : Int32) : x_CI 2000 mX11_weight [.ref 0, .int a1, .int a2] τ (fun τ1 u => x_CI 2000 mX12_weight [.ref 345, .int a1, .int a2] τ1 (fun τ2 v => u = v ∧ x_J τ2)) := by
  generalize hA : j_A τ = A
  have hc : x_hf 1 13 17 τ A := by rw [← hA]; exact h.1
  have wA := hc.1
  have w0 := wA.1
  have hcl := hc.2.1
  obtain ⟨c1, c2, c3, c4, c5, c6, c7, c8, c9⟩ := hc.2.1
  have m0 : (τ.1 346 0).toInt = A 0 := jA_at hA 0
  have no : ¬ (0 ≤ a1.toInt ∧ a1.toInt < A 0 ∧ 1 ≤ a2.toInt ∧ a2.toInt ≤ 9) → x_CI 2000 mX12_weight [.ref 345, .int a1, .int a2] τ (fun τ2 v => (0 : Int32) = v ∧ x_J τ2) := by
    intro z
    refine e_X12_weight (ml_isHouse wA m0 (fun p1 p2 => ⟨fun q => absurd q z_10, fun _ => ml_in (fun q1 q2 => ?_) (fun q => ⟨fun r => absurd rfl r, fun _ => ⟨rfl, h⟩⟩)⟩) (fun p => ⟨fun _ => ⟨rfl, h⟩, fun r => absurd rfl r⟩))
    simp only [Int32.reduceToInt] at q1 q2
    omega
  refine e_X11_weight (cl_isHouse hcl wA (fun p1 p2 => ⟨fun z => absurd z z_10, fun _ => ⟨fun q => no ?_, fun q1 => ⟨fun q2 => ⟨ix_n (by omega), fun t3 e3 => ?_⟩, fun q => no ?_⟩⟩⟩) (fun p => ⟨fun _ => no (by omega), fun z => absurd rfl z⟩))
  · rw [z_lt] at q; simp only [Int32.reduceToInt] at q; omega
  · rw [z_lt] at q1
    rw [z_le] at q2
    simp only [Int32.reduceToInt] at q1 q2
    rw [z_cl] at e3
    have f3 : x_fr (fun c => 1 ≤ c ∧ c ≤ 12) τ t3 := by rw [e3]; exact fr_w (fr_r _ _) (by omega)
    have k22 := ix_c 22 (by omega) 3670 (v := a1) (by omega) (by omega)
    have cl : ((22 : Int32) + a1).toNatClampNeg = 22 + a1.toInt.toNat := k22.1
    have k : ∀ k, ¬ k = 22 + a1.toInt.toNat → A k = z_set A (22 + a1.toInt.toNat) a2.toInt k := fun k hk => by rw [z_set_e, if_neg hk]
    have hm3 : (t3.1 346 0).toInt = A 0 := by rw [f3.1 346 (by omega)]; exact m0
    have wA2 : w_A (z_set A (22 + a1.toInt.toNat) a2.toInt) := by
      obtain ⟨w1, w2, w3, w4, w5, w6, w7, w8⟩ := wA
      refine ⟨by rw [← k 0 (by omega), ← k 1 (by omega)]; exact w1, fun h hh => ?_, fun h hh => ?_, fun h hh => ?_, fun h hh => ?_, fun i j hi hj => ?_, ⟨by rw [← k 5 (by omega)]; exact w7.1, by rw [← k 5 (by omega)]; exact w7.2.1, fun i hi hj => ?_⟩, ⟨by rw [← k 6 (by omega)]; exact w8.1, by rw [← k 6 (by omega)]; exact w8.2.1, fun i hi hj => ?_⟩⟩
      · rw [← k (10 + h) (by omega)]; exact w2 h hh
      · rw [← k (18 + h) (by omega)]; exact w3 h hh
      · rw [← k 0 (by omega), z_set_e]
        by_cases r : 22 + h = 22 + a1.toInt.toNat
        · rw [if_pos r]; exact ⟨by omega, by omega, fun z => by omega⟩
        · rw [if_neg r]; exact w4 h hh
      · rw [← k (30 + h) (by omega)]; exact w5 h hh
      · rw [← k (30 + (8 * i + j)) (by omega), ← k (30 + (8 * j + i)) (by omega), ← k 0 (by omega)]; exact w6 i j hi hj
      · rw [← k 5 (by omega)] at hj
        rw [← k (94 + 2 * i) (by omega), ← k (95 + 2 * i) (by omega), ← k 0 (by omega)]; exact w7.2.2 i hi hj
      · rw [← k 6 (by omega)] at hj
        rw [← k (110 + 2 * i) (by omega), ← k (111 + 2 * i) (by omega), ← k 0 (by omega)]; exact w8.2.2 i hi hj
    have hf3 : x_hf 1 13 17 t3 (z_set A (22 + a1.toInt.toNat) a2.toInt) := by
      refine hf_land hc f3 wA2 ?_ (by rw [← k 0 (by omega)]; omega) (by rw [← k 1 (by omega)]; omega) (k 4 (by omega)) (fun j hj => k j (by omega))
      have o3 : ∀ c, ¬ c = 3 → t3.1 c = τ.1 c := fun c hc => by rw [e3, w1_c hc]
      refine ⟨?_, ?_, fun j hj => ?_, fun j hj hj2 => ?_, fun j hj => ?_, fun j hj => ?_, fun hz j hj => ?_, ⟨?_, fun i hi => ?_⟩, ⟨?_, fun i hi => ?_⟩⟩
      · rw [o3 _ (by omega), c1, k 0 (by omega)]
      · rw [o3 _ (by omega), c2, k 1 (by omega)]
      · rw [o3 _ (by omega), c3 j hj, k (10 + j) (by omega)]
      · rw [← k 0 (by omega)] at hj2
        rw [e3, w1_at, z_set_e]
        by_cases r : j = a1.toInt.toNat
        · rw [if_pos ⟨rfl, r⟩, if_pos (by omega)]
        · rw [if_neg (fun z => r z.2), if_neg (by omega), c4 j hj hj2]
      · rw [o3 _ (by omega), c5 j hj, k (18 + j) (by omega)]
      · rw [o3 _ (by omega), c6 j hj, k (30 + j) (by omega)]
      · rw [← k 0 (by omega)] at hz
        rw [o3 _ (by omega), c7 hz j hj, lk_W (fun m hm => k (30 + m) (by omega))]
      · rw [o3 _ (by omega), c8.1, k 5 (by omega)]
      · rw [o3 _ (by omega), o3 _ (by omega), (c8.2 i hi).1, (c8.2 i hi).2, k (94 + 2 * i) (by omega), k (95 + 2 * i) (by omega)]
        exact ⟨rfl, rfl⟩
      · rw [o3 _ (by omega), c9.1, k 6 (by omega)]
      · rw [o3 _ (by omega), o3 _ (by omega), (c9.2 i hi).1, (c9.2 i hi).2, k (110 + 2 * i) (by omega), k (111 + 2 * i) (by omega)]
        exact ⟨rfl, rfl⟩
    refine e_X12_weight (ml_isHouse wA hm3 (fun _ _ => ⟨fun q => absurd q z_10, fun _ => ml_in (fun _ _ => ⟨fun _ => ⟨k22.2, fun t5 e5 => ⟨rfl, ?_⟩⟩, fun r => absurd r z_10⟩) (fun q => ?_)⟩) (fun p => absurd ⟨p1, p2⟩ p))
    · rw [cl] at e5
      refine J_of (A' := z_set A (22 + a1.toInt.toNat) a2.toInt) h (fr_m s12_sC f3) hf3 (by rw [e5]; exact fr_w (fr_r _ _) (Or.inl rfl)) ?_ (by rw [hA, ← k 2 (by omega)]) (by rw [hA, ← k 3 (by omega)])
      funext j
      unfold j_A
      rw [e5, w1_at, z_set_e]
      by_cases r : j = 22 + a1.toInt.toNat
      · rw [if_pos ⟨rfl, r⟩, if_pos r]
      · rw [if_neg (fun z => r z.2), if_neg r, f3.1 346 (by omega)]; exact jA_at hA j
    · simp only [Int32.reduceToInt] at q; omega
  · rw [z_le] at q; simp only [Int32.reduceToInt] at q; omega
