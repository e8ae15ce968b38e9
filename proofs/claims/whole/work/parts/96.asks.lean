theorem pair_q {τ : x_T} {mc mm : x_M} {ac am : List Value} (h : x_J τ) (z : Int) (hc : ∀ K : x_T → Int32 → Prop, (∀ (σ : x_T) (u : Int32), x_fr x_sc τ σ → u.toInt = z → K σ u) → x_CI 2000 mc ac τ K) (hm : ∀ σ : x_T, x_fr x_sc τ σ → ∀ K : x_T → Int32 → Prop, (∀ (ρ : x_T) (v : Int32), x_fr x_sc σ ρ → v.toInt = z → K ρ v) → x_CI 2000 mm am σ K) : x_CI 2000 mc ac τ (fun τ1 u => x_CI 2000 mm am τ1 (fun τ2 v => u = v ∧ x_J τ2)) :=
  hc _ (fun σ u f hu => hm σ f _ (fun ρ v g hv => ⟨z_eq.mpr (by rw [hu, hv]), J_q h f g⟩))
theorem hmX_fr {τ σ : x_T} {A : Nat → Int} {L : x_L2} (h : x_hm τ A L) (g : x_fr x_sc τ σ) : x_hm σ A L :=
  ⟨by rw [← h.1]; funext k; unfold j_A; rw [g.1 346 (by unfold x_sc; omega)], LM2_fr h.2 (by rw [g.1 346 (by unfold x_sc; omega)]) (fun c hc => g.1 c (by unfold x_sc; omega))⟩
/-! book -/
def z_Abk (A : Nat → Int) (i w : Int) : Int := if i = -1 then A 153 else if 0 ≤ i ∧ i < A 153 ∧ 0 ≤ w ∧ w ≤ 2 then A (154 + (3 * i.toNat + w.toNat)) else -2
theorem q_book {τ : x_T} (h : x_J τ) (a1 a2 : Int32) : x_CI 2000 mX11_book [.ref 0, .int a1, .int a2] τ (fun τ1 u => x_CI 2000 mX12_book [.ref 345, .int a1, .int a2] τ1 (fun τ2 v => u = v ∧ x_J τ2)) := by
  have he : x_cd 13 τ (z_dy (j_A τ)) := h.1.2.2.2.1
  have w23 : 0 ≤ j_A τ 153 ∧ j_A τ 153 ≤ 30 := h.1.2.2.1.2.2.2.2.2.2.2.2.2
  have e9 : (τ.1 13 9).toInt = j_A τ 153 := cd_9 he
  have m1 : (-1 : Int32).toInt = -1 := by decide
  refine pair_q h (z_Abk (j_A τ) a1.toInt a2.toInt) (fun K hK => ?_) (fun σ f K hK => ?_)
  · refine e_X11_book ⟨fun q => ?_, fun q => hK _ _ (fr_r _ _) ?_⟩
    · rw [z_eq, m1] at q
      have no : ¬ (0 ≤ a1.toInt ∧ a1.toInt < j_A τ 153 ∧ 0 ≤ a2.toInt ∧ a2.toInt ≤ 2) → K τ (-2) := fun z => hK _ _ (fr_r _ _) (by rw [z_Abk, if_neg q, if_neg z]; rfl)
      refine e_X1_debtWritten rfl ⟨fun r => no ?_, fun r1 => ⟨fun r => no ?_, fun r2 => ⟨fun r => no ?_, fun r3 => ⟨fun r => no ?_, fun r4 => ⟨fun r5 => ?_, fun r => no ?_⟩⟩⟩⟩⟩
      · rw [z_lt] at r; simp only [Int32.reduceToInt] at r; omega
      · rw [z_le, e9] at r; omega
      · rw [z_le] at r; simp only [Int32.reduceToInt] at r; omega
      · rw [z_lt] at r; simp only [Int32.reduceToInt] at r; omega
      · rw [z_lt] at r1 r4 r5
        rw [z_le, e9] at r2
        simp only [Int32.reduceToInt] at r1 r4 r5
        have k1 : (a1 * 3).toInt = a1.toInt * 3 := z_mul (by simp only [Int32.reduceToInt]; omega)
        have k2 : (a1 * 3 + a2).toInt = a1.toInt * 3 + a2.toInt := by rw [z_add (by omega), k1]
        have k3 : (a1 * 3 + a2).toNatClampNeg = 3 * a1.toInt.toNat + a2.toInt.toNat := by rw [z_cl, k2]; omega
        refine ⟨ix_n (by omega), hK _ _ (fr_r _ _) ?_⟩
        rw [k3, cd_3 he (by omega), z_Abk, if_neg q, if_pos (by omega), z_dy]
        congr 1
        omega
      · rw [z_lt] at r; simp only [Int32.reduceToInt] at r; omega
    · rw [z_eq, m1] at q
      rw [e9, z_Abk, if_pos q]
  · have s46 : σ.1 346 = τ.1 346 := f.1 346 (by unfold x_sc; omega)
    have m153 : (σ.1 346 153).toInt = j_A τ 153 := by rw [s46]; rfl
    refine e_X12_book ⟨fun q => ?_, fun q => hK _ _ (fr_r _ _) ?_⟩
    · rw [z_eq, m1] at q
      have no : ¬ (0 ≤ a1.toInt ∧ a1.toInt < j_A τ 153 ∧ 0 ≤ a2.toInt ∧ a2.toInt ≤ 2) → K σ (-2) := fun z => hK _ _ (fr_r _ _) (by rw [z_Abk, if_neg q, if_neg z]; rfl)
      have k0 : (σ.1 346 153 - 1).toInt = j_A τ 153 - 1 := by rw [z_sub (by rw [m153]; simp only [Int32.reduceToInt]; omega), m153]; rfl
      refine ml_in (fun r1 r2 => ⟨fun z => absurd z z_10, fun _ => ml_in (fun r3 r4 => ⟨fun z => absurd z z_10, fun _ => ?_⟩) (fun r => ⟨fun _ => no ?_, fun z => absurd rfl z⟩)⟩) (fun r => ⟨fun _ => no ?_, fun z => absurd rfl z⟩)
      · rw [k0] at r2
        simp only [Int32.reduceToInt] at r1 r3 r4
        have k1 : (3 * a1).toInt = 3 * a1.toInt := z_mul (by simp only [Int32.reduceToInt]; omega)
        have k2 : (154 + 3 * a1).toInt = 154 + 3 * a1.toInt := by rw [z_add (by simp only [Int32.reduceToInt]; omega), k1]; rfl
        have k3 : (154 + 3 * a1 + a2).toInt = 154 + 3 * a1.toInt + a2.toInt := by rw [z_add (by omega), k2]
        have k4 : (154 + 3 * a1 + a2).toNatClampNeg = 154 + (3 * a1.toInt.toNat + a2.toInt.toNat) := by rw [z_cl, k3]; omega
        refine ⟨ix_n (by omega), hK _ _ (fr_r _ _) ?_⟩
        rw [k4, s46, z_Abk, if_neg q, if_pos (by omega)]; rfl
      · simp only [Int32.reduceToInt] at r; omega
      · rw [k0] at r; simp only [Int32.reduceToInt] at r; omega
    · rw [z_eq, m1] at q
      rw [m153, z_Abk, if_pos q]
/-! of -/
def z_Aof (A : Nat → Int) (L : x_L2) (a w : Int) : Int := if 0 ≤ a ∧ a < A 0 then (if w = 0 then z_hl A a else if w = 1 then A (137 + a.toNat) else if w = 2 then A (145 + a.toNat) else if w = 3 then z_hour A (A 130) a else if w = 4 then z_earn A (x_La L A) (z_dy A) a.toNat else -1000) else -1000
theorem q_of (hL : x_HL) {τ : x_T} (h : x_J τ) (a1 a2 : Int32) : x_CI 2000 mX11_of [.ref 0, .int a1, .int a2] τ (fun τ1 u => x_CI 2000 mX12_of [.ref 345, .int a1, .int a2] τ1 (fun τ2 v => u = v ∧ x_J τ2)) := by
  obtain ⟨L, l1, l2⟩ := hL τ h
  generalize hA : j_A τ = A
  have hJ := h.1
  rw [hA] at hJ
  have wA := hJ.1
  have w0 := wA.1
  have wD : w_D A (z_dy A) := hJ.2.2.1
  have he : x_cd 13 τ (z_dy A) := hJ.2.2.2.1
  have e0 : (τ.1 13 0).toInt = A 130 := cd_0 he (k := 0) (by omega)
  have hcc := hc_cc (τ := τ) (A := A) (L := L) ⟨hJ, l1⟩
  have hmm : x_hm τ A L := ⟨hA, l2⟩
  have wd0 : 0 ≤ A 130 ∧ (A 130 = 0 ∨ A 130 < A 0) := wD.1
  refine pair_q h (z_Aof A L a1.toInt a2.toInt) (fun K hK => ?_) (fun σ f K hK => ?_)
  · refine e_X11_of (cl_isHouse hJ.2.1 wA (fun p1 p2 => ⟨fun _ => ⟨fun q => ?_, fun q0 => ⟨fun q => ?_, fun q1 => ⟨fun q => ?_, fun q2 => ⟨fun q => ?_, fun q3 => ⟨fun q => ?_, fun q4 => hK _ _ (fr_r _ _) ?_⟩⟩⟩⟩⟩, fun z => absurd z z_10⟩) (fun p => ⟨fun z => absurd rfl z, fun _ => hK _ _ (fr_r _ _) (by rw [z_Aof, if_neg p]; rfl)⟩))
    · rw [z_eq] at q; simp only [Int32.reduceToInt] at q
      exact cl_hillOf hJ.2.1 wA (fun u hu => hK _ _ (fr_r _ _) (by rw [hu, z_Aof, if_pos ⟨p1, p2⟩, if_pos q]))
    · rw [z_eq] at q0 q; simp only [Int32.reduceToInt] at q0 q
      exact cl_purseOf rfl he (by omega) (fun u hu => hK _ _ (fr_r _ _) (by rw [hu, z_Aof, if_pos ⟨p1, p2⟩, if_neg q0, if_pos q, z_dy]; congr 1; omega))
    · rw [z_eq] at q0 q1 q; simp only [Int32.reduceToInt] at q0 q1 q
      exact cl_paleOf rfl he (by omega) (fun u hu => hK _ _ (fr_r _ _) (by rw [hu, z_Aof, if_pos ⟨p1, p2⟩, if_neg q0, if_neg q1, if_pos q, z_dy]; congr 1; omega))
    · rw [z_eq] at q0 q1 q2 q; simp only [Int32.reduceToInt] at q0 q1 q2 q
      exact cl_hourBy hJ.2.1 wA (fun u hu => hK _ _ (fr_r _ _) (by rw [hu, e0, z_Aof, if_pos ⟨p1, p2⟩, if_neg q0, if_neg q1, if_neg q2, if_pos q]))
    · rw [z_eq] at q0 q1 q2 q3 q; simp only [Int32.reduceToInt] at q0 q1 q2 q3 q
      exact cl_earning rfl (by omega) hcc wA he wD (i := a1.toInt.toNat) (by omega) (by omega) (fun σ u f hu => hK _ _ (fr_m sL_x f) (by rw [hu, z_Aof, if_pos ⟨p1, p2⟩, if_neg q0, if_neg q1, if_neg q2, if_neg q3, if_pos q]))
    · rw [z_eq] at q0 q1 q2 q3 q4; simp only [Int32.reduceToInt] at q0 q1 q2 q3 q4
      rw [z_Aof, if_pos ⟨p1, p2⟩, if_neg q0, if_neg q1, if_neg q2, if_neg q3, if_neg q4]; rfl
  · have hmσ := hmX_fr hmm f
    refine e_X12_of (ml_isHouse wA (jA_at hmσ.1 0) (fun p1 p2 => ⟨fun _ => ml_laysNow hmσ wA (fun σ1 f1 g1 mc1 hm1 => ?_), fun z => absurd z z_10⟩) (fun p => ⟨fun z => absurd rfl z, fun _ => hK _ _ (fr_r _ _) (by rw [z_Aof, if_neg p]; rfl)⟩))
    have fx := fr_m s69_x f1
    have r0 : (σ1.1 370 0).toInt = A 130 := g1 0 (by omega)
    have k10 := ix_c 10 (by omega) 3670 (v := a1) (by omega) (by omega)
    have k7 := ix_c 7 (by omega) 114 (v := a1) (by omega) (by omega)
    have k15 := ix_c 15 (by omega) 114 (v := a1) (by omega) (by omega)
    have c10 : ((10 : Int32) + a1).toNatClampNeg = 10 + a1.toInt.toNat := k10.1
    have c7 : ((7 : Int32) + a1).toNatClampNeg = 7 + a1.toInt.toNat := k7.1
    have c15 : ((15 : Int32) + a1).toNatClampNeg = 15 + a1.toInt.toNat := k15.1
    rw [c10, c7, c15]
    refine ⟨fun q => ⟨k10.2, hK _ _ fx ?_⟩, fun q0 => ⟨fun q => ⟨k7.2, hK _ _ fx ?_⟩, fun q1 => ⟨fun q => ⟨k15.2, hK _ _ fx ?_⟩, fun q2 => ⟨fun q => ?_, fun q3 => ⟨fun q => ?_, fun q4 => hK _ _ fx ?_⟩⟩⟩⟩⟩
    · rw [z_eq] at q; simp only [Int32.reduceToInt] at q
      rw [jA_at hm1.1, z_Aof, if_pos ⟨p1, p2⟩, if_pos q, z_hl, if_pos ⟨p1, p2⟩]
    · rw [z_eq] at q0 q; simp only [Int32.reduceToInt] at q0 q
      rw [g1 _ (by omega), z_Aof, if_pos ⟨p1, p2⟩, if_neg q0, if_pos q]; show A (130 + (7 + a1.toInt.toNat)) = A (137 + a1.toInt.toNat); congr 1; omega
    · rw [z_eq] at q0 q1 q; simp only [Int32.reduceToInt] at q0 q1 q
      rw [g1 _ (by omega), z_Aof, if_pos ⟨p1, p2⟩, if_neg q0, if_neg q1, if_pos q]; show A (130 + (15 + a1.toInt.toNat)) = A (145 + a1.toInt.toNat); congr 1; omega
    · rw [z_eq] at q0 q1 q2 q; simp only [Int32.reduceToInt] at q0 q1 q2 q
      exact ml_hourAt wA mc1.2.1 ⟨p1, p2⟩ (by omega) (fun u hu => hK _ _ fx (by rw [hu, r0, z_Aof, if_pos ⟨p1, p2⟩, if_neg q0, if_neg q1, if_neg q2, if_pos q]))
    · rw [z_eq] at q0 q1 q2 q3 q; simp only [Int32.reduceToInt] at q0 q1 q2 q3 q
      exact ml_earnsOf (e := z_dy A) mc1 wA g1 (i := a1.toInt.toNat) (by omega) (by omega) (by show 0 ≤ A 130 ∧ A 130 < A 0; omega) wD (fun ρ u f2 hu => hK _ _ (fr_t fx (fr_m sN_x f2)) (by rw [hu, z_Aof, if_pos ⟨p1, p2⟩, if_neg q0, if_neg q1, if_neg q2, if_neg q3, if_pos q]))
    · rw [z_eq] at q0 q1 q2 q3 q4; simp only [Int32.reduceToInt] at q0 q1 q2 q3 q4
      rw [z_Aof, if_pos ⟨p1, p2⟩, if_neg q0, if_neg q1, if_neg q2, if_neg q3, if_neg q4]; rfl
/-! two -/
def z_Atwo (A : Nat → Int) (L : x_L2) (a b w : Int) : Int := if 0 ≤ a ∧ a < A 0 ∧ 0 ≤ b ∧ b < A 0 then (if w = 0 then z_far A a b else if w = 1 then z_ln A a b else if w = 2 then z_warm A (x_La L A) (z_dy A) a b else -1) else -1
theorem q_two (hL : x_HL) {τ : x_T} (h : x_J τ) (a1 a2 a3 : Int32) : x_CI 2000 mX11_two [.ref 0, .int a1, .int a2, .int a3] τ (fun τ1 u => x_CI 2000 mX12_two [.ref 345, .int a1, .int a2, .int a3] τ1 (fun τ2 v => u = v ∧ x_J τ2)) := by
  obtain ⟨L, l1, l2⟩ := hL τ h
  generalize hA : j_A τ = A
  have hJ := h.1
  rw [hA] at hJ
  have wA := hJ.1
  have w0 := wA.1
  have wD : w_D A (z_dy A) := hJ.2.2.1
  have he : x_cd 13 τ (z_dy A) := hJ.2.2.2.1
  have hcc := hc_cc (τ := τ) (A := A) (L := L) ⟨hJ, l1⟩
  have hmm : x_hm τ A L := ⟨hA, l2⟩
  refine pair_q h (z_Atwo A L a1.toInt a2.toInt a3.toInt) (fun K hK => ?_) (fun σ f K hK => ?_)
  · have no : ¬ (0 ≤ a1.toInt ∧ a1.toInt < A 0 ∧ 0 ≤ a2.toInt ∧ a2.toInt < A 0) → K τ (-1) := fun z => hK _ _ (fr_r _ _) (by rw [z_Atwo, if_neg z]; rfl)
    refine e_X11_two (cl_isHouse hJ.2.1 wA (fun p1 p2 => ⟨fun z => absurd z z_10, fun _ => cl_isHouse hJ.2.1 wA (fun p3 p4 => ⟨fun _ => ⟨fun q => ?_, fun q0 => ⟨fun q => ?_, fun q1 => ⟨fun q => ?_, fun q2 => hK _ _ (fr_r _ _) ?_⟩⟩⟩, fun z => absurd z z_10⟩) (fun p => ⟨fun z => absurd rfl z, fun _ => no (by omega)⟩)⟩) (fun p => ⟨fun _ => no (by omega), fun z => absurd rfl z⟩))
    · rw [z_eq] at q; simp only [Int32.reduceToInt] at q
      exact cl_wayBetween hJ.2.1 wA (fun u hu => hK _ _ (fr_r _ _) (by rw [hu, z_Atwo, if_pos (by omega), if_pos q]))
    · rw [z_eq] at q0 q; simp only [Int32.reduceToInt] at q0 q
      exact cl_laneBetween hJ.2.1 wA (fun u hu => hK _ _ (fr_r _ _) (by rw [hu, z_Atwo, if_pos (by omega), if_neg q0, if_pos q]))
    · rw [z_eq] at q0 q1 q; simp only [Int32.reduceToInt] at q0 q1 q
      exact cl_warmth rfl (by omega) hcc wA he wD.2.2.2.2.2.1 (by omega) (by omega) (fun σ u f hu => hK _ _ (fr_m sL_x f) (by rw [hu, z_Atwo, if_pos (by omega), if_neg q0, if_neg q1, if_pos q]))
    · rw [z_eq] at q0 q1 q2; simp only [Int32.reduceToInt] at q0 q1 q2
      rw [z_Atwo, if_pos (by omega), if_neg q0, if_neg q1, if_neg q2]; rfl
  · have hmσ := hmX_fr hmm f
    have no : ¬ (0 ≤ a1.toInt ∧ a1.toInt < A 0 ∧ 0 ≤ a2.toInt ∧ a2.toInt < A 0) → K σ (-1) := fun z => hK _ _ (fr_r _ _) (by rw [z_Atwo, if_neg z]; rfl)
    refine e_X12_two (ml_isHouse wA (jA_at hmσ.1 0) (fun p1 p2 => ⟨fun z => absurd z z_10, fun _ => ml_isHouse wA (jA_at hmσ.1 0) (fun p3 p4 => ⟨fun _ => ml_laysNow hmσ wA (fun σ1 f1 g1 mc1 hm1 => ?_), fun z => absurd z z_10⟩) (fun p => ⟨fun z => absurd rfl z, fun _ => no (by omega)⟩)⟩) (fun p => ⟨fun _ => no (by omega), fun z => absurd rfl z⟩))
    have fx := fr_m s69_x f1
    have k30 := ix_30 (v := a1) (w := a2) (by omega) (by omega)
    have k8 := ix_8' (v := a1) (w := a2) (by omega) (by omega)
    refine ⟨fun q0 => ⟨fun q1 => ⟨fun q2 => hK _ _ fx ?_, fun q => ?_⟩, fun q => ⟨k30.2, hK _ _ fx ?_⟩⟩, fun q => ⟨k8.2, hK _ _ fx ?_⟩⟩
    · rw [z_eq] at q0 q1 q2; simp only [Int32.reduceToInt] at q0 q1 q2
      rw [z_Atwo, if_pos (by omega), if_neg q0, if_neg q1, if_neg q2]; rfl
    · rw [z_eq] at q0 q1 q; simp only [Int32.reduceToInt] at q0 q1 q
      exact ml_warmOf (e := z_dy A) mc1 wA g1 (by omega) (by omega) wD.2.2.2.2.2.1 (fun ρ u f2 hu => hK _ _ (fr_t fx (fr_m sN_x f2)) (by rw [hu, z_Atwo, if_pos (by omega), if_neg q0, if_neg q1, if_pos q]))
    · rw [z_eq] at q0 q; simp only [Int32.reduceToInt] at q0 q
      rw [k30.1, jA_at hm1.1, z_Atwo, if_pos (by omega), if_neg q0, if_pos q, z_ln, if_pos (by omega)]
    · rw [z_eq] at q; simp only [Int32.reduceToInt] at q
      rw [k8.1, mc1.2.1 _ (by omega), z_Atwo, if_pos (by omega), if_pos q, z_far, if_pos (by omega)]
      congr 1 <;> omega
