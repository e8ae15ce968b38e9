/-! bits -/
theorem yb_sl : ∀ n, n < 32 → ((nI n &&& 31).toBitVec.smod 32).toNat = n := by decide +kernel
theorem yb_bit {s j : Nat} (hs : s < 2 ^ 31) (hj : j < 32) : (nI s >>> (nI j &&& 31)) &&& 1 = nI (s / 2 ^ j % 2) := by
  rw [pk_shrN hs _ j (yb_sl j hj)]
  exact pk_andN (Nat.lt_of_le_of_lt (Nat.div_le_self _ _) (by omega)) 1 rfl
theorem yb_b0 {s j : Nat} (hs : s < 2 ^ 31) (hj : j < 32) : (nI s >>> (nI j &&& 31)) &&& 1 = 0 ↔ s.testBit j = false := by
  rw [yb_bit hs hj, Nat.testBit_eq_decide_div_mod_eq]
  have : s / 2 ^ j % 2 = 0 ∨ s / 2 ^ j % 2 = 1 := by omega
  rcases this with q | q <;> rw [q] <;> decide
theorem yb_b1 {s j : Nat} (hs : s < 2 ^ 31) (hj : j < 32) : (nI s >>> (nI j &&& 31)) &&& 1 = 1 ↔ s.testBit j = true := by
  rw [yb_bit hs hj, Nat.testBit_eq_decide_div_mod_eq]
  have : s / 2 ^ j % 2 = 0 ∨ s / 2 ^ j % 2 = 1 := by omega
  rcases this with q | q <;> rw [q] <;> decide
theorem yb_one {j : Nat} (hj : j < 31) : (1 : Int32) <<< (nI j &&& 31) = nI (2 ^ j) := by
  have h2 : (2 : Nat) ^ j < 2 ^ 31 := Nat.pow_lt_pow_right (by decide) hj
  have := pk_shlN (n := 1) (nI j &&& 31) j (yb_sl j (by omega)) (by omega)
  rw [Nat.one_mul] at this
  exact this
theorem yb_or (a b : Nat) : nI a ||| nI b = nI (a ||| b) := by
  apply Int32.toBitVec_inj.1
  show BitVec.ofNat 32 a ||| BitVec.ofNat 32 b = BitVec.ofNat 32 (a ||| b)
  apply BitVec.eq_of_getLsbD_eq
  intro i hi
  simp [hi]
theorem yb_set (n j i : Nat) : (n ||| 2 ^ j).testBit i = (n.testBit i || decide (i = j)) := by
  rw [Nat.testBit_or]
  by_cases h : j = i
  · subst h; simp
  · have h2 : ¬ i = j := fun e => h e.symm
    first | (simp [Nat.testBit_two_pow, h, h2]; done) | (simp [Nat.testBit_two_pow_of_ne h, h2]; done)
theorem yb_lt {s j k : Nat} (hs : s < 2 ^ k) (hj : j < k) : (s ||| 2 ^ j) < 2 ^ k := Nat.or_lt_two_pow hs (Nat.pow_lt_pow_right (by decide) hj)
/-- houses as bits, in numbers -/
def y_bn (P : Nat → Bool) : Nat → Nat
  | 0 => 0
  | k + 1 => if P k = true then y_bn P k ||| 2 ^ k else y_bn P k
theorem bn_lt (P : Nat → Bool) : ∀ k, y_bn P k < 2 ^ k := by
  intro k
  induction k with
  | zero => simp [y_bn]
  | succ k ih =>
    have : y_bn P k < 2 ^ (k + 1) := Nat.lt_of_lt_of_le ih (Nat.pow_le_pow_right (by decide) (by omega))
    rw [y_bn]
    split
    · exact yb_lt this (by omega)
    · exact this
theorem bn_bit (P : Nat → Bool) (j : Nat) : ∀ k, (y_bn P k).testBit j = (decide (j < k) && P j) := by
  intro k
  induction k with
  | zero => simp [y_bn]
  | succ k ih =>
    rw [y_bn]
    by_cases q : j = k
    · subst q
      cases hp : P j <;> simp [yb_set, ih, hp]
    · have e : decide (j < k + 1) = decide (j < k) := decide_eq_decide.mpr (by omega)
      rw [e]
      split
      · rw [yb_set, ih, decide_eq_false q, Bool.or_false]
      · exact ih
theorem bn_z (P : Nat → Bool) : ∀ k, k ≤ 8 → z_bits P k = nI (y_bn P k) := by
  intro k
  induction k with
  | zero => intro _; rfl
  | succ k ih =>
    intro hk
    rw [z_bits, y_bn, ih (by omega)]
    split
    · rw [yb_one (by omega), yb_or]
    · rfl
/-! agenda -/
def y_ag (A : Nat → Int) (g : Nat → Nat) : Nat → Nat
  | 0 => g 0
  | k + 1 => if z_bt A (g (k + 1)) (y_ag A g k) = true then g (k + 1) else y_ag A g k
theorem ag_in (A : Nat → Int) (g : Nat → Nat) : ∀ k, ∃ i, i ≤ k ∧ y_ag A g k = g i := by
  intro k
  induction k with
  | zero => exact ⟨0, by omega, rfl⟩
  | succ k ih =>
    rw [y_ag]
    split
    · exact ⟨k + 1, by omega, rfl⟩
    · obtain ⟨i, hi, e⟩ := ih
      exact ⟨i, by omega, e⟩
theorem q_agenda (hL : x_HL) {τ : x_T} (h : x_J τ) (a1 a2 : Int32) : x_CI 2000 mX11_agenda [.ref 0, .int a1, .int a2] τ (fun τ1 u => x_CI 2000 mX12_agenda [.ref 345, .int a1, .int a2] τ1 (fun τ2 v => u = v ∧ x_J τ2)) := by
  obtain ⟨L, l1, l2⟩ := hL τ h
  generalize hA : j_A τ = A
  have hJ := h.1
  rw [hA] at hJ
  have wA := hJ.1
  have w0 := wA.1
  have hc := hJ.2.1
  have c0 := hc.1
  have hmm : x_hm τ A L := ⟨hA, l2⟩
  obtain ⟨N, hN⟩ : ∃ N : Nat, A 0 = N := ⟨(A 0).toNat, by omega⟩
  by_cases ok : 0 ≤ a1.toInt ∧ 1 ≤ a2.toInt ∧ a2.toInt ≤ 8
  · obtain ⟨R, hR⟩ : ∃ R : Nat, a1.toInt = R := ⟨a1.toInt.toNat, by omega⟩
    obtain ⟨m, hm⟩ : ∃ m : Nat, a2.toInt = (m + 1 : Nat) := ⟨a2.toInt.toNat - 1, by omega⟩
    have hRb := z_bd a1
    have eR : a1 = nI R := z_of (by omega) hR
    have em : a2 = nI (m + 1) := z_of (by omega) hm
    let g : Nat → Nat := fun k => R / 10 ^ (m - k) % 10
    have ge : ∀ k, g k = R / 10 ^ (m - k) % 10 := fun _ => rfl
    have g10 : ∀ k, g k < 10 := fun k => by rw [ge]; omega
    let V : Prop := R < 10 ^ (m + 1) ∧ (∀ k, k ≤ m → (g k : Int) < A 0) ∧ ∀ k, k ≤ m → ∀ j, j ≤ m → g j = g k → j = k
    obtain ⟨Z, hZ1, hZ0⟩ : ∃ Z : Int, (V → Z = y_ag A g m) ∧ (¬ V → Z = -1) := by
      by_cases q : V
      · exact ⟨_, fun _ => rfl, fun z => absurd q z⟩
      · exact ⟨-1, fun z => absurd z q, fun _ => rfl⟩
    have n1 : (-1 : Int32).toInt = -1 := by decide
    refine pair_q h Z (fun K hK => ?_) (fun σ f K hK => ?_)
    · have bad : ∀ σ, x_fr x_sc τ σ → ¬ V → K σ (-1) := fun σ fσ z => hK σ _ fσ (by rw [hZ0 z]; exact n1)
      refine e_X11_agenda ⟨fun q => ?_, fun _ => ⟨fun q => ?_, fun _ => ⟨fun _ => e_X0_leftOfRow ⟨fun q => ?_, fun _ => ?_⟩, fun q => ?_⟩⟩⟩
      · rw [z_lt] at q; simp only [Int32.reduceToInt] at q; omega
      · rw [z_lt] at q; simp only [Int32.reduceToInt] at q; omega
      · rw [z_lt] at q; simp only [Int32.reduceToInt] at q; omega
      · refine e_X0_isRow (fun y1 e1 y2 e2 => ?_)
        have e3 : y1 = a2 := by
          rw [e1, if_neg]
          rw [z_lt]; simp only [Int32.reduceToInt]; omega
        have e4 : y2.toInt = m := by rw [e2, e3, z_sub (by rw [hm]; simp only [Int32.reduceToInt]; omega), hm]; simp only [Int32.reduceToInt]; omega
        -- how many digits are read: c
        have loop : ∀ c, c ≤ m + 1 → (fun c : Nat => ∀ (σ : x_T) (v5 : Int32) (s : Nat), x_fr x_sc τ σ → v5.toInt = m - (c : Int) → s < 2 ^ 10 → (∀ k, k ≤ m → m < k + c → (g k : Int) < A 0) → (∀ k, k ≤ m → m < k + c → ∀ j, j ≤ m → m < j + c → g j = g k → j = k) → (∀ x, s.testBit x = true ↔ ∃ k, k ≤ m ∧ m < k + c ∧ g k = x) → (∀ k, k ≤ m → m < k + c → σ.1 340 k = nI (g k)) → x_WI 1998 mX0_isRow (fun t1 a2_1 => (¬ a2_1 = 0 → ∀ y3, y3 = t1.1 340 0 → (x_WI 1999 mX0_leftOfRow K 27 [(0, .ref 339), (2, .int a2), (3, .int y3), (4, .int 1)] [] t1)) ∧ (a2_1 = 0 → K t1 (-1))) 15 [(0, .ref 339), (3, .int (nI (R / 10 ^ c))), (4, .int (nI s)), (5, .int v5)] [] σ) c := by
          refine z_down ?_ ?_
          · intro σ v5 s fσ h5 hs i1 i2 i3 i4
            refine k_X0_isRow_15 ⟨fun _ => ⟨fun q => ⟨fun z => absurd rfl z, fun _ => bad σ fσ (fun v => q ?_)⟩, fun q => ⟨fun _ y3 e3 => ?_, fun z => absurd z z_10⟩⟩, fun q => absurd (by rw [z_lt, h5]; simp only [Int32.reduceToInt]; omega) q⟩
            · rw [Nat.div_eq_of_lt v.1]; rfl
            · have hV : V := by
                refine ⟨?_, fun k hk => i1 k hk (by omega), fun k hk j hj => i2 k hk (by omega) j hj (by omega)⟩
                rw [z_eq, z_n (Nat.lt_of_le_of_lt (Nat.div_le_self _ _) (by omega))] at q
                simp only [Int32.reduceToInt] at q
                have p : 0 < 10 ^ (m + 1) := Nat.pow_pos (by omega)
                rcases Nat.lt_or_ge R (10 ^ (m + 1)) with r | r
                · exact r
                · have := Nat.div_pos r p; omega
              rw [e3, i4 0 (by omega) (by omega)]
              have lp : ∀ k, k ≤ m → (fun k => x_WI 1999 mX0_leftOfRow K 27 [(0, .ref 339), (2, .int a2), (3, .int (nI (y_ag A g k))), (4, .int (nI (k + 1)))] [] σ) k := by
                refine z_down ?_ ?_
                · refine k_X0_leftOfRow_27 ⟨fun _ => hK _ _ fσ ?_, fun q => absurd (by rw [z_le, hm, z_n (by omega)]; omega) q⟩
                  obtain ⟨i, hi, e⟩ := ag_in A g m
                  have := g10 i
                  rw [hZ1 hV, z_n (by omega)]
                · intro k hk ih
                  have cσ : x_cl 1 σ A := clB_fr hc (fun c hc => fσ.1 c (by unfold x_sc; omega))
                  obtain ⟨i, hi, e⟩ := ag_in A g k
                  have gi := g10 i
                  have gk := g10 (k + 1)
                  have h1 := hV.2.1 i (by omega)
                  have h2 := hV.2.1 (k + 1) (by omega)
                  have z1 : (nI (k + 1)).toNatClampNeg = k + 1 := nI_clamp (by omega)
                  refine k_X0_leftOfRow_27 ⟨fun q => ?_, fun _ => ⟨vp_in_nI (by omega) (by decide), ?_⟩⟩
                  · rw [z_le, hm, z_n (by omega)] at q; omega
                  · rw [z1, i4 (k + 1) (by omega) (by omega)]
                    refine cl_beats cσ wA (z_n (by omega)) (z_n (by omega)) h2 (by rw [e]; exact h1) (fun hb => ⟨fun z => absurd z z_10, fun _ => ⟨vp_in_nI (by omega) (by decide), fun y3 e3 => k_X0_leftOfRow_56 (fun y1 e1 => ?_)⟩⟩) (fun hb => ⟨fun _ => k_X0_leftOfRow_56 (fun y1 e1 => ?_), fun z => absurd rfl z⟩)
                    · rw [e1, ← nI_succ, e3, i4 (k + 1) (by omega) (by omega)]
                      rw [y_ag, if_pos hb] at ih
                      exact ih
                    · rw [e1, ← nI_succ]
                      rw [y_ag, if_neg (by rw [hb]; decide)] at ih
                      exact ih
              exact lp 0 (by omega)
          · intro c hcm ih σ v5 s fσ h5 hs i1 i2 i3 i4
            have cσ : x_cl 1 σ A := clB_fr hc (fun c hc => fσ.1 c (by unfold x_sc; omega))
            have hlt : R / 10 ^ c < 2147483648 := Nat.lt_of_le_of_lt (Nat.div_le_self _ _) (by omega)
            have gc : g (m - c) = R / 10 ^ c % 10 := by rw [ge, show m - (m - c) = c by omega]
            refine k_X0_isRow_15 ⟨fun q => ?_, fun _ y1 e1 y2 e2 => ?_⟩
            · rw [z_lt, h5] at q; simp only [Int32.reduceToInt] at q; omega
            · have e1' : y1 = nI (g (m - c)) := by rw [e1, gc]; exact n_mod (b := 10) (by omega) hlt (by omega)
              have e2' : y2 = nI (R / 10 ^ (c + 1)) := by
                rw [e2, Nat.pow_succ, ← Nat.div_div_eq_div_mul]
                exact n_div (b := 10) (by omega) hlt (by omega)
              have gb := g10 (m - c)
              have hy : y1.toInt = g (m - c) := by rw [e1', z_n (by omega)]
              refine cl_isHouse cσ wA (fun qa qb => ⟨fun z => absurd z z_10, fun _ => ⟨fun q2 y5 e5 => ⟨ix_n (by omega), fun t6 e6 y7 e7 => ?_⟩, fun q2 => ⟨fun z => absurd rfl z, fun _ => bad σ fσ ?_⟩⟩⟩) (fun q => ⟨fun _ => ⟨fun z => absurd rfl z, fun _ => bad σ fσ ?_⟩, fun z => absurd rfl z⟩)
              · have q : 0 ≤ (g (m - c) : Int) ∧ (g (m - c) : Int) < A 0 := by rw [hy] at qa qb; exact ⟨qa, qb⟩
                rw [e1'] at q2 e5 e6
                rw [yb_b0 (by omega) (by omega)] at q2
                have e5' : y5 = nI (s ||| 2 ^ g (m - c)) := by rw [e5, yb_one (by omega), yb_or]
                have c5 : v5.toNatClampNeg = m - c := by rw [z_cl, h5]; omega
                rw [c5] at e6
                rw [e2', e5']
                have new : ∀ k, k ≤ m → m < k + c → ¬ g k = g (m - c) := fun k h1 h2 e => by
                  have := (i3 (g (m - c))).mpr ⟨k, h1, h2, e⟩
                  rw [q2] at this
                  exact absurd this (by decide)
                refine ih t6 y7 _ (by rw [e6]; exact fr_w fσ (by unfold x_sc; omega)) ?_ (yb_lt hs gb) (fun k hk hk2 => ?_) (fun k hk hk2 j hj hj2 e => ?_) (fun x => ?_) (fun k hk hk2 => ?_)
                · rw [e7, z_add (by rw [h5]; simp only [Int32.reduceToInt]; omega), h5]; simp only [Int32.reduceToInt]; omega
                · by_cases r : k = m - c
                  · rw [r]; exact q.2
                  · exact i1 k hk (by omega)
                · by_cases r : k = m - c
                  · by_cases r2 : j = m - c
                    · omega
                    · exfalso; rw [r] at e; exact new j hj (by omega) e
                  · by_cases r2 : j = m - c
                    · exfalso; rw [r2] at e; exact new k hk (by omega) e.symm
                    · exact i2 k hk (by omega) j hj (by omega) e
                · rw [yb_set, Bool.or_eq_true, i3 x, decide_eq_true_iff]
                  constructor
                  · rintro (⟨k, k1, k2, k3⟩ | k3)
                    · exact ⟨k, k1, by omega, k3⟩
                    · exact ⟨m - c, by omega, by omega, k3.symm⟩
                  · rintro ⟨k, k1, k2, k3⟩
                    by_cases r : k = m - c
                    · right; rw [← k3, r]
                    · left; exact ⟨k, k1, by omega, k3⟩
                · rw [e6, w1_at]
                  by_cases r : k = m - c
                  · rw [if_pos ⟨rfl, r⟩, r]
                  · rw [if_neg (fun z => r z.2)]; exact i4 k hk (by omega)
              · intro v
                rw [e1', yb_b0 (by omega) (by omega)] at q2
                have : s.testBit (g (m - c)) = true := by
                  cases hb : s.testBit (g (m - c))
                  · exact absurd hb q2
                  · rfl
                obtain ⟨k, k1, k2, k3⟩ := (i3 _).mp this
                have := v.2.2 (m - c) (by omega) k k1 k3
                omega
              · intro v
                rw [hy] at q
                have := v.2.1 (m - c) (by omega)
                omega
        have := loop 0 (by omega) τ y2 0 (fr_r _ _) (by omega) (by decide) (fun k hk hk2 => by omega) (fun k hk hk2 => by omega) (fun x => by simp; intro k h1 h2; omega) (fun k hk hk2 => by omega)
        rw [Nat.pow_zero, Nat.div_one, ← eR] at this
        exact this
      · rw [z_le] at q; simp only [Int32.reduceToInt] at q; omega
    · have hmσ := hmX_fr hmm f
      refine e_X12_agenda (ml_laysNow hmσ wA (fun σ1 f1 g1 mc1 hm1 => ml_in (fun _ _ => ⟨fun z => absurd z z_10, fun _ => ⟨fun _ => ?_, fun q => ?_⟩⟩) (fun q => ?_)))
      · have fx := fr_m s69_x f1
        have m0 := jA_at hm1.1 0
        have bad : ¬ V → K σ1 (-1) := fun z => hK σ1 _ fx (by rw [hZ0 z]; exact n1)
        have l1 : ∀ k, k ≤ m → (fun k => x_WI 2000 mX12_agenda K 25 [(0, .ref 345), (1, .int a1), (2, .int a2), (3, .int (nI (10 ^ k))), (4, .int (nI (k + 1)))] [] σ1) k := by
          refine z_down ?_ ?_
          · have p : 0 < 10 ^ m := Nat.pow_pos (by omega)
            have p9 : 10 ^ m ≤ 10 ^ 7 := Nat.pow_le_pow_right (by omega) (by omega)
            have pz : (nI (10 ^ m)).toInt = (10 ^ m : Nat) := z_n (by omega)
            have dv : a1 / nI (10 ^ m) = nI (R / 10 ^ m) := by rw [eR]; exact n_div p (by omega) (by omega)
            have hlt : R / 10 ^ m < 2147483648 := Nat.lt_of_le_of_lt (Nat.div_le_self _ _) (by omega)
            refine k_X12_agenda_25 ⟨fun _ => ⟨fun q => ?_, fun q => ?_, fun q => bad (fun v => q ?_)⟩, fun q => absurd (by rw [z_le, hm, z_n (by omega)]; omega) q⟩
            · rw [z_eq, pz] at q; simp only [Int32.reduceToInt] at q; omega
            · rw [dv, z_le, z_n hlt] at q
              simp only [Int32.reduceToInt] at q
              have hR1 : R < 10 ^ (m + 1) := by
                have : R / 10 ^ m < 10 := by omega
                rw [Nat.div_lt_iff_lt_mul p] at this
                rw [Nat.pow_succ, Nat.mul_comm]; exact this
              have l2 : ∀ k, k ≤ m + 1 → (fun k => ∀ (v3 v5 : Int32) (s : Nat), (k ≤ m → v3 = nI (10 ^ (m - k))) → s < 2 ^ 10 → (∀ j, j < k → (g j : Int) < A 0) → (∀ j, j < k → ∀ i, i < k → g i = g j → i = j) → (∀ x, s.testBit x = true ↔ ∃ j, j < k ∧ g j = x) → (k = 0 → v5 = -1) → (0 < k → v5 = nI (y_ag A g (k - 1))) → x_WI 2000 mX12_agenda K 61 [(0, .ref 345), (1, .int a1), (2, .int a2), (3, .int v3), (4, .int (nI s)), (5, .int v5), (6, .int (nI k))] [] σ1) k := by
                refine z_down ?_ ?_
                · intro v3 v5 s _ hs i1 i2 i3 _ i5
                  refine k_X12_agenda_61 ⟨fun _ => hK _ _ fx ?_, fun q => absurd (by rw [z_le, hm, z_n (by omega)]; omega) q⟩
                  obtain ⟨i, hi, e⟩ := ag_in A g m
                  have := g10 i
                  rw [i5 (by omega), Nat.add_sub_cancel, z_n (by omega), hZ1 ⟨hR1, fun k hk => i1 k (by omega), fun k hk j hj => i2 k (by omega) j (by omega)⟩]
                · intro k hk ih v3 v5 s h3 hs i1 i2 i3 i4 i5
                  have h3 := h3 (by omega)
                  have p : 0 < 10 ^ (m - k) := Nat.pow_pos (by omega)
                  have p9 : 10 ^ (m - k) ≤ 10 ^ 7 := Nat.pow_le_pow_right (by omega) (by omega)
                  have gb := g10 k
                  have hlt : R / 10 ^ (m - k) < 2147483648 := Nat.lt_of_le_of_lt (Nat.div_le_self _ _) (by omega)
                  have d1 : a1 / v3 = nI (R / 10 ^ (m - k)) := by rw [eR, h3]; exact n_div p (by omega) (by omega)
                  refine k_X12_agenda_61 ⟨fun q => ?_, fun _ => ⟨fun q => ?_, fun y1 e1 y2 e2 => ?_⟩⟩
                  · rw [z_le, hm, z_n (by omega)] at q; omega
                  · rw [h3, z_eq, z_n (by omega)] at q; simp only [Int32.reduceToInt] at q; omega
                  have e1' : y1 = nI (g k) := by rw [e1, d1]; exact n_mod (b := 10) (by omega) hlt (by omega)
                  have hy : y1.toInt = g k := by rw [e1', z_n (by omega)]
                  have e2' : k + 1 ≤ m → y2 = nI (10 ^ (m - (k + 1))) := by
                    intro hk1
                    rw [e2, h3, show m - k = m - (k + 1) + 1 by omega, Nat.pow_succ]
                    have p8 : 10 ^ (m - (k + 1)) ≤ 10 ^ 7 := Nat.pow_le_pow_right (by omega) (by omega)
                    have : nI (10 ^ (m - (k + 1)) * 10) / nI 10 = _ := n_div (by omega) (by omega) (by omega)
                    rw [Nat.mul_div_cancel _ (by omega)] at this
                    exact this
                  refine ml_isHouse wA m0 (fun qa qb => ⟨fun z => absurd z z_10, fun _ => e_X12_has ⟨fun q2 => ⟨fun _ y7 e7 => ?_, fun z => absurd rfl z⟩, fun q2 => ⟨fun z => absurd z z_10, fun _ => bad ?_⟩⟩⟩) (fun q => ⟨fun _ => bad ?_, fun z => absurd rfl z⟩)
                  · have q : 0 ≤ (g k : Int) ∧ (g k : Int) < A 0 := by rw [hy] at qa qb; exact ⟨qa, qb⟩
                    rw [e1', yb_b1 (by omega) (by omega)] at q2
                    have e7' : y7 = nI (s ||| 2 ^ g k) := by rw [e7, e1', yb_one (by omega), yb_or]
                    have new : ∀ j, j < k → ¬ g j = g k := fun j hj e => q2 ((i3 (g k)).mpr ⟨j, hj, e⟩)
                    have fin : ∀ v : Int32, v = nI (y_ag A g k) → x_WI 2000 mX12_agenda K 134 [(0, .ref 345), (1, .int a1), (2, .int a2), (3, .int y2), (4, .int y7), (6, .int (nI k))] [.int v] σ1 := by
                      intro v hv
                      refine k_X12_agenda_134 (fun y9 e9 => ?_)
                      rw [e9, ← nI_succ, e7']
                      refine ih y2 v _ (fun hh => e2' hh) (yb_lt hs gb) (fun j hj => ?_) (fun j hj i hi e => ?_) (fun x => ?_) (fun hh => by omega) (fun _ => by rw [Nat.add_sub_cancel]; exact hv)
                      · by_cases r : j = k
                        · rw [r]; exact q.2
                        · exact i1 j (by omega)
                      · by_cases r : j = k
                        · by_cases r2 : i = k
                          · omega
                          · exfalso; rw [r] at e; exact new i (by omega) e
                        · by_cases r2 : i = k
                          · exfalso; rw [r2] at e; exact new j (by omega) e.symm
                          · exact i2 j (by omega) i (by omega) e
                      · rw [yb_set, Bool.or_eq_true, i3 x, decide_eq_true_iff]
                        constructor
                        · rintro (⟨j, k1, k3⟩ | k3)
                          · exact ⟨j, by omega, k3⟩
                          · exact ⟨k, by omega, k3.symm⟩
                        · rintro ⟨j, k1, k3⟩
                          by_cases r : j = k
                          · right; rw [← k3, r]
                          · left; exact ⟨j, by omega, k3⟩
                    by_cases k0 : k = 0
                    · refine ⟨fun _ => k_X12_agenda_127 (fin _ (by rw [e1', k0]; rfl)), fun z => absurd (i4 k0) z⟩
                    · obtain ⟨j, rfl⟩ : ∃ j, k = j + 1 := ⟨k - 1, by omega⟩
                      have i5 := i5 (by omega)
                      rw [Nat.add_sub_cancel] at i5
                      obtain ⟨i, hi, e⟩ := ag_in A g j
                      have gi := g10 i
                      have h1 := i1 i (by omega)
                      refine ⟨fun z => ?_, fun _ => ml_doesBeat wA m0 mc1.2.1 hy (by rw [i5, z_n (by omega)]) q.2 (by rw [e]; exact h1) (fun hb => ⟨fun z => absurd z z_10, fun _ => k_X12_agenda_127 (fin _ ?_)⟩) (fun hb => ⟨fun _ => fin _ ?_, fun z => absurd rfl z⟩)⟩
                      · rw [i5, z_eq, z_n (by omega), n1] at z; omega
                      · rw [e1', y_ag, if_pos hb]
                      · rw [i5, y_ag, if_neg (by rw [hb]; decide)]
                  · intro v
                    rw [e1', yb_b1 (by omega) (by omega)] at q2
                    obtain ⟨j, k1, k3⟩ := (i3 _).mp q2
                    have := v.2.2 k (by omega) j (by omega) k3
                    omega
                  · intro v
                    rw [hy] at q
                    have := v.2.1 k (by omega)
                    omega
              have := l2 0 (by omega) (nI (10 ^ m)) (-1) 0 (fun _ => rfl) (by decide) (fun j hj => by omega) (fun j hj => by omega) (fun x => by simp) (fun _ => rfl) (fun hh => by omega)
              exact this
            · rw [dv, z_le, z_n hlt]
              simp only [Int32.reduceToInt]
              have : R / 10 ^ m < 10 := by
                rw [Nat.div_lt_iff_lt_mul p, Nat.mul_comm, ← Nat.pow_succ]; exact v.1
              omega
          · intro k hk ih
            refine k_X12_agenda_25 ⟨fun q => ?_, fun _ y1 e1 y2 e2 => ?_⟩
            · rw [z_le, hm, z_n (by omega)] at q; omega
            · rw [e2, ← nI_succ, e1, show nI (10 ^ k) * 10 = nI (10 ^ (k + 1)) by rw [Nat.pow_succ]; exact n_mul _ 10]
              exact ih
        exact l1 0 (by omega)
      · rw [z_le] at q; simp only [Int32.reduceToInt] at q; omega
      · simp only [Int32.reduceToInt] at q; omega
  · refine pair_q h (-1) (fun K hK => ?_) (fun σ f K hK => ?_)
    · have bad : K τ (-1) := hK τ _ (fr_r _ _) (by decide)
      refine e_X11_agenda ⟨fun q => bad, fun q1 => ⟨fun q => bad, fun q2 => ⟨fun q3 => ?_, fun q => bad⟩⟩⟩
      rw [z_lt] at q1 q2
      rw [z_le] at q3
      simp only [Int32.reduceToInt] at q1 q2 q3
      omega
    · have hmσ := hmX_fr hmm f
      refine e_X12_agenda (ml_laysNow hmσ wA (fun σ1 f1 g1 mc1 hm1 => ?_))
      have bad : K σ1 (-1) := hK σ1 _ (fr_m s69_x f1) (by decide)
      refine ml_in (fun r1 r2 => ⟨fun _ => bad, fun _ => ⟨fun q => ?_, fun _ => bad⟩⟩) (fun q => ⟨fun _ => bad, fun z => absurd rfl z⟩)
      rw [z_le] at q
      simp only [Int32.reduceToInt] at q r1 r2
      omega
