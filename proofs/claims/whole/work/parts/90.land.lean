/-! the land is changed -/
theorem wD_mono {A A' e : Nat → Int} (h0 : A 0 ≤ A' 0) (h1 : A 1 ≤ A' 1) (w : w_D A e) : w_D A' e := by
  obtain ⟨a1, a2, a3, a4, a5, a6, a7, a8, a9, a10⟩ := w
  exact ⟨by omega, a2, fun z => by have := a3 z; omega, a4, a5, a6, a7, a8, a9, a10⟩
theorem hf_land {τ σ : x_T} {A A' : Nat → Int} (h : x_hf 1 13 17 τ A) (f : x_fr (fun c => 1 ≤ c ∧ c ≤ 12) τ σ) (wA : w_A A') (hc : x_cl 1 σ A') (h0 : A 0 ≤ A' 0) (h1 : A 1 ≤ A' 1) (h4 : A 4 = A' 4) (hk : ∀ k, 130 ≤ k → A k = A' k) : x_hf 1 13 17 σ A' := by
  obtain ⟨g1, g2, g3, g4, c1, c2, c3, fi, hf, c4, c5⟩ := h
  have fc : ∀ c, 13 ≤ c → σ.1 c = τ.1 c := fun c hc => f.1 c (fun q => by omega)
  have d1 : w_D A (fun k => A' (130 + k)) := wD_cg (A := A) (A' := A) (e := fun k => A (130 + k)) rfl rfl (fun k _ => hk (130 + k) (by omega)) g3
  have d2 : x_cd 13 σ (fun k => A (130 + k)) := cd_fr g4 (fc 13 (by omega)) (fc (13 + 1) (by omega)) (fc (13 + 2) (by omega)) (fc (13 + 3) (by omega))
  refine ⟨wA, hc, wD_mono h0 h1 d1, cd_cg d2 (fun k _ => hk (130 + k) (by omega)), ?_⟩
  refine ⟨by rw [fc 17 (by omega), c1, h4], by omega, by omega, fi, hf, by rw [fc 17 (by omega), c4], fun i hi => ?_⟩
  have h5 := c5 i (by omega)
  have d3 : w_D A (fun k => A' (250 + 114 * i + k)) := wD_cg (A := A) (A' := A) (e := fun k => A (250 + 114 * i + k)) rfl rfl (fun k _ => hk (250 + 114 * i + k) (by omega)) h5.2
  have d4 : x_cd (17 + 2 + 4 * ((fi + i) % 30)) σ (fun k => A (250 + 114 * i + k)) := cd_fr h5.1 (fc _ (by omega)) (fc _ (by omega)) (fc _ (by omega)) (fc _ (by omega))
  exact ⟨cd_cg d4 (fun k _ => hk (250 + 114 * i + k) (by omega)), wD_mono h0 h1 d3⟩
theorem wH_land {A A' : Nat → Int} (w : w_H A) (wA : w_A A') (h0 : A 0 ≤ A' 0) (h1 : A 1 ≤ A' 1) (h4 : A 4 = A' 4) (hk : ∀ k, 130 ≤ k → A k = A' k) : w_H A' := by
  have d1 : w_D A (z_dy A') := wD_cg (A := A) (A' := A) (e := z_dy A) rfl rfl (fun k _ => hk (130 + k) (by omega)) w.2.1
  exact ⟨wA, wD_mono h0 h1 d1, by rw [← h4]; exact w.2.2.1, by rw [← h4]; exact w.2.2.2⟩
theorem s12_sC (c : Nat) (h : 1 ≤ c ∧ c ≤ 12) : j_sC c := by unfold j_sC; omega
/-! house -/
def z_okh (A : Nat → Int) (a : Int) : Bool := decide (0 ≤ a ∧ a ≤ 9 ∧ A 0 < 8)
def z_Ph (A : Nat → Int) (a : Int) : Nat → Int := z_set (z_set A (10 + (A 0).toNat) a) 0 (A 0 + 1)
def z_Phouse (A : Nat → Int) (a : Int) : Nat → Int := if z_okh A a = true then z_Ph A a else A
def z_Ahouse (A : Nat → Int) (a : Int) : Int := if z_okh A a = true then A 0 else -1
theorem Ph_k {A : Nat → Int} {a : Int} {k : Nat} (h0 : k ≠ 0) (hk : k < 10 ∨ 18 ≤ k) (w : 0 ≤ A 0 ∧ A 0 < 8) : A k = z_Ph A a k := by
  unfold z_Ph
  rw [z_set_e, z_set_e, if_neg h0, if_neg (by omega)]
theorem Ph_0 (A : Nat → Int) (a : Int) : z_Ph A a 0 = A 0 + 1 := by unfold z_Ph; rw [z_set_e, if_pos rfl]
theorem Ph_h {A : Nat → Int} {a : Int} {k : Nat} : z_Ph A a (10 + k) = if k = (A 0).toNat then a else A (10 + k) := by
  unfold z_Ph
  rw [z_set_e, z_set_e, if_neg (by omega)]
  by_cases q : k = (A 0).toNat
  · rw [if_pos (by omega), if_pos q]
  · rw [if_neg (by omega), if_neg q]
theorem wA_Ph {A : Nat → Int} {a : Int} (w : w_A A) (ha : 0 ≤ a ∧ a ≤ 9) (h8 : A 0 < 8) : w_A (z_Ph A a) := by
  obtain ⟨w1, w2, w3, w4, w5, w6, w7, w8⟩ := w
  have k : ∀ k, k ≠ 0 → k < 10 ∨ 18 ≤ k → A k = z_Ph A a k := fun k h0 hk => Ph_k h0 hk (by omega)
  have k0 := Ph_0 A a
  refine ⟨by rw [k0, ← k 1 (by omega) (by omega)]; omega, fun h hh => ?_, fun h hh => ?_, fun h hh => ?_, fun h hh => ?_, fun i j hi hj => ?_, ⟨by rw [← k 5 (by omega) (by omega)]; omega, by rw [← k 5 (by omega) (by omega)]; omega, fun i hi hj => ?_⟩, ⟨by rw [← k 6 (by omega) (by omega)]; omega, by rw [← k 6 (by omega) (by omega)]; omega, fun i hi hj => ?_⟩⟩
  · rw [Ph_h]
    split
    · exact ha
    · exact w2 h hh
  · rw [← k (18 + h) (by omega) (by omega)]; exact w3 h hh
  · rw [← k (22 + h) (by omega) (by omega), k0]
    have := w4 h hh
    exact ⟨this.1, this.2.1, fun z => this.2.2 (by omega)⟩
  · rw [← k (30 + h) (by omega) (by omega)]; exact w5 h hh
  · rw [← k (30 + (8 * i + j)) (by omega) (by omega), ← k (30 + (8 * j + i)) (by omega) (by omega), k0]
    have := w6 i j hi hj
    exact ⟨this.1, fun z => this.2.1 (by omega), this.2.2⟩
  · rw [← k 5 (by omega) (by omega)] at hj
    rw [← k (94 + 2 * i) (by omega) (by omega), ← k (95 + 2 * i) (by omega) (by omega), k0]
    have := w7.2.2 i hi hj
    omega
  · rw [← k 6 (by omega) (by omega)] at hj
    rw [← k (110 + 2 * i) (by omega) (by omega), ← k (111 + 2 * i) (by omega) (by omega), k0]
    have := w8.2.2 i hi hj
    omega
theorem ms_house {d : Nat} {a : Int32} {τ : x_T} {A : Nat → Int} {K : x_T → Int32 → Prop} (hm : j_A τ = A) (wA : w_A A) (h : ∀ (σ : x_T) (u : Int32), x_fr j_sM τ σ → j_A σ = z_Phouse A a.toInt → u.toInt = z_Ahouse A a.toInt → K σ u) : x_CI (d + 1) mX12_house [.ref 345, .int a] τ K := by
  have w0 := wA.1
  have c0 : (τ.1 346 0).toInt = A 0 := jA_at hm 0
  have no : ¬ (0 ≤ a.toInt ∧ a.toInt ≤ 9 ∧ A 0 < 8) → K τ (-1) := by
    intro z
    have hf : z_okh A a.toInt = false := decide_eq_false z
    refine h _ _ (fr_r _ _) ?_ ?_
    · rw [z_Phouse, hf]; exact hm
    · rw [z_Ahouse, hf]; rfl
  refine e_X12_house (fun y1 e1 => ml_in (fun q1 q2 => ⟨fun q => absurd q z_10, fun _ => ⟨fun q3 => ?_, fun q => no ?_⟩⟩) (fun q => ⟨fun _ => no ?_, fun r => absurd rfl r⟩))
  · simp only [Int32.reduceToInt] at q1 q2
    rw [z_eq, e1, c0] at q3; simp only [Int32.reduceToInt] at q3
    have ht : z_okh A a.toInt = true := decide_eq_true (by omega)
    have k10 := ix_c 10 (by omega) 3670 (v := y1) (by rw [e1, c0]; omega) (by omega)
    have cl : ((10 : Int32) + y1).toNatClampNeg = 10 + (A 0).toNat := (show ((10 : Int32) + y1).toNatClampNeg = 10 + y1.toInt.toNat from k10.1).trans (by rw [e1, c0])
    refine ⟨k10.2, fun t4 e4 t5 e5 => h _ _ (by rw [e5, e4]; exact fr_w (fr_w (fr_r _ _) (Or.inl rfl)) (Or.inl rfl)) ?_ (by rw [z_Ahouse, ht, e1, c0]; rfl)⟩
    rw [cl] at e4
    have hp : z_Phouse A a.toInt = z_Ph A a.toInt := by rw [z_Phouse, ht]; rfl
    rw [hp]
    funext k
    unfold j_A z_Ph
    rw [e5, w1_at, z_set_e, z_set_e]
    have c4 : (t4.1 346 0).toInt = A 0 := by rw [e4, w1_at, if_neg (by omega), c0]
    by_cases r : k = 0
    · rw [if_pos ⟨rfl, r⟩, if_pos r, z_add (by rw [c4]; simp only [Int32.reduceToInt]; omega), c4]; rfl
    · rw [if_neg (fun z => r z.2), if_neg r, e4, w1_at]
      by_cases s : k = 10 + (A 0).toNat
      · rw [if_pos ⟨rfl, s⟩, if_pos s]
      · rw [if_neg (fun z => s z.2), if_neg s, jA_at hm]
  · rw [z_eq, e1, c0] at q; simp only [Int32.reduceToInt] at q; omega
  · simp only [Int32.reduceToInt] at q; omega
