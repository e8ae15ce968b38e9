/-! barrow -/
def z_Abar (A : Nat → Int) (L : x_L2) (w : Int) : Int := if 0 ≤ w ∧ w ≤ 4 then A (130 + w.toNat) else if w = 5 then (if A 132 = 0 then 0 else z_wear A (x_La L A) (z_dy A)) else -2
theorem q_barrow (hL : x_HL) {τ : x_T} (h : x_J τ) (a1 : Int32) : x_CI 2000 mX11_barrow [.ref 0, .int a1] τ (fun τ1 u => x_CI 2000 mX12_barrow [.ref 345, .int a1] τ1 (fun τ2 v => u = v ∧ x_J τ2)) := by
  obtain ⟨L, l1, l2⟩ := hL τ h
  generalize hA : j_A τ = A
  have hJ := h.1
  rw [hA] at hJ
  have wA := hJ.1
  have w0 := wA.1
  have wD : w_D A (z_dy A) := hJ.2.2.1
  have he : x_cd 13 τ (z_dy A) := hJ.2.2.2.1
  have hcc := hc_cc (τ := τ) (A := A) (L := L) ⟨hJ, l1⟩
  have hmm : x_hm τ A L := ⟨hA, l2⟩
  have e2 : (τ.1 13 2).toInt = A 132 := cd_0 he (k := 2) (by omega)
  have wd0 : 0 ≤ A 130 ∧ (A 130 = 0 ∨ A 130 < A 0) := wD.1
  have wd2 : 0 ≤ A 132 ∧ A 132 ≤ 9999 := wD.2.1
  have wd3 : 0 < A 132 → A 130 < A 0 ∧ 0 ≤ A 131 ∧ A 131 < A 0 ∧ 0 ≤ A 133 ∧ A 133 < A 1 := wD.2.2.1
  have wd4 : 0 ≤ A 134 ∧ A 134 ≤ 99 := wD.2.2.2.2.1
  have wd5 : 0 ≤ A 135 ∧ A 135 ≤ 9999 := wD.2.2.2.2.2.1
  refine pair_q h (z_Abar A L a1.toInt) (fun K hK => ?_) (fun σ f K hK => ?_)
  · have fld : ∀ k : Nat, k ≤ 4 → a1.toInt = k → K τ (τ.1 13 k) := fun k hk ha => hK _ _ (fr_r _ _) (by rw [cd_0 he (by omega), z_Abar, ha, if_pos (by omega)]; rfl)
    refine e_X11_barrow ⟨fun q => fld 0 (by omega) (by rw [q]; rfl), fun q0 => ⟨fun q => fld 1 (by omega) (by rw [q]; rfl), fun q1 => ⟨fun q => fld 2 (by omega) (by rw [q]; rfl), fun q2 => ⟨fun q => fld 3 (by omega) (by rw [q]; rfl), fun q3 => ⟨fun q => fld 4 (by omega) (by rw [q]; rfl), fun q4 => ⟨fun q => ⟨fun r => hK _ _ (fr_r _ _) ?_, fun r => ?_⟩, fun q5 => hK _ _ (fr_r _ _) ?_⟩⟩⟩⟩⟩⟩
    · rw [z_le, e2] at r; simp only [Int32.reduceToInt] at r
      rw [q, z_Abar, if_neg (by decide), if_pos (by decide), if_pos (by omega)]; rfl
    · rw [z_le, e2] at r; simp only [Int32.reduceToInt] at r
      refine cl_wearing rfl (by omega) hcc wA he ?_ (fun σ u f hu => hK _ _ (fr_m sL_x f) ?_)
      · show 0 ≤ A 130 ∧ A 130 ≤ 9 ∧ 0 ≤ A 132 ∧ A 132 ≤ 9999 ∧ 0 ≤ A 134 ∧ A 134 ≤ 99 ∧ 0 ≤ A 135 ∧ A 135 ≤ 9999
        omega
      · rw [hu, q, z_Abar, if_neg (by decide), if_pos (by decide), if_neg (by omega)]
    · rw [z_eq] at q0 q1 q2 q3 q4 q5; simp only [Int32.reduceToInt] at q0 q1 q2 q3 q4 q5
      rw [z_Abar, if_neg (by omega), if_neg q5]; rfl
  · have hmσ := hmX_fr hmm f
    refine e_X12_barrow (ml_laysNow hmσ wA (fun σ1 f1 g1 mc1 hm1 => ?_))
    have fx := fr_m s69_x f1
    have r2 : (σ1.1 370 2).toInt = A 132 := g1 2 (by omega)
    refine ml_in (fun q1 q2 => ⟨fun z => absurd z z_10, fun _ => ?_⟩) (fun q => ⟨fun _ => ⟨fun r => hK _ _ fx ?_, fun r => ⟨fun s => ?_, fun s => hK _ _ fx ?_⟩⟩, fun z => absurd rfl z⟩)
    · simp only [Int32.reduceToInt] at q1 q2
      refine ⟨ix_n (by omega), hK _ _ fx ?_⟩
      rw [z_cl, g1 _ (by omega), z_Abar, if_pos (by omega)]
    · rw [z_eq] at r; simp only [Int32.reduceToInt] at q r
      rw [z_Abar, if_neg q, if_neg r]; rfl
    · rw [z_eq] at r; simp only [Int32.reduceToInt] at q r
      rw [z_eq, r2] at s; simp only [Int32.reduceToInt] at s
      refine ml_wearsNow (e := z_dy A) mc1 wA g1 ?_ ?_ (fun ρ u f2 hu => hK _ _ (fr_t fx (fr_m sN_x f2)) ?_)
      · show 0 ≤ A 130 ∧ A 130 < A 0
        omega
      · show 0 ≤ A 132 ∧ A 132 ≤ 9999 ∧ 0 ≤ A 134 ∧ A 134 ≤ 99 ∧ 0 ≤ A 135 ∧ A 135 ≤ 9999
        omega
      · rw [hu, z_Abar, if_neg q, if_pos r, if_neg s]
    · rw [z_eq] at r; simp only [Int32.reduceToInt] at q r
      rw [z_eq, r2] at s; simp only [Int32.reduceToInt] at s
      rw [z_Abar, if_neg q, if_pos r, if_pos s]; rfl
/-! hard -/
def z_okd (A : Nat → Int) (a b p : Int) : Bool := decide (0 ≤ p ∧ p < A 1 ∧ 0 < z_ln A a b)
def z_Ahd (A : Nat → Int) (L : x_L2) (a b p : Int) : Int := if z_okd A a b p = true then z_hard A (x_La L A) (z_dy A) a b p else -1
theorem q_hard (hL : x_HL) {τ : x_T} (h : x_J τ) (a1 a2 a3 : Int32) : x_CI 2000 mX11_hard [.ref 0, .int a1, .int a2, .int a3] τ (fun τ1 u => x_CI 2000 mX12_hard [.ref 345, .int a1, .int a2, .int a3] τ1 (fun τ2 v => u = v ∧ x_J τ2)) := by
  obtain ⟨L, l1, l2⟩ := hL τ h
  generalize hA : j_A τ = A
  have hJ := h.1
  rw [hA] at hJ
  have wA := hJ.1
  have w0 := wA.1
  have wD : w_D A (z_dy A) := hJ.2.2.1
  have he : x_cd 13 τ (z_dy A) := hJ.2.2.2.1
  have hcc := hc_cc (τ := τ) (A := A) (L := L) ⟨hJ, l1⟩
  have hmm : x_hm τ A L := ⟨hA, l2⟩
  have bl := z_ln_b wA a1.toInt a2.toInt
  refine pair_q h (z_Ahd A L a1.toInt a2.toInt a3.toInt) (fun K hK => ?_) (fun σ f K hK => ?_)
  · have no : ¬ (0 ≤ a3.toInt ∧ a3.toInt < A 1 ∧ 0 < z_ln A a1.toInt a2.toInt) → K τ (-1) := by
      intro z
      have hf : z_okd A a1.toInt a2.toInt a3.toInt = false := decide_eq_false z
      exact hK _ _ (fr_r _ _) (by rw [z_Ahd, hf]; rfl)
    refine e_X11_hard (cl_isPusher hJ.2.1 wA (fun p1 p2 => ⟨fun z => absurd z z_10, fun _ => cl_laneBetween hJ.2.1 wA (fun u hu => ⟨fun q => ?_, fun q => no ?_⟩)⟩) (fun p => ⟨fun _ => no (by omega), fun z => absurd rfl z⟩))
    · rw [z_eq, hu] at q; simp only [Int32.reduceToInt] at q
      have ht : z_okd A a1.toInt a2.toInt a3.toInt = true := decide_eq_true (by omega)
      have hr := z_ln_r (A := A) (x := a1.toInt) (y := a2.toInt) (by omega)
      exact cl_hardness rfl (by omega) hcc wA he wD.2.2.2.2.2.1 (by omega) (by omega) (fun σ u f hu => hK _ _ (fr_m sL_x f) (by rw [hu, z_Ahd, ht]; rfl))
    · rw [z_eq, hu] at q; simp only [Int32.reduceToInt] at q; omega
  · have hmσ := hmX_fr hmm f
    have m1 := jA_at hmσ.1 1
    have no : ¬ (0 ≤ a3.toInt ∧ a3.toInt < A 1 ∧ 0 < z_ln A a1.toInt a2.toInt) → K σ (-1) := by
      intro z
      have hf : z_okd A a1.toInt a2.toInt a3.toInt = false := decide_eq_false z
      exact hK _ _ (fr_r _ _) (by rw [z_Ahd, hf]; rfl)
    have k0 : (σ.1 346 1 - 1).toInt = A 1 - 1 := by rw [z_sub (by rw [m1]; simp only [Int32.reduceToInt]; omega), m1]; rfl
    have nl : ¬ (0 ≤ a1.toInt ∧ a1.toInt < A 0 ∧ 0 ≤ a2.toInt ∧ a2.toInt < A 0) → ¬ 0 < z_ln A a1.toInt a2.toInt := fun z q => z (z_ln_r q)
    refine e_X12_hard (ml_isHouse wA (jA_at hmσ.1 0) (fun p1 p2 => ⟨fun z => absurd z z_10, fun _ => ml_isHouse wA (jA_at hmσ.1 0) (fun p3 p4 => ⟨fun z => absurd z z_10, fun _ => ml_in (fun p5 p6 => ⟨fun z => absurd z z_10, fun _ => ?_⟩) (fun p => ⟨fun _ => no ?_, fun z => absurd rfl z⟩)⟩) (fun p => ⟨fun _ => no (fun z => nl (by omega) z.2.2), fun z => absurd rfl z⟩)⟩) (fun p => ⟨fun _ => no (fun z => nl (by omega) z.2.2), fun z => absurd rfl z⟩))
    · rw [k0] at p6
      simp only [Int32.reduceToInt] at p5
      have k30 := ix_30 (v := a1) (w := a2) (by omega) (by omega)
      have hl : (σ.1 346 (30 + 8 * a1 + a2).toNatClampNeg).toInt = z_ln A a1.toInt a2.toInt := by rw [k30.1, jA_at hmσ.1, z_ln, if_pos (by omega)]
      refine ⟨k30.2, fun q => ml_laysNow hmσ wA (fun σ1 f1 g1 mc1 hm1 => ?_), fun q => no ?_⟩
      · rw [z_eq, hl] at q; simp only [Int32.reduceToInt] at q
        have ht : z_okd A a1.toInt a2.toInt a3.toInt = true := decide_eq_true (by omega)
        exact ml_hardOf (e := z_dy A) mc1 wA g1 (by omega) (by omega) (by omega) wD.2.2.2.2.2.1 (fun ρ u f2 hu => hK _ _ (fr_t (fr_m s69_x f1) (fr_m sN_x f2)) (by rw [hu, z_Ahd, ht]; rfl))
      · rw [z_eq, hl] at q; simp only [Int32.reduceToInt] at q; omega
    · rw [k0] at p; simp only [Int32.reduceToInt] at p; omega
/-! foretold -/
def z_ft (A : Nat → Int) (L : x_L) (e : Nat → Int) : Nat → Nat → Int
  | 0 => e
  | k + 1 => if 9999 ≤ z_ft A L e k 5 then z_ft A L e k else z_pd A L (z_ft A L e k)
theorem wD_ft {A e : Nat → Int} (wA : w_A A) (w : w_D A e) (L : x_L) : ∀ k, w_D A (z_ft A L e k) := by
  intro k
  induction k with
  | zero => exact w
  | succ k ih =>
    rw [z_ft]
    split
    · exact ih
    · exact wD_pd wA ih L (by omega)
theorem ft_stop {A e : Nat → Int} {L : x_L} {k : Nat} (h : 9999 ≤ z_ft A L e k 5) : ∀ j, z_ft A L e (k + j) = z_ft A L e k := by
  intro j
  induction j with
  | zero => rfl
  | succ j ih => rw [← Nat.add_assoc, z_ft, ih, if_pos h]
def z_okf (A : Nat → Int) (n a w : Int) : Bool := decide (1 ≤ n ∧ n ≤ 60 ∧ 0 ≤ a ∧ a < A 0 ∧ 0 ≤ w ∧ w ≤ 2)
def z_Aft (A : Nat → Int) (L : x_L2) (n a w : Int) : Int := if z_okf A n a w = true then (if w = 0 then z_ft A (x_La L A) (z_dy A) n.toNat (7 + a.toNat) else if w = 1 then z_ft A (x_La L A) (z_dy A) n.toNat (15 + a.toNat) else z_hour A (z_ft A (x_La L A) (z_dy A) n.toNat 0) a) else -1000
theorem sD_x (c : Nat) (h : x_sD 341 c) : x_sc c := by unfold x_sD at h; unfold x_sc; omega
theorem q_foretold (hL : x_HL) {τ : x_T} (h : x_J τ) (a1 a2 a3 : Int32) : x_CI 2000 mX11_foretold [.ref 0, .int a1, .int a2, .int a3] τ (fun τ1 u => x_CI 2000 mX12_foretold [.ref 345, .int a1, .int a2, .int a3] τ1 (fun τ2 v => u = v ∧ x_J τ2)) := by
  obtain ⟨L, l1, l2⟩ := hL τ h
  generalize hA : j_A τ = A
  have hJ := h.1
  rw [hA] at hJ
  have wA := hJ.1
  have w0 := wA.1
  have wD : w_D A (z_dy A) := hJ.2.2.1
  have he : x_cd 13 τ (z_dy A) := hJ.2.2.2.1
  have hcc := hc_cc (τ := τ) (A := A) (L := L) ⟨hJ, l1⟩
  have hmm : x_hm τ A L := ⟨hA, l2⟩
  have wf := wD_ft wA wD (x_La L A)
  refine pair_q h (z_Aft A L a1.toInt a2.toInt a3.toInt) (fun K hK => ?_) (fun σ f K hK => ?_)
  · have no : ¬ (1 ≤ a1.toInt ∧ a1.toInt ≤ 60 ∧ 0 ≤ a2.toInt ∧ a2.toInt < A 0 ∧ 0 ≤ a3.toInt ∧ a3.toInt ≤ 2) → K τ (-1000) := by
      intro z
      have hf : z_okf A a1.toInt a2.toInt a3.toInt = false := decide_eq_false z
      exact hK _ _ (fr_r _ _) (by rw [z_Aft, hf]; rfl)
    refine e_X11_foretold ⟨fun q => no ?_, fun q1 => ⟨fun q => no ?_, fun q2 => cl_isHouse hJ.2.1 wA (fun p1 p2 => ⟨fun z => absurd z z_10, fun _ => ⟨fun q => no ?_, fun q3 => ⟨fun q4 => ?_, fun q => no ?_⟩⟩⟩) (fun p => ⟨fun _ => no (by omega), fun z => absurd rfl z⟩)⟩⟩
    · rw [z_lt] at q; simp only [Int32.reduceToInt] at q; omega
    · rw [z_lt] at q; simp only [Int32.reduceToInt] at q; omega
    · rw [z_lt] at q; simp only [Int32.reduceToInt] at q; omega
    · rw [z_lt] at q1 q2 q3
      rw [z_le] at q4
      simp only [Int32.reduceToInt] at q1 q2 q3 q4
      obtain ⟨N, hN⟩ : ∃ N : Nat, a1.toInt = N := ⟨a1.toInt.toNat, by omega⟩
      have hN2 : a1.toInt.toNat = N := by omega
      have ht : z_okf A a1.toInt a2.toInt a3.toInt = true := decide_eq_true (by omega)
      have last : ∀ (ρ : x_T), x_fr x_sc τ ρ → x_cl 1 ρ A → x_cd 341 ρ (z_ft A (x_La L A) (z_dy A) N) → x_WI 2000 mX11_foretold K 86 [(0, .ref 0), (2, .int a2), (3, .int a3)] [] ρ := by
        intro ρ fρ cρ gρ
        refine k_X11_foretold_86 ⟨fun q => cl_purseOf rfl gρ (by omega) (fun u hu => hK _ _ fρ ?_), fun q0 => ⟨fun q => cl_paleOf rfl gρ (by omega) (fun u hu => hK _ _ fρ ?_), fun q => cl_hourBy cρ wA (fun u hu => hK _ _ fρ ?_)⟩⟩
        · rw [z_eq] at q; simp only [Int32.reduceToInt] at q
          rw [hu, z_Aft, ht, if_pos rfl, if_pos q, hN2]
        · rw [z_eq] at q0 q; simp only [Int32.reduceToInt] at q0 q
          rw [hu, z_Aft, ht, if_pos rfl, if_neg q0, if_pos q, hN2]
        · rw [z_eq] at q0 q; simp only [Int32.reduceToInt] at q0 q
          rw [hu, cd_0 gρ (k := 0) (by omega), z_Aft, ht, if_pos rfl, if_neg q0, if_neg q, hN2]
      refine cl_copyDay rfl rfl (by omega) he (fun σ1 f1 g1 => ?_)
      have f1D : x_fr (x_sD 341) τ σ1 := fr_m (fun c hc => Or.inl hc) f1
      have loop : ∀ k, k ≤ N → (fun k => ∀ (ρ : x_T), x_fr (x_sD 341) τ ρ → x_cd 341 ρ (z_ft A (x_La L A) (z_dy A) k) → x_WI 2000 mX11_foretold K 49 [(0, .ref 0), (1, .int a1), (2, .int a2), (3, .int a3), (4, .int (nI k))] [] ρ) k := by
        refine z_down ?_ ?_
        · intro ρ fρ gρ
          refine k_X11_foretold_49 ⟨fun _ => last _ (fr_m sD_x fρ) (cc_fr hcc fρ (sD_cc (Or.inr rfl))).1 gρ, fun q => absurd (by rw [z_le, z_n (by omega)]; omega) q⟩
        · intro k hk ih ρ fρ gρ
          have c5 := cd_0 gρ (k := 5) (by omega)
          have hcρ := cc_fr hcc fρ (sD_cc (Or.inr rfl))
          refine k_X11_foretold_49 ⟨fun q => ?_, fun _ => ⟨fun q => last _ (fr_m sD_x fρ) hcρ.1 ?_, fun q => cl_passMinute (Or.inr rfl) hcρ wA gρ (wf k) (fun ρ2 u f2 g2 _ y3 e3 => ?_)⟩⟩
          · rw [z_le, z_n (by omega)] at q; omega
          · rw [z_le, c5] at q; simp only [Int32.reduceToInt] at q
            have := ft_stop q (N - k)
            rw [show k + (N - k) = N by omega] at this
            rw [this]; exact gρ
          · rw [z_le, c5] at q; simp only [Int32.reduceToInt] at q
            rw [e3, ← nI_succ]
            refine ih _ (fr_t fρ f2) ?_
            rw [z_ft, if_neg q]; exact g2
      exact loop 0 (by omega) σ1 f1D g1
    · rw [z_le] at q; simp only [Int32.reduceToInt] at q; omega
  · have hmσ := hmX_fr hmm f
    have no : ¬ (1 ≤ a1.toInt ∧ a1.toInt ≤ 60 ∧ 0 ≤ a2.toInt ∧ a2.toInt < A 0 ∧ 0 ≤ a3.toInt ∧ a3.toInt ≤ 2) → K σ (-1000) := by
      intro z
      have hf : z_okf A a1.toInt a2.toInt a3.toInt = false := decide_eq_false z
      exact hK _ _ (fr_r _ _) (by rw [z_Aft, hf]; rfl)
    refine e_X12_foretold (ml_in (fun q1 q2 => ⟨fun z => absurd z z_10, fun _ => ml_isHouse wA (jA_at hmσ.1 0) (fun p1 p2 => ⟨fun z => absurd z z_10, fun _ => ml_in (fun q3 q4 => ⟨fun _ => ml_laysNow hmσ wA (fun σ1 f1 g1 mc1 hm1 => ?_), fun z => absurd z z_10⟩) (fun q => ⟨fun z => absurd rfl z, fun _ => no ?_⟩)⟩) (fun p => ⟨fun _ => no (by omega), fun z => absurd rfl z⟩)⟩) (fun q => ⟨fun _ => no ?_, fun z => absurd rfl z⟩))
    · simp only [Int32.reduceToInt] at q1 q2 q3 q4
      obtain ⟨N, hN⟩ : ∃ N : Nat, a1.toInt = N := ⟨a1.toInt.toNat, by omega⟩
      have hN2 : a1.toInt.toNat = N := by omega
      have ht : z_okf A a1.toInt a2.toInt a3.toInt = true := decide_eq_true (by omega)
      have k7 := ix_c 7 (by omega) 114 (v := a2) (by omega) (by omega)
      have k15 := ix_c 15 (by omega) 114 (v := a2) (by omega) (by omega)
      have c7 : ((7 : Int32) + a2).toNatClampNeg = 7 + a2.toInt.toNat := k7.1
      have c15 : ((15 : Int32) + a2).toNatClampNeg = 15 + a2.toInt.toNat := k15.1
      have last : ∀ (ρ : x_T), x_fr x_sW σ1 ρ → x_md ρ (z_ft A (x_La L A) (z_dy A) N) → x_WI 2000 mX12_foretold K 63 [(0, .ref 345), (2, .int a2), (3, .int a3)] [] ρ := by
        intro ρ fρ gρ
        have fx : x_fr x_sc σ ρ := fr_t (fr_m s69_x f1) (fr_m sW_x fρ)
        have r0 : (ρ.1 370 0).toInt = z_ft A (x_La L A) (z_dy A) N 0 := gρ 0 (by omega)
        have wN := (wf N).1
        refine k_X12_foretold_63 ?_
        rw [c7, c15]
        refine ⟨fun q0 => ⟨fun q1 => ml_hourAt wA (mc_fr mc1 fρ sW_mc).2.1 ⟨p1, p2⟩ (by omega) (fun u hu => hK _ _ fx ?_), fun q => ⟨k15.2, hK _ _ fx ?_⟩⟩, fun q => ⟨k7.2, hK _ _ fx ?_⟩⟩
        · rw [z_eq] at q0 q1; simp only [Int32.reduceToInt] at q0 q1
          rw [hu, r0, z_Aft, ht, if_pos rfl, if_neg q0, if_neg q1, hN2]
        · rw [z_eq] at q0 q; simp only [Int32.reduceToInt] at q0 q
          rw [gρ _ (by omega), z_Aft, ht, if_pos rfl, if_neg q0, if_pos q, hN2]
        · rw [z_eq] at q; simp only [Int32.reduceToInt] at q
          rw [gρ _ (by omega), z_Aft, ht, if_pos rfl, if_pos q, hN2]
      have loop : ∀ k, k ≤ N → (fun k => ∀ (ρ : x_T), x_fr x_sW σ1 ρ → x_md ρ (z_ft A (x_La L A) (z_dy A) k) → x_WI 2000 mX12_foretold K 38 [(0, .ref 345), (1, .int a1), (2, .int a2), (3, .int a3), (4, .int (nI k))] [] ρ) k := by
        refine z_down ?_ ?_
        · intro ρ fρ gρ
          exact k_X12_foretold_38 ⟨fun _ => last _ fρ gρ, fun q => absurd (by rw [z_le, z_n (by omega)]; omega) q⟩
        · intro k hk ih ρ fρ gρ
          have c5 : (ρ.1 370 5).toInt = z_ft A (x_La L A) (z_dy A) k 5 := gρ 5 (by omega)
          refine k_X12_foretold_38 ⟨fun q => ?_, fun _ => e_X12_canPass ⟨fun q => ⟨fun _ => last _ fρ ?_, fun z => absurd rfl z⟩, fun q => ⟨fun z => absurd z z_10, fun _ => ml_minutePasses (mc_fr mc1 fρ sW_mc) wA gρ (wf k) (fun ρ2 u f2 g2 _ y3 e3 => ?_)⟩⟩⟩
          · rw [z_le, z_n (by omega)] at q; omega
          · rw [z_le, c5] at q; simp only [Int32.reduceToInt] at q
            have := ft_stop q (N - k)
            rw [show k + (N - k) = N by omega] at this
            rw [this]; exact gρ
          · rw [z_le, c5] at q; simp only [Int32.reduceToInt] at q
            rw [e3, ← nI_succ]
            refine ih _ (fr_t fρ f2) ?_
            rw [z_ft, if_neg q]; exact g2
      exact loop 0 (by omega) σ1 (fr_r _ _) g1
    · simp only [Int32.reduceToInt] at q; omega
    · simp only [Int32.reduceToInt] at q; omega
