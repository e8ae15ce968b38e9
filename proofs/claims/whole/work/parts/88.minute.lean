/-! minutes -/
def z_m1 (A : Nat → Int) (L : x_L2) : Nat → Int := z_put (z_keep A) (z_pd (z_keep A) (x_La L (z_keep A)) (z_dy (z_keep A)))
def z_mc (A : Nat → Int) (L : x_L2) : Int := z_pc (z_keep A) (x_La L (z_keep A)) (z_dy (z_keep A))
def z_Pm (A : Nat → Int) (L : x_L2) : Nat → Nat → Int
  | 0 => A
  | k + 1 => z_m1 (z_Pm A L k) L
def z_Cm (A : Nat → Int) (L : x_L2) : Nat → Int
  | 0 => 0
  | k + 1 => z_Cm A L k + z_mc (z_Pm A L k) L
theorem fc_b (A : Nat → Int) (L : x_L) (e : Nat → Int) : ∀ k : Nat, 0 ≤ z_fc A L e k ∧ z_fc A L e k ≤ k := by
  intro k
  induction k with
  | zero => simp [z_fc]
  | succ k ih => rw [z_fc]; split <;> omega
theorem mc_b {A : Nat → Int} (w : w_H A) (L : x_L2) : 0 ≤ z_mc A L ∧ z_mc A L ≤ 8 := by
  have h := (wH_keep w).1.1
  have := fc_b (z_keep A) (x_La L (z_keep A)) (z_roll (z_keep A) (x_La L (z_keep A)) (z_dy (z_keep A))) (z_keep A 0).toNat
  unfold z_mc z_pc
  omega
theorem m1_135 (A : Nat → Int) (L : x_L2) : z_m1 A L 135 = A 135 + 1 := by
  unfold z_m1
  rw [show (135 : Nat) = 130 + 5 from rfl, put_dy (by omega), z_pd_5]
  unfold z_dy
  rw [keep_lt (by omega) (by omega)]
theorem Pm_135 (A : Nat → Int) (L : x_L2) : ∀ k : Nat, z_Pm A L k 135 = A 135 + k := by
  intro k
  induction k with
  | zero => simp [z_Pm]
  | succ k ih => rw [z_Pm, m1_135, ih]; omega
theorem wH_m1 {A : Nat → Int} (w : w_H A) (L : x_L2) (h : A 135 < 9999) : w_H (z_m1 A L) := by
  have w2 := wH_keep w
  refine wH_put w2 (wD_pd w2.1 w2.2.1 _ ?_)
  unfold z_dy
  rw [keep_lt (by omega) (by omega)]
  exact h
theorem wH_Pm {A : Nat → Int} (w : w_H A) (L : x_L2) : ∀ k : Nat, A 135 + k ≤ 9999 → w_H (z_Pm A L k) := by
  intro k
  induction k with
  | zero => intro _; exact w
  | succ k ih => intro h; exact wH_m1 (ih (by omega)) L (by rw [Pm_135]; omega)
theorem Cm_b {A : Nat → Int} (w : w_H A) (L : x_L2) : ∀ k : Nat, A 135 + k ≤ 9999 → 0 ≤ z_Cm A L k ∧ z_Cm A L k ≤ 8 * k := by
  intro k
  induction k with
  | zero => intro _; simp [z_Cm]
  | succ k ih =>
    intro h
    have h1 := ih (by omega)
    have h2 := mc_b (wH_Pm w L k (by omega)) L
    rw [z_Cm]
    omega
theorem Pm_lt (A : Nat → Int) (L : x_L2) {j : Nat} (hj : j < 130) (h4 : j ≠ 4) : ∀ k : Nat, z_Pm A L k j = A j := by
  intro k
  induction k with
  | zero => rfl
  | succ k ih => rw [z_Pm, z_m1, P_keep hj h4, ih]
def z_okm (A : Nat → Int) (n : Int) : Bool := decide (1 ≤ n ∧ n ≤ 60 ∧ n ≤ 9999 - A 135)
def z_Pmin (A : Nat → Int) (L : x_L2) (n : Int) : Nat → Int := if z_okm A n = true then z_Pm A L n.toNat else A
def z_Amin (A : Nat → Int) (L : x_L2) (n : Int) : Int := if z_okm A n = true then z_Cm A L n.toNat else -1
theorem min_3 {A : Nat → Int} {L : x_L2} {n : Int} {k : Nat} (hk : k < 130) (h4 : k ≠ 4) : z_Pmin A L n k = A k := by
  unfold z_Pmin
  split
  · exact Pm_lt A L hk h4 _
  · rfl
theorem wH_min {A : Nat → Int} (w : w_H A) (L : x_L2) (n : Int) : w_H (z_Pmin A L n) := by
  unfold z_Pmin
  split
  · rename_i q
    have := of_decide_eq_true q
    exact wH_Pm w L _ (by omega)
  · exact w
theorem cs_min {d : Nat} {n : Int32} {τ : x_T} {A : Nat → Int} {L : x_L2} {K : x_T → Int32 → Prop} (hc : x_hc τ A L) (h : ∀ (σ : x_T) (u : Int32), x_fr j_sC τ σ → x_hf 1 13 17 σ (z_Pmin A L n.toInt) → u.toInt = z_Amin A L n.toInt → K σ u) : x_CI (d + 1 + 1 + 1 + 1 + 1) mX11_minute [.ref 0, .int n] τ K := by
  have wH := hf_wH hc.1
  have e5 : (τ.1 13 5).toInt = A 135 := cd_0 hc.1.2.2.2.1 (k := 5) (by omega)
  have w5 : 0 ≤ A 135 ∧ A 135 ≤ 9999 := wH.2.1.2.2.2.2.2.1
  have m : (9999 - τ.1 13 5).toInt = 9999 - A 135 := by rw [z_sub (by rw [e5]; simp only [Int32.reduceToInt]; omega), e5]; rfl
  have no : ¬ (1 ≤ n.toInt ∧ n.toInt ≤ 60 ∧ n.toInt ≤ 9999 - A 135) → K τ (-1) := by
    intro z
    have hf : z_okm A n.toInt = false := decide_eq_false z
    refine h _ _ (fr_r _ _) ?_ ?_
    · rw [z_Pmin, hf]; exact hc.1
    · rw [z_Amin, hf]; rfl
  refine e_X11_minute ⟨fun q => no ?_, fun q1 => ⟨fun q => no ?_, fun q2 => ⟨fun q3 => ?_, fun q => no ?_⟩⟩⟩
  · rw [z_lt] at q; simp only [Int32.reduceToInt] at q; omega
  · rw [z_lt] at q; simp only [Int32.reduceToInt] at q; omega
  · rw [z_lt] at q1 q2
    rw [z_le, m] at q3
    simp only [Int32.reduceToInt] at q1 q2
    obtain ⟨N, hN⟩ : ∃ N : Nat, n.toInt = N := ⟨n.toInt.toNat, by omega⟩
    have hN2 : n.toInt.toNat = N := by omega
    have ht : z_okm A n.toInt = true := decide_eq_true (by omega)
    have loop : ∀ k, k ≤ N → (fun k => ∀ (ρ : x_T) (v : Int32), x_fr j_sC τ ρ → x_hc ρ (z_Pm A L k) L → v.toInt = z_Cm A L k → x_WI (d + 1 + 1 + 1 + 1 + 1) mX11_minute K 32 [(0, .ref 0), (1, .int n), (2, .int v), (3, .int (nI k))] [] ρ) k := by
      refine z_down ?_ ?_
      · intro ρ v f g hv
        refine k_X11_minute_32 ⟨fun _ => h _ _ f ?_ ?_, fun q => absurd (by rw [z_le, z_n (by omega)]; omega) q⟩
        · rw [z_Pmin, ht, hN2]; exact g.1
        · rw [z_Amin, ht, hN2]; exact hv
      · intro k hk ih ρ v f g hv
        have wk := wH_Pm wH L k (by omega)
        refine k_X11_minute_32 ⟨fun q => ?_, fun _ => cl_keep g.1 (fun σ1 f1 g1 => ?_)⟩
        · rw [z_le, z_n (by omega)] at q; omega
        have hc1 : x_hc σ1 (z_keep (z_Pm A L k)) L := hc_fr g (fr_m s17_sC f1) g1
        refine cl_passMinute (e := z_dy (z_keep (z_Pm A L k))) (Or.inl rfl) (hc_cc hc1) g1.1 g1.2.2.2.1 g1.2.2.1 (fun σ2 u f2 g2 hu y5 e5' y6 e6 => ?_)
        rw [e6, ← nI_succ]
        have f12 : x_fr j_sC ρ σ2 := fr_t (fr_m s17_sC f1) (fr_m sD_sC f2)
        have w2 := wH_keep wk
        have hw : w_D (z_keep (z_Pm A L k)) (z_pd (z_keep (z_Pm A L k)) (x_La L (z_keep (z_Pm A L k))) (z_dy (z_keep (z_Pm A L k)))) := wD_pd w2.1 w2.2.1 _ (by unfold z_dy; rw [keep_lt (by omega) (by omega), Pm_135]; omega)
        refine ih _ _ (fr_t f f12) (hc_fr g f12 (hf_put g1 f2 g2 hw)) ?_
        have b1 := Cm_b wH L k (by omega)
        have b2 := mc_b wk L
        have hu2 : u.toInt = z_mc (z_Pm A L k) L := hu
        rw [e5', z_add (by omega), hv, hu2]
        rfl
    exact loop 0 (by omega) τ 0 (fr_r _ _) hc rfl
  · rw [z_le, m] at q; omega
theorem ms_min {d : Nat} {n : Int32} {τ : x_T} {A : Nat → Int} {L : x_L2} {K : x_T → Int32 → Prop} (hm : x_hm τ A L) (wH : w_H A) (h : ∀ (σ : x_T) (u : Int32), x_fr j_sM τ σ → j_A σ = z_Pmin A L n.toInt → u.toInt = z_Amin A L n.toInt → K σ u) : x_CI (d + 1 + 1 + 1 + 1 + 1 + 1) mX12_minute [.ref 345, .int n] τ K := by
  have e5 : (τ.1 346 135).toInt = A 135 := jA_at hm.1 135
  have w5 : 0 ≤ A 135 ∧ A 135 ≤ 9999 := wH.2.1.2.2.2.2.2.1
  have no : ¬ (1 ≤ n.toInt ∧ n.toInt ≤ 60 ∧ n.toInt ≤ 9999 - A 135) → K τ (-1) := by
    intro z
    have hf : z_okm A n.toInt = false := decide_eq_false z
    refine h _ _ (fr_r _ _) ?_ ?_
    · rw [z_Pmin, hf]; exact hm.1
    · rw [z_Amin, hf]; rfl
  refine e_X12_minute (ml_in (fun q1 q2 => ⟨fun q => absurd q z_10, fun _ => ?_⟩) (fun q => ⟨fun _ => no ?_, fun r => absurd rfl r⟩))
  · simp only [Int32.reduceToInt] at q1 q2
    have m : (τ.1 346 135 + n).toInt = A 135 + n.toInt := by rw [z_add (by omega), e5]
    refine ⟨fun q3 => ?_, fun q => no ?_⟩
    · rw [z_le, m] at q3
      simp only [Int32.reduceToInt] at q3
      obtain ⟨N, hN⟩ : ∃ N : Nat, n.toInt = N := ⟨n.toInt.toNat, by omega⟩
      have hN2 : n.toInt.toNat = N := by omega
      have ht : z_okm A n.toInt = true := decide_eq_true (by omega)
      have loop : ∀ k, k ≤ N → (fun k => ∀ (ρ : x_T) (v : Int32), x_fr j_sM τ ρ → x_hm ρ (z_Pm A L k) L → v.toInt = z_Cm A L k → x_WI (d + 1 + 1 + 1 + 1 + 1 + 1) mX12_minute K 32 [(0, .ref 345), (1, .int n), (2, .int v), (3, .int (nI k))] [] ρ) k := by
        refine z_down ?_ ?_
        · intro ρ v f g hv
          refine k_X12_minute_32 ⟨fun _ => h _ _ f ?_ ?_, fun q => absurd (by rw [z_le, z_n (by omega)]; omega) q⟩
          · rw [z_Pmin, ht, hN2]; exact g.1
          · rw [z_Amin, ht, hN2]; exact hv
        · intro k hk ih ρ v f g hv
          have wk := wH_Pm wH L k (by omega)
          have w2 := wH_keep wk
          refine k_X12_minute_32 ⟨fun q => ?_, fun _ => ml_keepsStep g.1 wk.2.2 (fun σ1 f1 j1 => ml_laysNow (hm_fr g (fr_m s46_sM f1) j1 (keep_lt (by omega) (by omega))) w2.1 (fun σ2 f2 g2 mc2 hm2 => ml_minutePasses (e := z_dy (z_keep (z_Pm A L k))) mc2 w2.1 g2 w2.2.1 (fun σ3 u f3 g3 hu y7 e7 => ml_keepsNow (A := z_keep (z_Pm A L k)) (by rw [jA_fr f3 (by unfold x_sW; omega), hm2.1]) g3 (fun σ4 f4 j4 y10 e10 => ?_))))⟩
          · rw [z_le, z_n (by omega)] at q; omega
          rw [e10, ← nI_succ]
          have f14 : x_fr j_sM ρ σ4 := fr_t (fr_m s46_sM f1) (fr_t (fr_m s69_sM f2) (fr_t (fr_m sW_sM f3) (fr_m s46_sM f4)))
          refine ih _ _ (fr_t f f14) (hm_fr g f14 j4 (by rw [z_Pm, z_m1, P_keep (by omega) (by omega)])) ?_
          have b1 := Cm_b wH L k (by omega)
          have b2 := mc_b wk L
          have hu2 : u.toInt = z_mc (z_Pm A L k) L := hu
          rw [e7, z_add (by omega), hv, hu2]
          rfl
      exact loop 0 (by omega) τ 0 (fr_r _ _) hm rfl
    · rw [z_le, m] at q; simp only [Int32.reduceToInt] at q; omega
  · simp only [Int32.reduceToInt] at q; omega
/-! years -/
def z_it (f : (Nat → Int) → Nat → Int) (e : Nat → Int) : Nat → Nat → Int
  | 0 => e
  | k + 1 => f (z_it f e k)
def z_ye (A : Nat → Int) (L : x_L2) (s : Int) (k : Nat) : Nat → Int := z_it (z_hap (z_keep A) (x_La L (z_keep A))) (z_set (z_dy (z_keep A)) 6 (s * 2 + 89)) k
def z_oky (A : Nat → Int) (s n : Int) : Bool := decide (0 ≤ s ∧ s ≤ 9999 ∧ 1 ≤ n ∧ n ≤ 30 ∧ 0 < A 0)
def z_Pyr (A : Nat → Int) (L : x_L2) (s n : Int) : Nat → Int := if z_oky A s n = true then z_put (z_keep A) (z_ye A L s n.toNat) else A
def z_Ayr (A : Nat → Int) (L : x_L2) (s n : Int) : Int := if z_oky A s n = true then z_ye A L s n.toNat 5 else -1
theorem wD_ye {A : Nat → Int} (w : w_H A) (L : x_L2) {s : Int} (hs : 0 ≤ s ∧ s ≤ 9999) : ∀ k, w_D (z_keep A) (z_ye A L s k) := by
  have w2 := wH_keep w
  intro k
  induction k with
  | zero => exact wD_6 w2.2.1 (by omega)
  | succ k ih => exact wD_hap w2.1 ih _
theorem yr_3 {A : Nat → Int} {L : x_L2} {s n : Int} {k : Nat} (hk : k < 130) (h4 : k ≠ 4) : z_Pyr A L s n k = A k := by
  unfold z_Pyr
  split
  · exact P_keep hk h4
  · rfl
theorem cs_years {d : Nat} {s n : Int32} {τ : x_T} {A : Nat → Int} {L : x_L2} {K : x_T → Int32 → Prop} (hc : x_hc τ A L) (h : ∀ (σ : x_T) (u : Int32), x_fr j_sC τ σ → x_hf 1 13 17 σ (z_Pyr A L s.toInt n.toInt) → u.toInt = z_Ayr A L s.toInt n.toInt → K σ u) : x_CI (d + 1 + 1 + 1 + 1 + 1 + 1) mX11_years [.ref 0, .int s, .int n] τ K := by
  have wH := hf_wH hc.1
  have w2 := wH_keep wH
  have c0 := hc.1.2.1.1
  have w0 := wH.1.1
  have no : ¬ (0 ≤ s.toInt ∧ s.toInt ≤ 9999 ∧ 1 ≤ n.toInt ∧ n.toInt ≤ 30 ∧ 0 < A 0) → K τ (-1) := by
    intro z
    have hf : z_oky A s.toInt n.toInt = false := decide_eq_false z
    refine h _ _ (fr_r _ _) ?_ ?_
    · rw [z_Pyr, hf]; exact hc.1
    · rw [z_Ayr, hf]; rfl
  refine e_X11_years ⟨fun q => no ?_, fun q1 => ⟨fun q => no ?_, fun q2 => ⟨fun q => no ?_, fun q3 => ⟨fun q => no ?_, fun q4 => ⟨fun q5 => cl_keep hc.1 (fun σ1 f1 g1 t3 e3 => ?_), fun q => no ?_⟩⟩⟩⟩⟩
  · rw [z_lt] at q; simp only [Int32.reduceToInt] at q; omega
  · rw [z_lt] at q; simp only [Int32.reduceToInt] at q; omega
  · rw [z_lt] at q; simp only [Int32.reduceToInt] at q; omega
  · rw [z_lt] at q; simp only [Int32.reduceToInt] at q; omega
  · rw [z_lt] at q1 q2 q3 q4
    rw [z_eq, c0] at q5
    simp only [Int32.reduceToInt] at q1 q2 q3 q4 q5
    obtain ⟨N, hN⟩ : ∃ N : Nat, n.toInt = N := ⟨n.toInt.toNat, by omega⟩
    have hN2 : n.toInt.toNat = N := by omega
    have ht : z_oky A s.toInt n.toInt = true := decide_eq_true (by omega)
    have hc1 : x_hc σ1 (z_keep A) L := hc_fr hc (fr_m s17_sC f1) g1
    have hx : (s * 2 + 89).toInt = s.toInt * 2 + 89 := by
      have m1 : (s * 2).toInt = s.toInt * 2 := z_mul (by simp only [Int32.reduceToInt]; omega)
      rw [z_add (by rw [m1]; simp only [Int32.reduceToInt]; omega), m1]; rfl
    have hA0 : 0 < z_keep A 0 := by rw [keep_lt (by omega) (by omega)]; omega
    have loop : ∀ k, k ≤ N → (fun k => ∀ (ρ : x_T), x_fr (x_sD 13) σ1 ρ → x_cd 13 ρ (z_ye A L s.toInt k) → x_WI (d + 1 + 1 + 1 + 1 + 1 + 1) mX11_years K 60 [(0, .ref 0), (2, .int n), (3, .int (nI k))] [] ρ) k := by
      refine z_down ?_ ?_
      · intro ρ f g
        refine k_X11_years_60 ⟨fun _ => h _ _ (fr_t (fr_m s17_sC f1) (fr_m sD_sC f)) ?_ ?_, fun q => absurd (by rw [z_le, z_n (by omega)]; omega) q⟩
        · rw [z_Pyr, ht, hN2]; exact hf_put g1 f g (wD_ye wH L (by omega) N)
        · rw [z_Ayr, ht, hN2]; exact cd_0 g (by omega)
      · intro k hk ih ρ f g
        refine k_X11_years_60 ⟨fun q => ?_, fun _ => cl_doAsDrawn (Or.inl rfl) (cc_fr (hc_cc hc1) f (sD_cc (Or.inl rfl))) w2.1 g (wD_ye wH L (by omega) k) hA0 (fun σ2 f2 g2 y3 e3' => ?_)⟩
        · rw [z_le, z_n (by omega)] at q; omega
        · rw [e3', ← nI_succ]
          exact ih _ (fr_t f f2) g2
    refine loop 0 (by omega) t3 (by rw [e3]; exact fr_w (fr_r _ _) (Or.inl (by omega))) ?_
    rw [e3]
    exact cd_w0 g1.2.2.2.1 (by omega) hx
  · rw [z_eq, c0] at q; simp only [Int32.reduceToInt] at q; omega
theorem ms_years {d : Nat} {s n : Int32} {τ : x_T} {A : Nat → Int} {L : x_L2} {K : x_T → Int32 → Prop} (hm : x_hm τ A L) (wH : w_H A) (h : ∀ (σ : x_T) (u : Int32), x_fr j_sM τ σ → j_A σ = z_Pyr A L s.toInt n.toInt → u.toInt = z_Ayr A L s.toInt n.toInt → K σ u) : x_CI (d + 1 + 1 + 1 + 1 + 1 + 1 + 1) mX12_years [.ref 345, .int s, .int n] τ K := by
  have w2 := wH_keep wH
  have c0 : (τ.1 346 0).toInt = A 0 := jA_at hm.1 0
  have w0 := wH.1.1
  have no : ¬ (0 ≤ s.toInt ∧ s.toInt ≤ 9999 ∧ 1 ≤ n.toInt ∧ n.toInt ≤ 30 ∧ 0 < A 0) → K τ (-1) := by
    intro z
    have hf : z_oky A s.toInt n.toInt = false := decide_eq_false z
    refine h _ _ (fr_r _ _) ?_ ?_
    · rw [z_Pyr, hf]; exact hm.1
    · rw [z_Ayr, hf]; rfl
  refine e_X12_years (ml_in (fun q1 q2 => ⟨fun q => absurd q z_10, fun _ => ml_in (fun q3 q4 => ⟨fun q => absurd q z_10, fun _ => ⟨fun q5 => ml_keepsStep hm.1 wH.2.2 (fun σ1 f1 j1 => ml_laysNow (hm_fr hm (fr_m s46_sM f1) j1 (keep_lt (by omega) (by omega))) w2.1 (fun σ2 f2 g2 mc2 hm2 t9 e9 => ?_)), fun q => no ?_⟩⟩) (fun q => ⟨fun _ => no ?_, fun r => absurd rfl r⟩)⟩) (fun q => ⟨fun _ => no ?_, fun r => absurd rfl r⟩))
  · simp only [Int32.reduceToInt] at q1 q2 q3 q4
    rw [z_eq, c0] at q5
    simp only [Int32.reduceToInt] at q5
    obtain ⟨N, hN⟩ : ∃ N : Nat, n.toInt = N := ⟨n.toInt.toNat, by omega⟩
    have hN2 : n.toInt.toNat = N := by omega
    have ht : z_oky A s.toInt n.toInt = true := decide_eq_true (by omega)
    have hx : (s * 2 + 89).toInt = s.toInt * 2 + 89 := by
      have m1 : (s * 2).toInt = s.toInt * 2 := z_mul (by simp only [Int32.reduceToInt]; omega)
      rw [z_add (by rw [m1]; simp only [Int32.reduceToInt]; omega), m1]; rfl
    have hA0 : 0 < z_keep A 0 := by rw [keep_lt (by omega) (by omega)]; omega
    have loop : ∀ k, k ≤ N → (fun k => ∀ (ρ : x_T), x_fr x_sW σ2 ρ → x_md ρ (z_ye A L s.toInt k) → x_WI (d + 1 + 1 + 1 + 1 + 1 + 1 + 1) mX12_years K 55 [(0, .ref 345), (2, .int n), (3, .int (nI k))] [] ρ) k := by
      refine z_down ?_ ?_
      · intro ρ f g
        refine k_X12_years_55 ⟨fun _ => ml_keepsNow (A := z_keep A) (by rw [jA_fr f (by unfold x_sW; omega), hm2.1]) g (fun σ4 f4 j4 => h _ _ (fr_t (fr_m s46_sM f1) (fr_t (fr_m s69_sM f2) (fr_t (fr_m sW_sM f) (fr_m s46_sM f4)))) ?_ ?_), fun q => absurd (by rw [z_le, z_n (by omega)]; omega) q⟩
        · rw [z_Pyr, ht, hN2]; exact j4
        · rw [z_Ayr, ht, hN2, f4.1 370 (by omega)]; exact g 5 (by omega)
      · intro k hk ih ρ f g
        refine k_X12_years_55 ⟨fun q => ?_, fun _ => ml_happens (mc_fr mc2 f sW_mc) w2.1 g (wD_ye wH L (by omega) k) hA0 (fun σ3 f3 g3 y3 e3' => ?_)⟩
        · rw [z_le, z_n (by omega)] at q; omega
        · rw [e3', ← nI_succ]
          exact ih _ (fr_t f f3) g3
    refine loop 0 (by omega) t9 (by rw [e9]; exact fr_w (fr_r _ _) (Or.inl rfl)) ?_
    rw [e9]
    exact md_w g2 hx
  · rw [z_eq, c0] at q; simp only [Int32.reduceToInt] at q; omega
  · simp only [Int32.reduceToInt] at q; omega
  · simp only [Int32.reduceToInt] at q; omega
