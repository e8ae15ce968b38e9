/-! a deed's numbers, read by both -/
theorem i1n : ¬ (1 : Int32) = 0 := by decide
theorem i2n : ¬ (2 : Int32) = 0 := by decide
theorem i1p : 0 < (1 : Int32).toInt := by decide
theorem i2p : 0 < (2 : Int32).toInt := by decide
abbrev q_oc : Type := (Int32 × Nat) ⊕ Nat
def q_nu (b : Nat → Int) (n : Nat) (lo hi : Int) : q_oc → q_oc
  | .inl x => .inl x
  | .inr p => if q_K b n p = 45 then (if lo ≤ q_V b n p ∧ q_V b n p ≤ hi then .inr (p + 1) else .inl (2, p)) else .inl (1, p)
def q_xp (b : Nat → Int) (n : Nat) (kc : Int) : q_oc → q_oc
  | .inl x => .inl x
  | .inr p => if q_K b n p = kc then .inr (p + 1) else .inl (1, p)
theorem nu_r (b : Nat → Int) (n : Nat) (lo hi : Int) (p : Nat) : q_nu b n lo hi (.inr p) = if q_K b n p = 45 then (if lo ≤ q_V b n p ∧ q_V b n p ≤ hi then .inr (p + 1) else .inl (2, p)) else .inl (1, p) := rfl
theorem xp_r (b : Nat → Int) (n : Nat) (kc : Int) (p : Nat) : q_xp b n kc (.inr p) = if q_K b n p = kc then .inr (p + 1) else .inl (1, p) := rfl
def q_nv (b : Nat → Int) (n : Nat) : q_oc → Int
  | .inl _ => 0
  | .inr p => q_V b n p
def q_cM (b : Nat → Int) (n t L : Nat) (σ ρ : x_T) : q_oc → Prop
  | .inl x => q_cB b n t x.1 x.2 σ ρ
  | .inr p => q_st ρ b n t p L ∧ q_kc σ ρ t 1000
def q_in (o : q_oc) : Prop := ∃ p, o = .inr p
def q_pb (b : Nat → Int) (n : Nat) : q_oc → Prop
  | .inl x => True
  | .inr p => p ≤ n
theorem pb_nu {b : Nat → Int} {n : Nat} {lo hi : Int} {o : q_oc} (h : q_pb b n o) : q_pb b n (q_nu b n lo hi o) := by
  cases o with
  | inl x => exact trivial
  | inr p =>
    rw [nu_r]
    by_cases q : q_K b n p = 45
    · have := K_lt (b := b) (n := n) (i := p) (by omega)
      rw [if_pos q]
      by_cases q2 : lo ≤ q_V b n p ∧ q_V b n p ≤ hi
      · rw [if_pos q2]; exact this
      · rw [if_neg q2]; exact trivial
    · rw [if_neg q]; exact trivial
theorem pb_xp {b : Nat → Int} {n : Nat} {kc : Int} {o : q_oc} (hk : ¬ kc = 46) (h : q_pb b n o) : q_pb b n (q_xp b n kc o) := by
  cases o with
  | inl x => exact trivial
  | inr p =>
    rw [xp_r]
    by_cases q : q_K b n p = kc
    · have := K_lt (b := b) (n := n) (i := p) (by omega)
      rw [if_pos q]; exact this
    · rw [if_neg q]; exact trivial
theorem cM_num {b : Nat → Int} {n t L d p0 : Nat} {lo hi : Int32} {σ ρ : x_T} {o : q_oc} {K : x_T → Int32 → Prop} (ht : t < 4) (hn : n ≤ 300) (hs : q_st σ b n t p0 L) (hb : q_pb b n o) (h : q_cM b n t L σ ρ o) (hK : ∀ (π : x_T) (u : Int32), q_cM b n t L σ π (q_nu b n lo.toInt hi.toInt o) → (q_in (q_nu b n lo.toInt hi.toInt o) → u.toInt = q_nv b n o ∧ lo.toInt ≤ u.toInt ∧ u.toInt ≤ hi.toInt) → K π u) : x_CI (d + 1 + 1) mX6_expectNumber [.ref 319, .int lo, .int hi] ρ K := by
  cases o with
  | inl x =>
    have h : q_cB b n t x.1 x.2 σ ρ := h
    exact fa_number (cB_a h hs ht) (fun u => hK ρ u h (fun ⟨p, e⟩ => by exact absurd e (by intro z; cases z)))
  | inr p =>
    have hb : p ≤ n := hb
    obtain ⟨h1, h2⟩ : q_st ρ b n t p L ∧ q_kc σ ρ t 1000 := h
    rw [nu_r] at hK
    refine cr_number h1 ht (by omega) (fun e e1 e2 π u s k eu => ?_) (fun e e1 π u f g1 g2 => ?_) (fun e π u f g1 g2 => ?_)
    · rw [if_pos e, if_pos ⟨e1, e2⟩] at hK
      exact hK π u ⟨s, kc_t h2 k (Nat.le_refl _)⟩ (fun _ => ⟨eu, by omega, by omega⟩)
    · rw [if_pos e, if_neg e1] at hK
      exact hK π u (cB_k h2 ⟨f, g1, i2p, g2⟩) (fun ⟨p, z⟩ => by cases z)
    · rw [if_neg e] at hK
      exact hK π u (cB_k h2 ⟨f, g1, i1p, g2⟩) (fun ⟨p, z⟩ => by cases z)
theorem cM_exp {b : Nat → Int} {n t L d p0 : Nat} {kc : Int32} {σ ρ : x_T} {o : q_oc} {K : x_T → Prop} (ht : t < 4) (hn : n ≤ 300) (hs : q_st σ b n t p0 L) (hb : q_pb b n o) (h : q_cM b n t L σ ρ o) (hK : ∀ π : x_T, q_cM b n t L σ π (q_xp b n kc.toInt o) → K π) : x_CV (d + 1 + 1) mX6_expect [.ref 319, .int kc] ρ K := by
  cases o with
  | inl x =>
    have h : q_cB b n t x.1 x.2 σ ρ := h
    exact fa_expect (cB_a h hs ht) (hK ρ h)
  | inr p =>
    have hb : p ≤ n := hb
    obtain ⟨h1, h2⟩ : q_st ρ b n t p L ∧ q_kc σ ρ t 1000 := h
    rw [xp_r] at hK
    refine cr_expect h1 ht (by omega) (fun e π s k => ?_) (fun e π f g1 g2 => ?_)
    · rw [if_pos e] at hK
      exact hK π ⟨s, kc_t h2 k (Nat.le_refl _)⟩
    · rw [if_neg e] at hK
      exact hK π (cB_k h2 ⟨f, g1, i1p, g2⟩)
/-! the model's -/
def q_mM (b : Nat → Int) (n w m : Nat) (σ ρ : x_T) : q_oc → Prop
  | .inl x => q_kp σ ρ 1000 1000 1000 ∧ ρ.1 345 19 = x.1 ∧ 0 < x.1.toInt ∧ (ρ.1 345 20).toInt = q_tp b n x.2
  | .inr p => q_ms ρ b n w p 0 0 0 4 m ∧ q_kp σ ρ 1000 1000 1000
theorem er_no {d : Nat} {v : Int32} {σ : x_T} {K : x_T → Prop} (h : 0 < (σ.1 345 19).toInt) (hK : K σ) : x_CV d mX12_errs [.ref 345, .int v] σ K := e_X12_errs ⟨fun _ => hK, fun q => by rw [q] at h; exact absurd h (by decide)⟩
theorem mq_in {d : Nat} {v lo hi : Int32} {σ : x_T} {K : x_T → Int32 → Prop} (h1 : lo.toInt ≤ v.toInt ∧ v.toInt ≤ hi.toInt → K σ 1) (h0 : ¬ (lo.toInt ≤ v.toInt ∧ v.toInt ≤ hi.toInt) → K σ 0) : x_CI d mX12_in [.int v, .int lo, .int hi] σ K := by
  refine e_X12_in ⟨fun q => h0 ?_, fun q => ⟨fun q2 => h0 ?_, fun q2 => h1 ?_⟩⟩
  all_goals (simp only [z_lt] at *; omega)
theorem mM_num {b : Nat → Int} {n w m d : Nat} {lo hi : Int32} {σ ρ : x_T} {o : q_oc} {K : x_T → Int32 → Prop} (hlo : 0 ≤ lo.toInt) (hhi : hi.toInt ≤ 60) (h : q_mM b n w m σ ρ o) (hK : ∀ (π : x_T) (u : Int32), q_mM b n w m σ π (q_nu b n lo.toInt hi.toInt o) → (q_in (q_nu b n lo.toInt hi.toInt o) → u.toInt = q_nv b n o) → K π u) : x_CI (d + 1 + 1 + 1) mX12_number [.ref 345, .int lo, .int hi] ρ K := by
  cases o with
  | inl x =>
    obtain ⟨h1, h2, h3, h4⟩ : q_kp σ ρ 1000 1000 1000 ∧ ρ.1 345 19 = x.1 ∧ 0 < x.1.toInt ∧ (ρ.1 345 20).toInt = q_tp b n x.2 := h
    refine e_X12_number ⟨fun _ => k_X12_number_15 (er_no (by rw [h2]; exact h3) (hK ρ lo ⟨h1, h2, h3, h4⟩ (fun ⟨p, e⟩ => by exact absurd e (by intro z; cases z)))), fun q => ?_⟩
    rw [z_lt, h2] at q
    exact absurd h3 q
  | inr p =>
    obtain ⟨h1, h2⟩ : q_ms ρ b n w p 0 0 0 4 m ∧ q_kp σ ρ 1000 1000 1000 := h
    rw [nu_r] at hK
    refine e_X12_number ⟨fun q => ?_, fun _ => ⟨fun q => ?_, fun q => ?_⟩⟩
    · rw [h1.2.2.1] at q; exact absurd q (by decide)
    · have e : q_K b n p = 45 := (tq_N h1.2.1.2.2 (K_b b n p)).mp (z_eq.mp q)
      have r := (h1.2.1.2.2.2.1 e).2
      rw [if_pos e] at hK
      refine mq_in (fun z => ⟨fun _ y3 e3 => mq_next h1 (fun π ms k => ?_), fun z2 => absurd z2 z_10⟩) (fun z => ⟨fun z2 => absurd rfl z2, fun _ => mq_errs h1 (fun π k e1 e2 => ?_)⟩)
      · rw [if_pos (by omega)] at hK
        exact hK π y3 ⟨ms, kq_t h2 k (Nat.le_refl _) (Nat.le_refl _) (Nat.le_refl _)⟩ (fun _ => by rw [e3]; show _ = q_V b n p; omega)
      · rw [if_neg (by omega)] at hK
        exact hK π lo ⟨kq_t h2 k (Nat.le_refl _) (Nat.le_refl _) (Nat.le_refl _), e1, i2p, e2⟩ (fun ⟨p, z⟩ => by cases z)
    · have e : ¬ q_K b n p = 45 := fun z => q (z_eq.mpr ((tq_N h1.2.1.2.2 (K_b b n p)).mpr z))
      rw [if_neg e] at hK
      exact k_X12_number_15 (mq_errs h1 (fun π k e1 e2 => hK π lo ⟨kq_t h2 k (Nat.le_refl _) (Nat.le_refl _) (Nat.le_refl _), e1, i1p, e2⟩ (fun ⟨p, z⟩ => by cases z)))
theorem mM_beh {b : Nat → Int} {n w m d c : Nat} {v lo hi : Int32} {σ ρ : x_T} {o : q_oc} {K : x_T → Int32 → Prop} (hc : c < 32) (hv : v.toInt = q_ft c) (hlo : 0 ≤ lo.toInt) (hhi : hi.toInt ≤ 60) (h : q_mM b n w m σ ρ o) (hK : ∀ (π : x_T) (u : Int32), q_mM b n w m σ π (q_nu b n lo.toInt hi.toInt (q_xp b n c o)) → (q_in (q_nu b n lo.toInt hi.toInt (q_xp b n c o)) → u.toInt = q_nv b n (q_xp b n c o)) → K π u) : x_CI (d + 1 + 1 + 1 + 1) mX12_numberBehind [.ref 345, .int v, .int lo, .int hi] ρ K := by
  cases o with
  | inl x =>
    have hh := h
    obtain ⟨h1, h2, h3, h4⟩ : q_kp σ ρ 1000 1000 1000 ∧ ρ.1 345 19 = x.1 ∧ 0 < x.1.toInt ∧ (ρ.1 345 20).toInt = q_tp b n x.2 := h
    have nz : ¬ ρ.1 345 19 = 0 := fun z => by rw [← h2, z] at h3; exact absurd h3 (by decide)
    exact e_X12_numberBehind ⟨fun _ => k_X12_numberBehind_20 ⟨fun _ => k_X12_numberBehind_31 (mM_num hlo hhi hh hK), fun z => absurd z nz⟩, fun z => absurd z nz⟩
  | inr p =>
    obtain ⟨h1, h2⟩ : q_ms ρ b n w p 0 0 0 4 m ∧ q_kp σ ρ 1000 1000 1000 := h
    rw [xp_r] at hK
    refine e_X12_numberBehind ⟨fun z => absurd h1.2.2.1 z, fun _ => mq_isWord h1 hc hv (fun q => ⟨fun _ => k_X12_numberBehind_20 ⟨fun z => absurd h1.2.2.1 z, fun _ => mq_next h1 (fun π ms k => k_X12_numberBehind_31 ?_)⟩, fun z => absurd z z_10⟩) (fun q => ⟨fun z => absurd rfl z, fun _ => mq_errs h1 (fun π k e1 e2 => k_X12_numberBehind_20 ⟨fun _ => k_X12_numberBehind_31 ?_, fun z => ?_⟩)⟩)⟩
    · rw [if_pos q] at hK
      exact mM_num hlo hhi (o := .inr (p + 1)) ⟨ms, kq_t h2 k (Nat.le_refl _) (Nat.le_refl _) (Nat.le_refl _)⟩ hK
    · rw [if_neg q] at hK
      exact mM_num hlo hhi (o := .inl (1, p)) ⟨kq_t h2 k (Nat.le_refl _) (Nat.le_refl _) (Nat.le_refl _), e1, i1p, e2⟩ hK
    · rw [e1] at z; exact absurd z (by decide)
