/-! least -/
def y_bd (Q : Nat → Int) : Prop := ∀ x, 0 ≤ Q x ∧ Q x ≤ 1000000
theorem bd_rx {c : Nat → Nat → Int} (hc : ∀ i j, 1 ≤ c i j) (Q : Nat → Int) (i j : Nat) (_ : i < 8) (_ : j < 8) (h : y_bd Q) : y_bd (y_rx c Q i j) := by
  intro x
  have h1 := h i
  have h2 := h j
  have h3 := hc i j
  by_cases q : x = i
  · rw [q, rx_i]; omega
  · rw [rx_n q]; exact h x
theorem bd_0 (h : Nat) : y_bd (y_r0 h) := by intro x; unfold y_r0; split <;> omega
theorem rx_no {c : Nat → Nat → Int} {Q : Nat → Int} {i j : Nat} (hb : y_bd Q) (hc : c i j = 1000000) : y_rx c Q i j = Q := by
  funext x
  have h1 := hb i
  have h2 := hb j
  by_cases q : x = i
  · rw [q, rx_i]; omega
  · rw [rx_n q]
theorem ri_tr {c : Nat → Nat → Int} (hc : ∀ i j, 1 ≤ c i j) {R : Nat → Int} (hb : y_bd R) {i N : Nat} (hi : i < 8) (hn : ∀ j, N ≤ j → c i j = 1000000) : ∀ k, N ≤ k → k ≤ 8 → y_ri c R i k = y_ri c R i N := by
  intro k
  induction k with
  | zero => intro h _; have : N = 0 := by omega
            rw [this]
  | succ k ih =>
    intro h hk
    by_cases q : N = k + 1
    · rw [q]
    · rw [y_ri, rx_no (ri_P (bd_rx hc) hi hb k (by omega)) (hn k (by omega))]
      exact ih (by omega) (by omega)
theorem rr_tr {c : Nat → Nat → Int} (hc : ∀ i j, 1 ≤ c i j) {R : Nat → Int} (hb : y_bd R) {N : Nat} (hn : ∀ i j, N ≤ i → c i j = 1000000) : ∀ k, N ≤ k → k ≤ 8 → y_rr c R k = y_rr c R N := by
  intro k
  induction k with
  | zero => intro h _; have : N = 0 := by omega
            rw [this]
  | succ k ih =>
    intro h hk
    by_cases q : N = k + 1
    · rw [q]
    · rw [y_rr, ri_tr hc (rr_P (bd_rx hc) hb k (by omega)) (i := k) (N := 0) (by omega) (fun j _ => hn k j (by omega)) 8 (by omega) (by omega)]
      exact ih (by omega) (by omega)
def y_co (A : Nat → Int) (L : x_L2) (p : Int) (i j : Nat) : Int := if 0 < z_ln A i j then z_hard A (x_La L A) (z_dy A) i j p else 1000000
theorem co_b {A : Nat → Int} (wA : w_A A) (L : x_L2) (p : Int) (i j : Nat) : y_co A L p i j = 1000000 ∨ (1 ≤ y_co A L p i j ∧ y_co A L p i j ≤ 999) := by
  unfold y_co
  split
  · exact Or.inr (z_hard_b wA _ _ _ _ _)
  · exact Or.inl rfl
theorem co_d {A : Nat → Int} (wA : w_A A) (L : x_L2) (p : Int) (i : Nat) : y_co A L p i i = 1000000 := by
  have w0 := wA.1
  unfold y_co
  rw [if_neg]
  unfold z_ln
  by_cases q : 0 ≤ (i : Int) ∧ (i : Int) < A 0 ∧ 0 ≤ (i : Int) ∧ (i : Int) < A 0
  · rw [if_pos q]
    have := (wA.2.2.2.2.2.1 i i (by omega) (by omega)).2.2 rfl
    rw [Int.toNat_natCast, this]; omega
  · rw [if_neg q]; omega
theorem co_o {A : Nat → Int} (L : x_L2) (p : Int) {i j : Nat} (h : A 0 ≤ i ∨ A 0 ≤ j) : y_co A L p i j = 1000000 := by
  unfold y_co
  rw [if_neg]
  unfold z_ln
  rw [if_neg (by omega)]
  omega
def y_Sl (c : Nat) : Prop := x_sL c ∨ (333 ≤ c ∧ c ≤ 338)
theorem Sl_x (k : Nat) (hk : y_Sl k) : x_sc k := by unfold y_Sl x_sL at hk; unfold x_sc; omega
theorem Sl_cc (k : Nat) (hk : y_Sl k) : (13 ≤ k ∧ k ≤ 138) ∨ 176 ≤ k := by unfold y_Sl x_sL at hk; omega
/-- what the class has of costs and numbers -/
def y_cr (τ σ : x_T) (c : Nat → Nat → Int) (R : Nat → Int) : Prop := x_fr y_Sl τ σ ∧ σ.1 333 9 = 0 ∧ (∀ k, k < 64 → (σ.1 336 k).toInt = c (k / 8) (k % 8)) ∧ ∀ x, x < 8 → (σ.1 337 x).toInt = R x
theorem cl_lowerRest {d i : Nat} (hi : i < 8) {τ σ : x_T} {c : Nat → Nat → Int} {R : Nat → Int} {K : x_T → Prop} (hc : ∀ i j, c i j = 1000000 ∨ (1 ≤ c i j ∧ c i j ≤ 999)) (hb : y_bd R) (h : y_cr τ σ c R) (hK : ∀ ρ : x_T, y_cr τ ρ c (y_ri c R i 8) → K ρ) : x_CV (d + 1) mX10_lowerRest [.ref 333, .int (nI i)] σ K := by
  have hc1 : ∀ i j, 1 ≤ c i j := fun i j => by have := hc i j; omega
  have zi : (nI i).toInt = i := z_n (by omega)
  have ci : (nI i).toNatClampNeg = i := nI_clamp (by omega)
  refine e_X10_lowerRest ⟨fun q => ?_, fun _ => ⟨fun _ => ?_, fun q => ?_⟩⟩
  · rw [z_lt, zi] at q; simp only [Int32.reduceToInt] at q; omega
  · have loop : ∀ k, k ≤ 8 → (fun k => ∀ ρ : x_T, y_cr τ ρ c (y_ri c R i k) → x_WV (d + 1) mX10_lowerRest K 13 [(0, .ref 333), (1, .int (nI i)), (2, .int (nI k))] [] ρ) k := by
      refine z_down ?_ ?_
      · intro ρ hρ
        exact k_X10_lowerRest_13 ⟨fun _ => hK ρ hρ, fun q => absurd (by decide) q⟩
      · intro k hk ih ρ hρ
        obtain ⟨f, h9, h6, h7⟩ := hρ
        have bd := ri_P (bd_rx hc1) hi hb k (by omega)
        have b1 := bd i
        have b2 := bd k
        have b3 := hc i k
        have ix : nI i * 8 + nI k = nI (8 * i + k) := by rw [show nI i * (8 : Int32) = nI (i * 8) from n_mul i 8, n_add, Nat.mul_comm]
        have g6 := h6 (8 * i + k) (by omega)
        rw [show (8 * i + k) / 8 = i by omega, show (8 * i + k) % 8 = k by omega] at g6
        have g7 := h7 k hk
        have g8 := h7 i hi
        refine k_X10_lowerRest_13 ⟨fun q => absurd q (nI_ge (a := k) (b := 8) (by omega) (by decide)), fun _ => ⟨vp_in_nI (by omega) (by decide), ?_⟩⟩
        rw [ix, nI_clamp (n := 8 * i + k) (by omega), ci, nI_clamp (n := k) (by omega)]
        refine ⟨vp_in_nI (by omega) (by decide), vp_in_nI (by omega) (by decide), fun y1 e1 => ⟨vp_in_nI (by omega) (by decide), fun t2 e2 y3 e3 => ?_⟩⟩
        have sm : (ρ.1 336 (8 * i + k) + ρ.1 337 k).toInt = c i k + y_ri c R i k k := by rw [z_add (by rw [g6, g7]; omega), g6, g7]
        have hy : y1.toInt = min (y_ri c R i k i) (c i k + y_ri c R i k k) := by
          rw [e1]
          split
          · rename_i q; rw [z_lt, sm, g8] at q; rw [sm]; omega
          · rename_i q; rw [z_lt, sm, g8] at q; rw [g8]; omega
        rw [e3, ← nI_succ]
        refine ih t2 ⟨by rw [e2]; exact fr_w f (Or.inr (by omega)), by rw [e2, w1_c (by omega)]; exact h9, fun k' hk' => by rw [e2, w1_c (by omega)]; exact h6 k' hk', fun x hx => ?_⟩
        rw [e2, w1_at, y_ri]
        by_cases q : x = i
        · rw [if_pos ⟨rfl, q⟩, hy, q, rx_i]
        · rw [if_neg (fun z => q z.2), rx_n q]; exact h7 x hx
    exact loop 0 (by omega) σ h
  · rw [z_lt, zi] at q; simp only [Int32.reduceToInt] at q; omega
theorem cl_seekLeast {d h s n : Nat} {p : Int32} {τ : x_T} {A : Nat → Int} {L : x_L2} {K : x_T → Int32 → Prop} (hh : h < 8) (hs : s < 8) (hJ : x_hf 1 13 17 τ A) (l1 : x_LC2 τ L) (hst : A 130 = s)
    (hn : y_rt (y_co A L p.toInt) (y_r0 h) 8 s < 1000000 → n ≤ 7 ∧ y_pt (y_co A L p.toInt) (y_rt (y_co A L p.toInt) (y_r0 h) 8) s n = h ∧ ∀ k, k < n → ¬ y_pt (y_co A L p.toInt) (y_rt (y_co A L p.toInt) (y_r0 h) 8) s k = h ∧ y_pt (y_co A L p.toInt) (y_rt (y_co A L p.toInt) (y_r0 h) 8) s k < 8 ∧ y_rt (y_co A L p.toInt) (y_r0 h) 8 (y_pt (y_co A L p.toInt) (y_rt (y_co A L p.toInt) (y_r0 h) 8) s k) < 1000000)
    (h0 : ¬ y_rt (y_co A L p.toInt) (y_r0 h) 8 s < 1000000 → ∀ σ, x_fr x_sc τ σ → K σ (-1))
    (h1 : y_rt (y_co A L p.toInt) (y_r0 h) 8 s < 1000000 → ∀ (σ : x_T) (u : Int32), x_fr x_sc τ σ → (σ.1 333 9).toInt = n → (∀ m, m < n → σ.1 338 m = nI (y_pt (y_co A L p.toInt) (y_rt (y_co A L p.toInt) (y_r0 h) 8) s (m + 1))) → u.toInt = y_rt (y_co A L p.toInt) (y_r0 h) 8 s → K σ u) : x_CI (d + 1 + 1 + 1 + 1) mX10_seekLeast [.ref 333, .ref 13, .int (nI h), .int p] τ K := by
  have wA := hJ.1
  have w0 := wA.1
  have wD : w_D A (z_dy A) := hJ.2.2.1
  have he : x_cd 13 τ (z_dy A) := hJ.2.2.2.1
  have hcc := hc_cc (τ := τ) (A := A) (L := L) ⟨hJ, l1⟩
  have e0 : (τ.1 13 0).toInt = A 130 := cd_0 (e := z_dy A) he (k := 0) (by omega)
  have hc := co_b wA L p.toInt
  have hdg := co_d wA L p.toInt
  have ce : ∀ i j : Nat, y_co A L p.toInt i j = if 0 < z_ln A i j then z_hard A (x_La L A) (z_dy A) i j p.toInt else 1000000 := fun _ _ => rfl
  generalize y_co A L p.toInt = c at hn h0 h1 hc hdg ce
  have hc1 : ∀ i j, 1 ≤ c i j := fun i j => by have := hc i j; omega
  have zh : (nI h).toInt = h := z_n (by omega)
  have n1 : (-1 : Int32).toInt = -1 := by decide
  have fixp := rt_fix hc1 hh
  have wit := rt_w hc1 (h := h) 8
  have bdF := rt_P (bd_rx hc1) (bd_0 h) 8
  refine e_X10_seekLeast rfl (fun t1 e1 => e_X10_askCosts rfl ?_)
  have f1 : x_fr y_Sl τ t1 := by rw [e1]; exact fr_w (fr_r _ _) (Or.inr (by omega))
  have t9 : t1.1 333 9 = 0 := by rw [e1, w1_at, if_pos ⟨rfl, rfl⟩]
  -- behind the costs
  have path : ∀ k, k ≤ n → (fun k : Nat => y_rt c (y_r0 h) 8 s < 1000000 → ∀ ρ : x_T, x_fr y_Sl τ ρ → (ρ.1 333 9).toInt = k → (∀ k', k' < 64 → (ρ.1 336 k').toInt = c (k' / 8) (k' % 8)) → (∀ x, x < 8 → (ρ.1 337 x).toInt = y_rt c (y_r0 h) 8 x) → (∀ m, m < k → ρ.1 338 m = nI (y_pt c (y_rt c (y_r0 h) 8) s (m + 1))) → x_WI (d + 1 + 1 + 1 + 1) mX10_seekLeast K 120 [(0, .ref 333), (2, .int (nI h)), (4, .int (nI s)), (5, .int (nI (y_pt c (y_rt c (y_r0 h) 8) s k)))] [] ρ) k := by
    generalize hR : y_rt c (y_r0 h) 8 = R at hn h0 h1 fixp wit bdF
    refine z_down ?_ ?_
    · intro hf ρ f h9 h6 h7 h8
      obtain ⟨a1, a2, a3⟩ := hn hf
      refine k_X10_seekLeast_120 ⟨fun _ => ⟨vp_in_nI (by omega) (by decide), h1 hf ρ _ (fr_m Sl_x f) h9 h8 ?_⟩, fun q => absurd (by rw [a2]) q⟩
      rw [nI_clamp (by omega)]; exact h7 s hs
    · intro k hk ih hf ρ f h9 h6 h7 h8
      obtain ⟨a1, a2, a3⟩ := hn hf
      obtain ⟨b1, b2, b3⟩ := a3 k hk
      have b8 : y_pt c R s (k + 1) = y_nx c R (y_pt c R s k) := rfl
      generalize hP : y_pt c R s k = P at b1 b2 b3 b8
      have zP : (nI P).toInt = P := z_n (by omega)
      have cP : (nI P).toNatClampNeg = P := nI_clamp (by omega)
      have ex : ∃ j, j < 8 ∧ c P j + R j = R P := by
        rcases wit P b2 b1 with z | ⟨j, j1, j2, j3⟩
        · omega
        · have := fixp P b2 j j1
          exact ⟨j, j1, by omega⟩
      obtain ⟨x1, x2, x3⟩ := nx_s ex
      generalize hX : y_nx c R P = X at x1 x2 x3 b8
      refine k_X10_seekLeast_120 ⟨fun q => ?_, fun _ => ⟨fun q => ?_, fun _ => ⟨fun q => ?_, fun _ => e_X10_lowestNext ⟨fun q => ?_, fun _ => ⟨fun _ => ?_, fun q => ?_⟩⟩⟩⟩⟩
      · rw [z_eq, zP, zh] at q; omega
      · rw [z_eq, zP, n1] at q; omega
      · rw [z_le, h9] at q; simp only [Int32.reduceToInt] at q; omega
      · rw [z_lt, zP] at q; simp only [Int32.reduceToInt] at q; omega
      · have lp : ∀ j, j ≤ X → (fun j => x_WI (d + 1 + 1 + 1) mX10_lowestNext (fun t1 a2 => vp_in (t1.1 333 9) 8 ∧ (∀ t3, t3 = x_w1 t1 338 ((t1.1 333 9).toNatClampNeg) a2 → (∀ t4, t4 = x_w1 t3 333 9 ((t3.1 333 9) + 1) → (x_WI (d + 1 + 1 + 1 + 1) mX10_seekLeast K 120 [(0, .ref 333), (2, .int (nI h)), (4, .int (nI s)), (5, .int a2)] [] t4)))) 14 [(0, .ref 333), (1, .int (nI P)), (2, .int (nI j))] [] ρ) j := by
          have row : ∀ j, j < 8 → nI P * 8 + nI j = nI (8 * P + j) ∧ (ρ.1 336 (8 * P + j) + ρ.1 337 j).toInt = c P j + R j := by
            intro j hj
            have g6 := h6 (8 * P + j) (by omega)
            rw [show (8 * P + j) / 8 = P by omega, show (8 * P + j) % 8 = j by omega] at g6
            have g7 := h7 j hj
            have bj := bdF j
            have cj := hc P j
            exact ⟨by rw [show nI P * (8 : Int32) = nI (P * 8) from n_mul P 8, n_add, Nat.mul_comm], by rw [z_add (by rw [g6, g7]; omega), g6, g7]⟩
          refine z_down ?_ ?_
          · obtain ⟨r1, r2⟩ := row X x1
            refine k_X10_lowestNext_14 ⟨fun q => absurd q (nI_ge (a := X) (b := 8) (by omega) (by decide)), fun _ => ?_⟩
            rw [r1, nI_clamp (n := 8 * P + X) (by omega), cP, nI_clamp (n := X) (by omega)]
            refine ⟨vp_in_nI (by omega) (by decide), vp_in_nI (by omega) (by decide), vp_in_nI (by omega) (by decide), fun q => absurd (z_eq.mpr (by rw [r2, h7 P b2, x2])) q, fun _ => ⟨ix_n (by omega), fun t3 e3 t4 e4 => ?_⟩⟩
            have ck : (ρ.1 333 9).toNatClampNeg = k := by rw [z_cl, h9]; omega
            rw [ck] at e3
            rw [← b8]
            have t39 : t3.1 333 9 = ρ.1 333 9 := by rw [e3, w1_at, if_neg (by omega)]
            refine ih hf t4 (by rw [e4, e3]; exact fr_w (fr_w f (Or.inr (by omega))) (Or.inr (by omega))) ?_ (fun k' hk' => by rw [e4, w1_c (by omega), e3, w1_c (by omega)]; exact h6 k' hk') (fun x hx => by rw [e4, w1_c (by omega), e3, w1_c (by omega)]; exact h7 x hx) (fun m hm => ?_)
            · rw [e4, w1_at, if_pos ⟨rfl, rfl⟩, t39, z_add (by rw [h9]; simp only [Int32.reduceToInt]; omega), h9]; simp only [Int32.reduceToInt]; omega
            · rw [e4, w1_c (by omega), e3, w1_at]
              by_cases q : m = k
              · rw [if_pos ⟨rfl, q⟩, q, b8]
              · rw [if_neg (fun z => q z.2)]; exact h8 m (by omega)
          · intro j hj ih2
            obtain ⟨r1, r2⟩ := row j (by omega)
            refine k_X10_lowestNext_14 ⟨fun q => absurd q (nI_ge (a := j) (b := 8) (by omega) (by decide)), fun _ => ?_⟩
            rw [r1, nI_clamp (n := 8 * P + j) (by omega), cP, nI_clamp (n := j) (by omega)]
            refine ⟨vp_in_nI (by omega) (by decide), vp_in_nI (by omega) (by decide), vp_in_nI (by omega) (by decide), fun q y1 e1 => ?_, fun q => ?_⟩
            · rw [e1, ← nI_succ]; exact ih2
            · rw [z_eq, r2, h7 P b2] at q; exact absurd q (x3 j hj)
        exact lp 0 (by omega)
      · rw [z_lt, zP] at q; simp only [Int32.reduceToInt] at q; omega
  have rounds : ∀ t, t ≤ 8 → (fun t => ∀ ρ : x_T, y_cr τ ρ c (y_rt c (y_r0 h) t) → x_WI (d + 1 + 1 + 1 + 1) mX10_seekLeast K 49 [(0, .ref 333), (1, .ref 13), (2, .int (nI h)), (4, .int (nI t))] [] ρ) t := by
    refine z_down ?_ ?_
    · intro ρ hρ
      obtain ⟨f, h9, h6, h7⟩ := hρ
      have r0 : ρ.1 13 0 = nI s := z_of (by omega) (by rw [f.1 13 (by unfold y_Sl x_sL; omega), e0, hst])
      have zs : (nI s).toInt = s := z_n (by omega)
      have b8 := bdF s
      refine k_X10_seekLeast_49 rfl ⟨fun _ y1 ey => ?_, fun q => absurd (by decide) q⟩
      rw [r0] at ey
      subst ey
      rw [nI_clamp (n := s) (by omega)]
      refine ⟨fun q => ?_, fun _ => ⟨fun q => ?_, fun _ => ⟨vp_in_nI (by omega) (by decide), fun q => ?_, fun q => h0 ?_ ρ (fr_m Sl_x f)⟩⟩⟩
      · rw [z_lt, zs] at q; simp only [Int32.reduceToInt] at q; omega
      · rw [z_le, zs] at q; simp only [Int32.reduceToInt] at q; omega
      · rw [z_lt, h7 s hs] at q
        simp only [Int32.reduceToInt] at q
        exact path 0 (by omega) q ρ f (by rw [h9]; rfl) h6 h7 (fun m hm => by omega)
      · rw [z_lt, h7 s hs] at q
        simp only [Int32.reduceToInt] at q
        exact q
    · intro t ht ih ρ hρ
      have zt : (nI t).toInt = t := z_n (by omega)
      have bdt := rt_P (bd_rx hc1) (bd_0 h) t
      refine k_X10_seekLeast_49 rfl ⟨fun q => absurd q (nI_ge (a := t) (b := 8) (by omega) (by decide)), fun _ => ?_⟩
      have lp : ∀ i, i ≤ 8 → (fun i => ∀ ρ : x_T, y_cr τ ρ c (y_rr c (y_rt c (y_r0 h) t) i) → x_WI (d + 1 + 1 + 1 + 1) mX10_seekLeast K 59 [(0, .ref 333), (1, .ref 13), (2, .int (nI h)), (4, .int (nI t)), (5, .int (nI i))] [] ρ) i := by
        refine z_down ?_ ?_
        · intro ρ hρ
          refine k_X10_seekLeast_59 rfl ⟨fun _ y1 e1 => ?_, fun q => absurd (by decide) q⟩
          rw [e1, ← nI_succ]
          exact ih ρ hρ
        · intro i hi ih2 ρ hρ
          refine k_X10_seekLeast_59 rfl ⟨fun q => absurd q (nI_ge (a := i) (b := 8) (by omega) (by decide)), fun _ => cl_lowerRest hi hc (rr_P (bd_rx hc1) bdt i (by omega)) hρ (fun ρ2 hρ2 y4 e4 => ?_)⟩
          rw [e4, ← nI_succ]
          exact ih2 ρ2 hρ2
      exact lp 0 (by omega) ρ hρ
  have fill : ∀ x, x ≤ 8 → (fun x => ∀ ρ : x_T, x_fr y_Sl τ ρ → ρ.1 333 9 = 0 → (∀ k, k < 64 → (ρ.1 336 k).toInt = c (k / 8) (k % 8)) → (∀ y, y < x → (ρ.1 337 y).toInt = y_r0 h y) → x_WI (d + 1 + 1 + 1 + 1) mX10_seekLeast K 14 [(0, .ref 333), (1, .ref 13), (2, .int (nI h)), (4, .int (nI x))] [] ρ) x := by
    refine z_down ?_ ?_
    · intro ρ f h9 h6 h7
      exact k_X10_seekLeast_14 rfl ⟨fun _ => rounds 0 (by omega) ρ ⟨f, h9, h6, h7⟩, fun q => absurd (by decide) q⟩
    · intro x hx ih ρ f h9 h6 h7
      have zx : (nI x).toInt = x := z_n (by omega)
      have go : ∀ v : Int32, v.toInt = y_r0 h x → x_WI (d + 1 + 1 + 1 + 1) mX10_seekLeast K 39 [(0, .ref 333), (1, .ref 13), (2, .int (nI h)), (4, .int (nI x))] [.int v, .int (nI x), .ref 337] ρ := by
        intro v hv
        refine k_X10_seekLeast_39 rfl ⟨vp_in_nI (by omega) (by decide), fun t2 e2 y2 ey => ?_⟩
        rw [ey, ← nI_succ]
        rw [nI_clamp (by omega)] at e2
        refine ih t2 (by rw [e2]; exact fr_w f (Or.inr (by omega))) (by rw [e2, w1_c (by omega)]; exact h9) (fun k hk => by rw [e2, w1_c (by omega)]; exact h6 k hk) (fun y hy => ?_)
        rw [e2, w1_at]
        by_cases q : y = x
        · rw [if_pos ⟨rfl, q⟩, hv, q]
        · rw [if_neg (fun z => q z.2)]; exact h7 y (by omega)
      refine k_X10_seekLeast_14 rfl ⟨fun q => absurd q (nI_ge (a := x) (b := 8) (by omega) (by decide)), fun _ => ⟨fun q => go _ ?_, fun q => go _ ?_⟩⟩
      · rw [z_eq, zx, zh] at q; rw [y_r0, if_neg (by omega)]; rfl
      · rw [z_eq, zx, zh] at q; rw [y_r0, if_pos (by omega)]; rfl
  have cost : ∀ i, i ≤ 8 → (fun i => ∀ ρ : x_T, x_fr y_Sl τ ρ → ρ.1 333 9 = 0 → (∀ k, k < 8 * i → (ρ.1 336 k).toInt = c (k / 8) (k % 8)) → x_WV (d + 1 + 1 + 1) mX10_askCosts (fun t2 => x_WI (d + 1 + 1 + 1 + 1) mX10_seekLeast K 14 [(0, .ref 333), (1, .ref 13), (2, .int (nI h)), (4, .int 0)] [] t2) 2 [(0, .ref 333), (1, .ref 13), (2, .int p), (3, .int (nI i))] [] ρ) i := by
    refine z_down ?_ ?_
    · intro ρ f h9 h6
      exact k_X10_askCosts_2 rfl ⟨fun _ => fill 0 (by omega) ρ f h9 (fun k hk => h6 k (by omega)) (fun y hy => by omega), fun q => absurd (by decide) q⟩
    · intro i hi ih ρ f h9 h6
      have zi : (nI i).toInt = i := z_n (by omega)
      refine k_X10_askCosts_2 rfl ⟨fun q => absurd q (nI_ge (a := i) (b := 8) (by omega) (by decide)), fun _ => ?_⟩
      have inner : ∀ j, j ≤ 8 → (fun j => ∀ ρ : x_T, x_fr y_Sl τ ρ → ρ.1 333 9 = 0 → (∀ k, k < 8 * i + j → (ρ.1 336 k).toInt = c (k / 8) (k % 8)) → x_WV (d + 1 + 1 + 1) mX10_askCosts (fun t2 => x_WI (d + 1 + 1 + 1 + 1) mX10_seekLeast K 14 [(0, .ref 333), (1, .ref 13), (2, .int (nI h)), (4, .int 0)] [] t2) 11 [(0, .ref 333), (1, .ref 13), (2, .int p), (3, .int (nI i)), (4, .int (nI j))] [] ρ) j := by
        refine z_down ?_ ?_
        · intro ρ f h9 h6
          refine k_X10_askCosts_11 rfl ⟨fun _ y1 ey => ?_, fun q => absurd (by decide) q⟩
          rw [ey, ← nI_succ]
          exact ih ρ f h9 (fun k hk => h6 k (by omega))
        · intro j hj ih2 ρ f h9 h6
          have zj : (nI j).toInt = j := z_n (by omega)
          have ccρ := cc_fr hcc f Sl_cc
          have bl := z_ln_b wA i j
          have ix : nI i * 8 + nI j = nI (8 * i + j) := by rw [show nI i * (8 : Int32) = nI (i * 8) from n_mul i 8, n_add, Nat.mul_comm]
          have go : ∀ (ρ : x_T) (v : Int32), x_fr y_Sl τ ρ → ρ.1 333 9 = 0 → (∀ k, k < 8 * i + j → (ρ.1 336 k).toInt = c (k / 8) (k % 8)) → v.toInt = c i j → x_WV (d + 1 + 1 + 1) mX10_askCosts (fun t2 => x_WI (d + 1 + 1 + 1 + 1) mX10_seekLeast K 14 [(0, .ref 333), (1, .ref 13), (2, .int (nI h)), (4, .int 0)] [] t2) 71 [(0, .ref 333), (1, .ref 13), (2, .int p), (3, .int (nI i)), (4, .int (nI j))] [.int v, .int (nI i * 8 + nI j), .ref 336] ρ := by
            intro ρ v f h9 h6 hv
            rw [ix]
            refine k_X10_askCosts_71 rfl ⟨vp_in_nI (by omega) (by decide), fun t2 e2 y2 ey => ?_⟩
            rw [ey, ← nI_succ]
            rw [nI_clamp (by omega)] at e2
            refine ih2 t2 (by rw [e2]; exact fr_w f (Or.inr (by omega))) (by rw [e2, w1_c (by omega)]; exact h9) (fun k hk => ?_)
            rw [e2, w1_at]
            by_cases q : k = 8 * i + j
            · rw [if_pos ⟨rfl, q⟩, hv, q, show (8 * i + j) / 8 = i by omega, show (8 * i + j) % 8 = j by omega]
            · rw [if_neg (fun z => q z.2)]; exact h6 k (by omega)
          refine k_X10_askCosts_11 rfl ⟨fun q => absurd q (nI_ge (a := j) (b := 8) (by omega) (by decide)), fun _ => cl_laneBetween ccρ.1 wA (fun u hu => ⟨fun q => k_X10_askCosts_36 rfl ⟨fun _ => go ρ _ f h9 h6 ?_, fun z => absurd rfl z⟩, fun q => k_X10_askCosts_36 rfl ⟨fun z => absurd z z_10, fun _ => ?_⟩⟩)⟩
          · rw [zi, zj] at hu
            rw [z_le, hu] at q
            simp only [Int32.reduceToInt] at q
            rw [ce, if_neg (by omega)]; rfl
          · rw [zi, zj] at hu
            rw [z_le, hu] at q
            simp only [Int32.reduceToInt] at q
            have heρ : x_cd 13 ρ (z_dy A) := cd_fr he (f.1 _ (by unfold y_Sl x_sL; omega)) (f.1 _ (by unfold y_Sl x_sL; omega)) (f.1 _ (by unfold y_Sl x_sL; omega)) (f.1 _ (by unfold y_Sl x_sL; omega))
            refine cl_hardness rfl (by omega) ccρ wA heρ wD.2.2.2.2.2.1 (by omega) (by omega) (fun ρ2 u2 f2 hu2 => ?_)
            rw [zi, zj] at hu2
            have f3 : x_fr y_Sl τ ρ2 := fr_t f (fr_m (fun k hk => Or.inl hk) f2)
            refine go ρ2 u2 f3 (by rw [f2.1 333 (by unfold x_sL; omega)]; exact h9) (fun k hk => by rw [f2.1 336 (by unfold x_sL; omega)]; exact h6 k hk) ?_
            rw [hu2, ce, if_pos (by omega)]
      exact inner 0 (by omega) ρ f h9 (fun k hk => h6 k (by omega))
  exact cost 0 (by omega) t1 f1 t9 (fun k hk => by omega)
