/-! the model's land and laws, asked -/
def x_LM (τ : x_T) (A : Nat → Int) (L : x_L) : Prop := ∀ w, w < 4 →
  (L w = none → ∀ σ : x_T, (∀ k, k < 130 → k ≠ 4 → σ.1 346 k = τ.1 346 k) → (∀ c, 349 ≤ c ∧ c ≤ 356 → σ.1 c = τ.1 c) → (∀ k, k < 64 → (σ.1 369 k).toInt = z_W A (k / 8) (k % 8)) → ∀ (d : Nat) (K : x_T → Int32 → Prop), K σ (-1) → x_CI d mX12_ordersOf [.ref 345, .int (nI w)] σ K)
  ∧ (∀ f, L w = some f → ∃ p : Int32, ¬ p = -1 ∧ ∀ σ : x_T, (∀ k, k < 130 → k ≠ 4 → σ.1 346 k = τ.1 346 k) → (∀ c, 349 ≤ c ∧ c ≤ 356 → σ.1 c = τ.1 c) → (∀ k, k < 64 → (σ.1 369 k).toInt = z_W A (k / 8) (k % 8)) → ∀ (d : Nat),
    (∀ (K : x_T → Int32 → Prop), K σ p → x_CI d mX12_ordersOf [.ref 345, .int (nI w)] σ K)
    ∧ ∀ (K : x_T → Int64 → Prop) (env : Nat → Int), (∀ j, x_al w j → -1000000 ≤ env j ∧ env j ≤ 1000000) → (∀ j, x_al w j → (σ.1 371 j).toInt = env j) → (∀ (ρ : x_T) (v : Int64), ρ.1 = σ.1 → ρ.2.2 = σ.2.2 → v.toInt = f env → K ρ v) → x_CL (d + 1 + 1) mX12_saysOf [.ref 345, .int p] σ K)
def x_mc (τ : x_T) (A : Nat → Int) (L : x_L) : Prop := (∀ k, k < 130 → k ≠ 4 → (τ.1 346 k).toInt = A k) ∧ (∀ k, k < 64 → (τ.1 369 k).toInt = z_W A (k / 8) (k % 8)) ∧ x_LM τ A L
theorem mc_fr {S : Nat → Prop} {τ σ : x_T} {A : Nat → Int} {L : x_L} (h : x_mc τ A L) (g : x_fr S τ σ) (hS : ∀ c, S c → 370 ≤ c) : x_mc σ A L := by
  have g46 : σ.1 346 = τ.1 346 := g.1 _ (fun q => by have := hS _ q; omega)
  have g69 : σ.1 369 = τ.1 369 := g.1 _ (fun q => by have := hS _ q; omega)
  refine ⟨fun k hk h4 => by rw [g46]; exact h.1 k hk h4, fun k hk => by rw [g69]; exact h.2.1 k hk, fun w hw => ⟨fun hn ρ r1 r2 r3 => (h.2.2 w hw).1 hn ρ (fun k hk h4 => by rw [r1 k hk h4, g46]) (fun c hc => (r2 c hc).trans (g.1 c (fun q => by have := hS _ q; omega))) r3, fun f hf => ?_⟩⟩
  obtain ⟨p, hp, hh⟩ := (h.2.2 w hw).2 f hf
  exact ⟨p, hp, fun ρ r1 r2 r3 => hh ρ (fun k hk h4 => by rw [r1 k hk h4, g46]) (fun c hc => (r2 c hc).trans (g.1 c (fun q => by have := hS _ q; omega))) r3⟩
def x_sN (c : Nat) : Prop := c = 371
theorem sN_mc (c : Nat) (h : x_sN c) : 370 ≤ c := by unfold x_sN at h; omega
theorem ml_names {d : Nat} {a : Int32} {τ : x_T} {A e : Nat → Int} {K : x_T → Prop} (wA : w_A A) (hm : ∀ k, k < 130 → k ≠ 4 → (τ.1 346 k).toInt = A k) (ha : 0 ≤ a.toInt ∧ a.toInt < A 0) (he : (τ.1 370 5).toInt = e 5) (h : ∀ σ : x_T, x_fr x_sN τ σ → (σ.1 371 0).toInt = e 5 → σ.1 371 1 = a → (σ.1 371 2).toInt = z_hl A a.toInt → K σ) : x_CV d mX12_names [.ref 345, .int a] τ K := by
  have w0 := wA.1
  have hk := ix_c 10 (by omega) 3670 (v := a) (by omega) (by omega)
  refine e_X12_names (fun t1 e1 t2 e2 => ⟨hk.2, fun t3 e3 => ?_⟩)
  subst e1; subst e2; subst e3
  refine h _ (fr_w (fr_w (fr_w (fr_r _ _) rfl) rfl) rfl) ?_ ?_ ?_
  · simp only [w1_at, Nat.reduceEqDiff, and_false, if_false, and_self, if_true]; exact he
  · simp only [w1_at, Nat.reduceEqDiff, and_false, if_false, and_self, if_true]
  · rw [w1_at, if_pos ⟨rfl, rfl⟩, w1_c (by decide), w1_c (by decide)]
    have : ((10 : Int32) + a).toNatClampNeg = 10 + a.toInt.toNat := hk.1
    rw [this, hm _ (by omega) (by omega), z_hl, if_pos ha]
theorem ml_hourAt {d : Nat} {a b : Int32} {τ : x_T} {A : Nat → Int} {K : x_T → Int32 → Prop} (wA : w_A A) (hf : ∀ k, k < 64 → (τ.1 369 k).toInt = z_W A (k / 8) (k % 8)) (ha : 0 ≤ a.toInt ∧ a.toInt < A 0) (hb : 0 ≤ b.toInt ∧ b.toInt < A 0) (h : ∀ u : Int32, u.toInt = z_hour A b.toInt a.toInt → K τ u) : x_CI (d + 1 + 1) mX12_hourAt [.ref 345, .int a, .int b] τ K := by
  have w0 := wA.1
  have ea : a = nI a.toInt.toNat := z_of (by omega) (by omega)
  have eb : b = nI b.toInt.toNat := z_of (by omega) (by omega)
  have hw := hf (8 * a.toInt.toNat + b.toInt.toNat) (by omega)
  have hfar : z_W A ((8 * a.toInt.toNat + b.toInt.toNat) / 8) ((8 * a.toInt.toNat + b.toInt.toNat) % 8) = z_far A b.toInt a.toInt := by
    rw [z_far_sy wA, z_far, if_pos (by omega)]
    congr 1 <;> omega
  rw [hfar] at hw
  have hbd := z_far_b wA b.toInt a.toInt
  rw [ea, eb]
  refine m_hourAt (by omega) (by omega) (by rw [x_z, hw]; exact hbd) (fun v hv => h v ?_)
  rw [hv, x_z, hw, z_hr, z_hour]
  by_cases q : a.toInt ≤ b.toInt
  · rw [if_neg (by omega), if_pos q]
  · rw [if_pos (by omega), if_neg q]
theorem w1_46 (τ : x_T) (k : Nat) (v : Int32) : (x_w1 τ 371 k v).1 346 = τ.1 346 := w1_c (by decide)
theorem w1_70 (τ : x_T) (k : Nat) (v : Int32) : (x_w1 τ 371 k v).1 370 = τ.1 370 := w1_c (by decide)
theorem ml_hardOf {d : Nat} {a b p : Int32} {τ : x_T} {A e : Nat → Int} {L : x_L} {K : x_T → Int32 → Prop} (mc : x_mc τ A L) (wA : w_A A) (he : x_md τ e) (ha : 0 ≤ a.toInt ∧ a.toInt < A 0) (hb : 0 ≤ b.toInt ∧ b.toInt < A 0) (hp : 0 ≤ p.toInt ∧ p.toInt < A 1) (w5 : 0 ≤ e 5 ∧ e 5 ≤ 9999) (h : ∀ (σ : x_T) (u : Int32), x_fr x_sN τ σ → u.toInt = z_hard A L e a.toInt b.toInt p.toInt → K σ u) : x_CI (d + 1 + 1 + 1) mX12_hardOf [.ref 345, .int a, .int b, .int p] τ K := by
  have w0 := wA.1
  have b1 := z_ln_b wA a.toInt b.toInt
  have b2 := z_hl_b wA a.toInt
  have b3 := z_hl_b wA b.toInt
  have b4 := z_sg_b wA p.toInt
  have k30 := ix_30 (v := a) (w := b) (by omega) (by omega)
  have k18 := ix_c 18 (by omega) 3670 (v := p) (by omega) (by omega)
  have k10 := ix_c 10 (by omega) 3670 (v := b) (by omega) (by omega)
  have c18 : ((18 : Int32) + p).toNatClampNeg = 18 + p.toInt.toNat := k18.1
  have c10 : ((10 : Int32) + b).toNatClampNeg = 10 + b.toInt.toNat := k10.1
  have mid : ∀ (σ : x_T) (P : x_T → Prop), x_fr x_sN τ σ → (∀ ρ : x_T, x_fr x_sN τ ρ → (∀ j, x_al 0 j → (ρ.1 371 j).toInt = z_e4 (e 5) a.toInt (z_hl A a.toInt) b.toInt (z_ln A a.toInt b.toInt) (z_sg A p.toInt) 6 j) → P ρ) → x_CV (d + 1 + 1) mX12_names [.ref 345, .int a] σ (fun t3 => ∀ t5, t5 = x_w1 t3 371 6 b → (vp_in ((30 + (8 * a)) + b) 3670 ∧ (∀ t6, t6 = x_w1 t5 371 7 (t5.1 346 ((30 + (8 * a)) + b).toNatClampNeg) → (vp_in (18 + p) 3670 ∧ (∀ t7, t7 = x_w1 t6 371 8 (t6.1 346 (18 + p).toNatClampNeg) → P t7))))) := by
    intro σ P fs hP
    have mc2 := mc_fr mc fs sN_mc
    refine ml_names (e := e) wA mc2.1 ha (by rw [fs.1 370 (by unfold x_sN; omega)]; exact he 5 (by omega)) (fun ρ fr s0 s1 s2 t5 e5 => ⟨k30.2, fun t6 e6 => ⟨k18.2, fun t7 e7 => ?_⟩⟩)
    have mc3 := mc_fr mc2 fr sN_mc
    subst e5; subst e6; subst e7
    refine hP _ (fr_w (fr_w (fr_w (fr_t fs fr) rfl) rfl) rfl) (fun j hj => ?_)
    simp only [w1_46, k30.1, c18]
    have m1 : (ρ.1 346 (30 + (8 * a.toInt.toNat + b.toInt.toNat))).toInt = z_ln A a.toInt b.toInt := by rw [mc3.1 _ (by omega) (by omega), z_ln, if_pos (by omega)]
    have m2 : (ρ.1 346 (18 + p.toInt.toNat)).toInt = z_sg A p.toInt := by rw [mc3.1 _ (by omega) (by omega), z_sg, if_pos (by omega)]
    have : j = 0 ∨ j = 1 ∨ j = 2 ∨ j = 6 ∨ j = 7 ∨ j = 8 := by unfold x_al at hj; omega
    rcases this with rfl | rfl | rfl | rfl | rfl | rfl <;> simp only [w1_at, z_e4, Nat.reduceEqDiff, Nat.reduceAdd, and_false, if_false, and_self, if_true, s0, s1, s2, m1, m2, and_true, true_and]
  refine e_X12_hardOf ?_
  cases hL : L 0 with
  | none =>
    refine (mc.2.2 0 (by omega)).1 hL τ (fun _ _ _ => rfl) (fun _ _ => rfl) mc.2.1 _ _ (mid τ _ (fr_r _ _) (fun ρ fr hr => ⟨fun q => absurd rfl q, fun _ => ⟨k10.2, k_X12_hardOf_99 (m_held (by decide) (fun u hu => h _ _ fr ?_))⟩⟩))
    have mc3 := mc_fr mc fr sN_mc
    have r7 := hr 7 (by unfold x_al; omega)
    have r2 := hr 2 (by unfold x_al; omega)
    simp only [z_e4, Nat.reduceEqDiff, Nat.reduceAdd, if_false, if_true] at r7 r2
    have m2 : (ρ.1 346 (10 + b.toInt.toNat)).toInt = z_hl A b.toInt := by rw [mc3.1 _ (by omega) (by omega), z_hl, if_pos (by omega)]
    rw [hu, l_i, c10]
    have n1 : (3 * ρ.1 371 7).toInt = 3 * z_ln A a.toInt b.toInt := by rw [z_mul (by rw [r7]; simp only [Int32.reduceToInt]; omega), r7]; rfl
    have n2 : (3 * ρ.1 371 7 + ρ.1 346 (10 + b.toInt.toNat)).toInt = 3 * z_ln A a.toInt b.toInt + z_hl A b.toInt := by rw [z_add (by omega), n1, m2]
    rw [z_sub (by omega), n2, r2, z_hard, hL]
    simp only [z_hd, Int32.reduceToInt]
    omega
  | some f =>
    obtain ⟨pp, hpp, hh⟩ := (mc.2.2 0 (by omega)).2 f hL
    refine (hh τ (fun _ _ _ => rfl) (fun _ _ => rfl) mc.2.1 _).1 _ (mid τ _ (fr_r _ _) (fun ρ fr hr => ⟨fun _ => ?_, fun q => absurd q hpp⟩))
    refine (hh ρ (fun k _ _ => by rw [fr.1 346 (by unfold x_sN; omega)]) (fun c hc => fr.1 c (by unfold x_sN; omega)) (fun k hk => by rw [fr.1 369 (by unfold x_sN; omega)]; exact mc.2.1 k hk) _).2 _ _ (fun j _ => e4_b (by omega) (by omega) (by omega) (by omega) (by omega) (by omega) j) hr (fun ρ2 v q1 q2 hv => k_X12_hardOf_99 (m_held (by decide) (fun u hu => h _ _ ⟨fun c hc => by rw [q1]; exact fr.1 c hc, q2.trans fr.2⟩ ?_)))
    rw [hu, hv, z_hard, hL]; rfl
theorem ml_wearsNow {d : Nat} {τ : x_T} {A e : Nat → Int} {L : x_L} {K : x_T → Int32 → Prop} (mc : x_mc τ A L) (wA : w_A A) (he : x_md τ e) (ha : 0 ≤ e 0 ∧ e 0 < A 0) (hB : 0 ≤ e 2 ∧ e 2 ≤ 9999 ∧ 0 ≤ e 4 ∧ e 4 ≤ 99 ∧ 0 ≤ e 5 ∧ e 5 ≤ 9999) (h : ∀ (σ : x_T) (u : Int32), x_fr x_sN τ σ → u.toInt = z_wear A L e → K σ u) : x_CI (d + 1 + 1 + 1) mX12_wearsNow [.ref 345] τ K := by
  have e0 : (τ.1 370 0).toInt = e 0 := he 0 (by omega)
  have mid : ∀ (P : x_T → Prop), (∀ ρ : x_T, x_fr x_sN τ ρ → (∀ j, x_al 1 j → (ρ.1 371 j).toInt = z_e4 (e 5) (e 0) (z_hl A (e 0)) (e 4) (e 2) 0 9 j) → P ρ) → x_CV (d + 1 + 1) mX12_names [.ref 345, .int (τ.1 370 0)] τ (fun t3 => ∀ t5, t5 = x_w1 t3 371 9 (t3.1 370 4) → ∀ t6, t6 = x_w1 t5 371 10 (t5.1 370 2) → P t6) := by
    intro P hP
    refine ml_names (e := e) wA mc.1 (by omega) (he 5 (by omega)) (fun ρ fr s0 s1 s2 t5 e5 t6 e6 => ?_)
    subst e5; subst e6
    refine hP _ (fr_w (fr_w fr rfl) rfl) (fun j hj => ?_)
    simp only [w1_70, fr.1 370 (show ¬ x_sN 370 by unfold x_sN; omega)]
    rw [e0] at s2
    have q4 : (τ.1 370 4).toInt = e 4 := he 4 (by omega)
    have q2 : (τ.1 370 2).toInt = e 2 := he 2 (by omega)
    have : j = 0 ∨ j = 1 ∨ j = 2 ∨ j = 9 ∨ j = 10 := by unfold x_al at hj; omega
    rcases this with rfl | rfl | rfl | rfl | rfl <;> simp only [w1_at, z_e4, Nat.reduceEqDiff, Nat.reduceAdd, and_false, if_false, and_self, if_true, s0, s1, s2, e0, q2, q4, and_true, true_and]
  refine e_X12_wearsNow ?_
  have b4 := z_hl_b wA (e 0)
  have w0 := wA.1
  cases hL : L 1 with
  | none =>
    refine (mc.2.2 1 (by omega)).1 hL τ (fun _ _ _ => rfl) (fun _ _ => rfl) mc.2.1 _ _ (mid _ (fun ρ fr hr => ⟨fun q => absurd rfl q, fun _ => k_X12_wearsNow_56 (m_held (by decide) (fun u hu => h _ _ fr ?_))⟩))
    rw [hu, z_wear, hL]; show z_hd (Int64.toInt 1) (Int32.toInt 0) (Int32.toInt 99) = 1; decide
  | some f =>
    obtain ⟨pp, hpp, hh⟩ := (mc.2.2 1 (by omega)).2 f hL
    refine (hh τ (fun _ _ _ => rfl) (fun _ _ => rfl) mc.2.1 _).1 _ (mid _ (fun ρ fr hr => ⟨fun _ => ?_, fun q => absurd q hpp⟩))
    refine (hh ρ (fun k _ _ => by rw [fr.1 346 (by unfold x_sN; omega)]) (fun c hc => fr.1 c (by unfold x_sN; omega)) (fun k hk => by rw [fr.1 369 (by unfold x_sN; omega)]; exact mc.2.1 k hk) _).2 _ _ (fun j _ => e4_b (by omega) (by omega) (by omega) (by omega) (by omega) (by omega) j) hr (fun ρ2 v q1 q2 hv => k_X12_wearsNow_56 (m_held (by decide) (fun u hu => h _ _ ⟨fun c hc => by rw [q1]; exact fr.1 c hc, q2.trans fr.2⟩ ?_)))
    rw [hu, hv, z_wear, hL]; rfl
theorem ml_earnsOf {d i : Nat} {a : Int32} {τ : x_T} {A e : Nat → Int} {L : x_L} {K : x_T → Int32 → Prop} (mc : x_mc τ A L) (wA : w_A A) (he : x_md τ e) (ha : a.toInt = i) (hi : (i : Int) < A 0) (h0 : 0 ≤ e 0 ∧ e 0 < A 0) (wD : w_D A e) (h : ∀ (σ : x_T) (u : Int32), x_fr x_sN τ σ → u.toInt = z_earn A L e i → K σ u) : x_CI (d + 1 + 1 + 1) mX12_earnsOf [.ref 345, .int a] τ K := by
  have w0 := wA.1
  have b1 := z_hour_b A (e 0) i
  have b4 := z_hl_b wA i
  have b5 := wD.2.2.2.2.2.1
  have b6 := wD.2.2.2.2.2.2.2.1 i (by omega)
  have b7 := wD.2.2.2.2.2.2.2.2.1 i (by omega)
  have k15 := ix_c 15 (by omega) 114 (v := a) (by omega) (by omega)
  have k7 := ix_c 7 (by omega) 114 (v := a) (by omega) (by omega)
  have c15 : ((15 : Int32) + a).toNatClampNeg = 15 + i := (show ((15 : Int32) + a).toNatClampNeg = 15 + a.toInt.toNat from k15.1).trans (by rw [ha]; rfl)
  have c7 : ((7 : Int32) + a).toNatClampNeg = 7 + i := (show ((7 : Int32) + a).toNatClampNeg = 7 + a.toInt.toNat from k7.1).trans (by rw [ha]; rfl)
  have mid : ∀ (P : x_T → Prop), (∀ ρ : x_T, x_fr x_sN τ ρ → (∀ j, x_al 2 j → (ρ.1 371 j).toInt = z_e4 (e 5) i (z_hl A i) (z_hour A (e 0) i) (e (15 + i)) (e (7 + i)) 3 j) → P ρ) → x_CV (d + 1 + 1) mX12_names [.ref 345, .int a] τ (fun t3 => x_CI (d + 1 + 1) mX12_hourAt [.ref 345, .int a, .int (t3.1 370 0)] t3 (fun t5 a6 => ∀ t7, t7 = x_w1 t5 371 3 a6 → (vp_in (15 + a) 114 ∧ (∀ t8, t8 = x_w1 t7 371 4 (t7.1 370 (15 + a).toNatClampNeg) → (vp_in (7 + a) 114 ∧ (∀ t9, t9 = x_w1 t8 371 5 (t8.1 370 (7 + a).toNatClampNeg) → P t9)))))) := by
    intro P hP
    refine ml_names (e := e) wA mc.1 (by omega) (he 5 (by omega)) (fun ρ fr s0 s1 s2 => ?_)
    have mc2 := mc_fr mc fr sN_mc
    have r370 : ρ.1 370 = τ.1 370 := fr.1 370 (by unfold x_sN; omega)
    have e0 : (ρ.1 370 0).toInt = e 0 := by rw [r370]; exact he 0 (by omega)
    refine ml_hourAt wA mc2.2.1 (by omega) (by omega) (fun u hu t7 e7 => ⟨k15.2, fun t8 e8 => ⟨k7.2, fun t9 e9 => ?_⟩⟩)
    subst e7; subst e8; subst e9
    refine hP _ (fr_w (fr_w (fr_w fr rfl) rfl) rfl) (fun j hj => ?_)
    simp only [w1_70, r370, c15, c7]
    rw [e0, ha] at hu
    rw [ha] at s2
    have q4 : (τ.1 370 (15 + i)).toInt = e (15 + i) := he _ (by omega)
    have q2 : (τ.1 370 (7 + i)).toInt = e (7 + i) := he _ (by omega)
    have : j = 0 ∨ j = 1 ∨ j = 2 ∨ j = 3 ∨ j = 4 ∨ j = 5 := by unfold x_al at hj; omega
    rcases this with rfl | rfl | rfl | rfl | rfl | rfl <;> simp only [w1_at, z_e4, Nat.reduceEqDiff, Nat.reduceAdd, and_false, if_false, and_self, if_true, s0, s1, s2, ha, hu, q2, q4, and_true, true_and]
  refine e_X12_earnsOf ?_
  cases hL : L 2 with
  | none =>
    refine (mc.2.2 2 (by omega)).1 hL τ (fun _ _ _ => rfl) (fun _ _ => rfl) mc.2.1 _ _ (mid _ (fun ρ fr hr => ⟨fun q => absurd rfl q, fun _ => ?_⟩))
    have r3 := hr 3 (by unfold x_al; omega)
    simp only [z_e4, Nat.reduceEqDiff, Nat.reduceAdd, if_false, if_true] at r3
    have fin : ∀ v : Int32, v.toInt = z_ab (z_hour A (e 0) i) → x_WI (d + 1 + 1 + 1) mX12_earnsOf K 86 [] [.long ((12 - v).toInt64)] ρ := by
      intro v hv
      refine k_X12_earnsOf_86 (m_held (by decide) (fun u hu => h _ _ fr ?_))
      have b2 : 0 ≤ z_ab (z_hour A (e 0) i) ∧ z_ab (z_hour A (e 0) i) ≤ 12 := by unfold z_ab; omega
      rw [hu, l_i, z_sub (by rw [hv]; simp only [Int32.reduceToInt]; omega), hv, z_earn, hL]
      simp only [z_hd, Int32.reduceToInt]
      omega
    refine e_X12_away ⟨fun q => fin _ ?_, fun q => fin _ ?_⟩
    · rw [z_le, r3] at q
      simp only [Int32.reduceToInt] at q
      rw [z_sub (by rw [r3]; simp only [Int32.reduceToInt]; omega), r3, z_ab, if_pos q]; rfl
    · rw [z_le, r3] at q
      simp only [Int32.reduceToInt] at q
      rw [z_sub (by rw [r3]; simp only [Int32.reduceToInt]; omega), r3, z_ab, if_neg q]; rfl
  | some f =>
    obtain ⟨pp, hpp, hh⟩ := (mc.2.2 2 (by omega)).2 f hL
    refine (hh τ (fun _ _ _ => rfl) (fun _ _ => rfl) mc.2.1 _).1 _ (mid _ (fun ρ fr hr => ⟨fun _ => ?_, fun q => absurd q hpp⟩))
    refine (hh ρ (fun k _ _ => by rw [fr.1 346 (by unfold x_sN; omega)]) (fun c hc => fr.1 c (by unfold x_sN; omega)) (fun k hk => by rw [fr.1 369 (by unfold x_sN; omega)]; exact mc.2.1 k hk) _).2 _ _ (fun j _ => e4_b (by omega) (by omega) (by omega) (by omega) (by omega) (by omega) j) hr (fun ρ2 v q1 q2 hv => k_X12_earnsOf_86 (m_held (by decide) (fun u hu => h _ _ ⟨fun c hc => by rw [q1]; exact fr.1 c hc, q2.trans fr.2⟩ ?_)))
    rw [hu, hv, z_earn, hL]; rfl
theorem ml_warmOf {d : Nat} {a b : Int32} {τ : x_T} {A e : Nat → Int} {L : x_L} {K : x_T → Int32 → Prop} (mc : x_mc τ A L) (wA : w_A A) (he : x_md τ e) (ha : 0 ≤ a.toInt ∧ a.toInt < A 0) (hb : 0 ≤ b.toInt ∧ b.toInt < A 0) (w5 : 0 ≤ e 5 ∧ e 5 ≤ 9999) (h : ∀ (σ : x_T) (u : Int32), x_fr x_sN τ σ → u.toInt = z_warm A L e a.toInt b.toInt → K σ u) : x_CI (d + 1 + 1 + 1) mX12_warmOf [.ref 345, .int a, .int b] τ K := by
  have w0 := wA.1
  have b1 := z_far_b wA a.toInt b.toInt
  have k8 := ix_8' (v := a) (w := b) (by omega) (by omega)
  have mid : ∀ (P : x_T → Prop), (∀ ρ : x_T, x_fr x_sN τ ρ → (∀ j, x_al 3 j → (ρ.1 371 j).toInt = z_e4 (e 5) a.toInt (z_hl A a.toInt) b.toInt 0 0 11 j) → P ρ) → x_CV (d + 1 + 1) mX12_names [.ref 345, .int a] τ (fun t3 => ∀ t5, t5 = x_w1 t3 371 11 b → P t5) := by
    intro P hP
    refine ml_names (e := e) wA mc.1 (by omega) (he 5 (by omega)) (fun ρ fr s0 s1 s2 t5 e5 => ?_)
    subst e5
    refine hP _ (fr_w fr rfl) (fun j hj => ?_)
    have : j = 0 ∨ j = 1 ∨ j = 2 ∨ j = 11 := by unfold x_al at hj; omega
    rcases this with rfl | rfl | rfl | rfl <;> simp only [w1_at, z_e4, Nat.reduceEqDiff, Nat.reduceAdd, and_false, if_false, and_self, if_true, s0, s1, s2, and_true, true_and]
  refine e_X12_warmOf ?_
  have b4 := z_hl_b wA a.toInt
  cases hL : L 3 with
  | none =>
    refine (mc.2.2 3 (by omega)).1 hL τ (fun _ _ _ => rfl) (fun _ _ => rfl) mc.2.1 _ _ (mid _ (fun ρ fr hr => ⟨fun q => absurd rfl q, fun _ => ⟨k8.2, k_X12_warmOf_49 (m_held (by decide) (fun u hu => h _ _ fr ?_))⟩⟩))
    have mc2 := mc_fr mc fr sN_mc
    have hf := mc2.2.1 (8 * a.toInt.toNat + b.toInt.toNat) (by omega)
    have hfar : z_W A ((8 * a.toInt.toNat + b.toInt.toNat) / 8) ((8 * a.toInt.toNat + b.toInt.toNat) % 8) = z_far A a.toInt b.toInt := by
      rw [z_far, if_pos (by omega)]
      congr 1 <;> omega
    rw [hfar] at hf
    rw [hu, l_i, k8.1]
    have n1 : (5 * ρ.1 369 (8 * a.toInt.toNat + b.toInt.toNat)).toInt = 5 * z_far A a.toInt b.toInt := by rw [z_mul (by rw [hf]; simp only [Int32.reduceToInt]; omega), hf]; rfl
    rw [z_sub (by rw [n1]; simp only [Int32.reduceToInt]; omega), n1, z_warm, hL]
    simp only [z_hd, Int32.reduceToInt]
    omega
  | some f =>
    obtain ⟨pp, hpp, hh⟩ := (mc.2.2 3 (by omega)).2 f hL
    refine (hh τ (fun _ _ _ => rfl) (fun _ _ => rfl) mc.2.1 _).1 _ (mid _ (fun ρ fr hr => ⟨fun _ => ?_, fun q => absurd q hpp⟩))
    refine (hh ρ (fun k _ _ => by rw [fr.1 346 (by unfold x_sN; omega)]) (fun c hc => fr.1 c (by unfold x_sN; omega)) (fun k hk => by rw [fr.1 369 (by unfold x_sN; omega)]; exact mc.2.1 k hk) _).2 _ _ (fun j _ => e4_b (by omega) (by omega) (by omega) (by omega) (by omega) (by omega) j) hr (fun ρ2 v q1 q2 hv => k_X12_warmOf_49 (m_held (by decide) (fun u hu => h _ _ ⟨fun c hc => by rw [q1]; exact fr.1 c hc, q2.trans fr.2⟩ ?_)))
    rw [hu, hv, z_warm, hL]; rfl
