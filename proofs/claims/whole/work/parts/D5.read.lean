/-! the class reads: what stands, what is kept -/
def q_ot (t : Nat) : Nat := 140 + 9 * t
def q_sR (t c : Nat) : Prop := c = 319 ∨ (140 + 9 * t ≤ c ∧ c ≤ 140 + 9 * t + 8)
def q_st (σ : x_T) (b : Nat → Int) (n t p m : Nat) : Prop := q_C σ b n ∧ σ.2.2.1 = 140 + 9 * t ∧ (σ.1 319 2).toInt = p ∧ (σ.1 319 4).toInt = 0 ∧ (σ.1 (140 + 9 * t) 9).toInt = m
def q_kc (σ ρ : x_T) (t m : Nat) : Prop := x_fr (fun c => c = 319 ∨ c = 140 + 9 * t ∨ c = 140 + 9 * t + 7 ∨ c = 140 + 9 * t + 8) σ ρ ∧ (∀ k, ¬ k = 2 → ¬ k = 4 → ¬ k = 4 → ρ.1 319 k = σ.1 319 k) ∧ (∀ k, ¬ k = 9 → ρ.1 (140 + 9 * t) k = σ.1 (140 + 9 * t) k) ∧ ∀ j, j < m → ρ.1 (140 + 9 * t + 7) j = σ.1 (140 + 9 * t + 7) j ∧ ρ.1 (140 + 9 * t + 8) j = σ.1 (140 + 9 * t + 8) j
theorem kc_r (σ : x_T) (t m : Nat) : q_kc σ σ t m := ⟨fr_r _ _, fun _ _ _ _ => rfl, fun _ _ => rfl, fun _ _ => ⟨rfl, rfl⟩⟩
theorem kc_t {σ ρ π : x_T} {t m m' : Nat} (h : q_kc σ ρ t m) (g : q_kc ρ π t m') (hm : m ≤ m') : q_kc σ π t m :=
  ⟨fr_t h.1 g.1, fun k a b c => (g.2.1 k a b c).trans (h.2.1 k a b c), fun k a => (g.2.2.1 k a).trans (h.2.2.1 k a), fun j hj => ⟨(g.2.2.2 j (by omega)).1.trans (h.2.2.2 j hj).1, (g.2.2.2 j (by omega)).2.trans (h.2.2.2 j hj).2⟩⟩
theorem kc_C {σ ρ : x_T} {t m : Nat} {b : Nat → Int} {n : Nat} (ht : t < 4) (h : q_kc σ ρ t m) (hC : q_C σ b n) : q_C ρ b n := by
  obtain ⟨n3, T, t1, t2, t3, t4, t5, t6⟩ := hC
  refine ⟨n3, T, t1, t2, t3, ?_, ?_, fun i hi => ?_⟩
  · rw [h.1.1 314 (by omega)]; exact t4
  · rw [h.1.1 314 (by omega)]; exact t5
  · rw [h.1.1 316 (by omega), h.1.1 317 (by omega), h.1.1 318 (by omega)]; exact t6 i hi
theorem kc_sR {σ ρ : x_T} {t m : Nat} (h : q_kc σ ρ t m) : x_fr (q_sR t) σ ρ := fr_m (fun c hc => by unfold q_sR; omega) h.1
/-- code that lies there -/
def q_cc (σ : x_T) (t F a : Nat) (c : q_co) : Prop := ∀ (i : Nat) (x : Int × Int), c[i]? = some x → (σ.1 (140 + 9 * t + 7) (a + i)).toInt = x_op x.1 ∧ z_gv F x.1 x.2 (σ.1 (140 + 9 * t + 8) (a + i)).toInt
theorem cc_k {σ ρ : x_T} {t F a m : Nat} {c : q_co} (h : q_cc σ t F a c) (g : q_kc σ ρ t m) (hm : a + c.length ≤ m) : q_cc ρ t F a c := by
  intro i x hx
  have hi := co_lt hx
  obtain ⟨g1, g2⟩ := g.2.2.2 (a + i) (by omega)
  rw [g1, g2]
  exact h i x hx
theorem cc_ap {σ : x_T} {t F a : Nat} {c1 c2 : q_co} (h1 : q_cc σ t F a c1) (h2 : q_cc σ t F (a + c1.length) c2) : q_cc σ t F a (c1 ++ c2) := by
  intro i x hx
  by_cases q : i < c1.length
  · rw [List.getElem?_append_left q] at hx; exact h1 i x hx
  · rw [List.getElem?_append_right (by omega)] at hx
    have := h2 _ x hx
    rw [show a + c1.length + (i - c1.length) = a + i by omega] at this
    exact this
theorem cc_1 {σ : x_T} {t F a : Nat} {o v : Int} (h1 : (σ.1 (140 + 9 * t + 7) a).toInt = x_op o) (h2 : z_gv F o v (σ.1 (140 + 9 * t + 8) a).toInt) : q_cc σ t F a [(o, v)] := by
  intro i x hx
  have hi := co_lt hx
  have e : i = 0 := by simp at hi; omega
  subst e
  simp at hx
  subst hx
  exact ⟨h1, h2⟩
/-! small methods -/
theorem cr_refuse {d t p m n : Nat} {v : Int32} {σ : x_T} {b : Nat → Int} {K : x_T → Prop} (h : q_st σ b n t p m) (ht : t < 4) (hK : ∀ ρ : x_T, x_fr (q_sR t) σ ρ → ρ.1 319 4 = v → (ρ.1 319 5).toInt = q_tp b n p → K ρ) : x_CV (d + 1) mX6_refuse [.ref 319, .int v] σ K := by
  obtain ⟨hC, hr, h2, h4, h9⟩ := h
  refine e_X6_refuse ⟨fun q => absurd (z_eq.mpr (by rw [h4]; rfl)) q, fun _ t1 e1 => ?_⟩
  have k1 : q_C t1 b n := by
    obtain ⟨n3, T, t1', t2, t3, t4, t5, t6⟩ := hC
    refine ⟨n3, T, t1', t2, t3, ?_, ?_, fun i hi => ?_⟩
    · rw [e1, w1_c (by omega)]; exact t4
    · rw [e1, w1_c (by omega)]; exact t5
    · rw [e1, w1_c (by omega), w1_c (by omega), w1_c (by omega)]; exact t6 i hi
  refine cl_placeAt k1 (i := p) (by rw [e1, w1_at, if_neg (by omega)]; exact h2) (fun u hu t4 e4 => hK t4 ?_ ?_ ?_)
  · rw [e4, e1]; exact fr_w (fr_w (fr_r _ _) (Or.inl rfl)) (Or.inl rfl)
  · rw [e4, w1_at, if_neg (by omega), e1, w1_at, if_pos ⟨rfl, rfl⟩]
  · rw [e4, w1_at, if_pos ⟨rfl, rfl⟩]; exact hu
theorem cr_isNext {d t p m n : Nat} {v : Int32} {σ : x_T} {b : Nat → Int} {K : x_T → Int32 → Prop} (h : q_st σ b n t p m) (h1 : q_K b n p = v.toInt → K σ 1) (h0 : ¬ q_K b n p = v.toInt → K σ 0) : x_CI (d + 1) mX6_isNext [.ref 319, .int v] σ K := by
  obtain ⟨hC, hr, h2, h4, h9⟩ := h
  refine e_X6_isNext ⟨fun q => absurd (z_eq.mpr (by rw [h4]; rfl)) q, fun _ => cl_kindAt hC h2 (fun u hu => ⟨fun q => h0 ?_, fun q => h1 ?_⟩)⟩
  · rw [z_eq, hu] at q; exact q
  · rw [z_eq, hu] at q; exact q
theorem st_adv {σ ρ : x_T} {b : Nat → Int} {n t p m : Nat} (ht : t < 4) (h : q_st σ b n t p m) (hp : p ≤ 400) (e : ρ = x_w1 σ 319 2 (σ.1 319 2 + 1)) : q_st ρ b n t (p + 1) m ∧ q_kc σ ρ t 1000 := by
  obtain ⟨hC, hr, h2, h4, h9⟩ := h
  have k : q_kc σ ρ t 1000 := ⟨by rw [e]; exact fr_w (fr_r _ _) (Or.inl rfl), fun k a _ _ => by rw [e, w1_at, if_neg (by omega)], fun k _ => by rw [e, w1_c (by omega)], fun j _ => by rw [e, w1_c (by omega), w1_c (by omega)]; exact ⟨rfl, rfl⟩⟩
  refine ⟨⟨kc_C ht k hC, by rw [e]; exact hr, ?_, ?_, ?_⟩, k⟩
  · rw [e, w1_at, if_pos ⟨rfl, rfl⟩, z_add (by rw [h2]; simp only [Int32.reduceToInt]; omega), h2]; simp only [Int32.reduceToInt]; omega
  · rw [e, w1_at, if_neg (by omega)]; exact h4
  · rw [e, w1_c (by omega)]; exact h9
theorem cr_expect {d t p m n : Nat} {v : Int32} {σ : x_T} {b : Nat → Int} {K : x_T → Prop} (h : q_st σ b n t p m) (ht : t < 4) (hp : p ≤ 400) (h1 : q_K b n p = v.toInt → ∀ ρ : x_T, q_st ρ b n t (p + 1) m → q_kc σ ρ t 1000 → K ρ) (h0 : ¬ q_K b n p = v.toInt → ∀ ρ : x_T, x_fr (q_sR t) σ ρ → ρ.1 319 4 = 1 → (ρ.1 319 5).toInt = q_tp b n p → K ρ) : x_CV (d + 1 + 1) mX6_expect [.ref 319, .int v] σ K := by
  refine e_X6_expect (cr_isNext h (fun q => ⟨fun z => absurd z z_10, fun _ t5 e5 => ?_⟩) (fun q => ⟨fun _ => cr_refuse h ht (h0 q), fun z => absurd rfl z⟩))
  obtain ⟨a1, a2⟩ := st_adv ht h hp e5
  exact h1 q t5 a1 a2
theorem cr_number {d t p m n : Nat} {lo hi : Int32} {σ : x_T} {b : Nat → Int} {K : x_T → Int32 → Prop} (h : q_st σ b n t p m) (ht : t < 4) (hp : p ≤ 400) (h1 : q_K b n p = 45 → lo.toInt ≤ q_V b n p → q_V b n p ≤ hi.toInt → ∀ (ρ : x_T) (u : Int32), q_st ρ b n t (p + 1) m → q_kc σ ρ t 1000 → u.toInt = q_V b n p → K ρ u) (h2 : q_K b n p = 45 → ¬ (lo.toInt ≤ q_V b n p ∧ q_V b n p ≤ hi.toInt) → ∀ (ρ : x_T) (u : Int32), x_fr (q_sR t) σ ρ → ρ.1 319 4 = 2 → (ρ.1 319 5).toInt = q_tp b n p → K ρ u) (h0 : ¬ q_K b n p = 45 → ∀ (ρ : x_T) (u : Int32), x_fr (q_sR t) σ ρ → ρ.1 319 4 = 1 → (ρ.1 319 5).toInt = q_tp b n p → K ρ u) : x_CI (d + 1 + 1) mX6_expectNumber [.ref 319, .int lo, .int hi] σ K := by
  have hC := h.1
  have e2 := h.2.2.1
  refine e_X6_expectNumber (cl_valueAt hC e2 (fun u hu => cr_isNext h (fun q => ⟨fun _ => ⟨fun z => k_X6_expectNumber_39 (cr_refuse h ht (fun ρ f a c => h2 q ?_ ρ u f a c)), fun z => ⟨fun z2 t5 e5 => ?_, fun z2 => k_X6_expectNumber_39 (cr_refuse h ht (fun ρ f a c => h2 q ?_ ρ u f a c))⟩⟩, fun z => absurd z z_10⟩) (fun q => ⟨fun z => absurd rfl z, fun _ => cr_refuse h ht (fun ρ f a c => h0 q ρ u f a c)⟩)))
  · rw [z_lt, hu] at z; omega
  · rw [z_lt, hu] at z
    rw [z_le, hu] at z2
    obtain ⟨a1, a2⟩ := st_adv ht h hp e5
    exact h1 q (by omega) z2 t5 u a1 a2 hu
  · rw [z_le, hu] at z2; omega
theorem cr_ask {d t p m n : Nat} {v1 v2 : Int32} {σ : x_T} {b : Nat → Int} {K : x_T → Int32 → Prop} (h : q_st σ b n t p m) (ht : t < 4) (hm : m < 300) (hK : ∀ (ρ : x_T) (u : Int32), q_st ρ b n t p (m + 1) → q_kc σ ρ t m → ρ.1 (140 + 9 * t + 7) m = v1 → ρ.1 (140 + 9 * t + 8) m = v2 → u.toInt = m → K ρ u) : x_CI d mX9_ask [.ref (140 + 9 * t), .int v1, .int v2] σ K := by
  obtain ⟨hC, hr, h2, h4, h9⟩ := h
  have hs9 : x_sh (140 + 9 * t) = (9, 10) := shd_140 ht
  have cm : (σ.1 (140 + 9 * t) 9).toNatClampNeg = m := by rw [z_cl, h9]; omega
  refine e_X9_ask hs9 ⟨fun q => ?_, fun _ => ⟨fun q => ?_, fun _ => ⟨ix_n (by omega), fun t1 e1 => ?_⟩⟩⟩
  · rw [z_lt, h9] at q; simp only [Int32.reduceToInt] at q; omega
  · rw [z_le, h9] at q; simp only [Int32.reduceToInt] at q; omega
  rw [cm] at e1
  have a1 : t1.1 (140 + 9 * t) = σ.1 (140 + 9 * t) := by rw [e1]; exact w1_c (by omega)
  rw [a1, cm]
  refine ⟨ix_n (by omega), fun t2 e2 t3 e3 => ?_⟩
  have a2 : t2.1 (140 + 9 * t) = σ.1 (140 + 9 * t) := by rw [e2, w1_c (by omega)]; exact a1
  have k : q_kc σ t3 t m := by
    refine ⟨by rw [e3, e2, e1]; exact fr_w (fr_w (fr_w (fr_r _ _) (by omega)) (by omega)) (by omega), fun k _ _ _ => ?_, fun k hk => ?_, fun j hj => ⟨?_, ?_⟩⟩
    · rw [e3, w1_c (by omega), e2, w1_c (by omega), e1, w1_c (by omega)]
    · rw [e3, w1_at, if_neg (by omega), a2]
    · rw [e3, w1_c (by omega), e2, w1_c (by omega), e1, w1_at, if_neg (by omega)]
    · rw [e3, w1_c (by omega), e2, w1_at, if_neg (by omega), e1, w1_c (by omega)]
  have t39 : (t3.1 (140 + 9 * t) 9).toInt = ((m + 1 : Nat) : Int) := by rw [e3, w1_at, if_pos ⟨rfl, rfl⟩, a2, z_add (by rw [h9]; simp only [Int32.reduceToInt]; omega), h9]; simp only [Int32.reduceToInt]; omega
  refine hK t3 _ ⟨kc_C ht k hC, by rw [e3, e2, e1]; exact hr, ?_, ?_, t39⟩ k ?_ ?_ ?_
  · rw [e3, w1_c (by omega), e2, w1_c (by omega), e1, w1_c (by omega)]; exact h2
  · rw [e3, w1_c (by omega), e2, w1_c (by omega), e1, w1_c (by omega)]; exact h4
  · rw [e3, w1_c (by omega), e2, w1_c (by omega), e1, w1_at, if_pos ⟨rfl, rfl⟩]
  · rw [e3, w1_c (by omega), e2, w1_at, if_pos ⟨rfl, rfl⟩]
  · rw [z_sub (by rw [t39]; simp only [Int32.reduceToInt]; omega), t39]; simp only [Int32.reduceToInt]; omega
theorem cr_goOn {d t p m n a : Nat} {v : Int32} {σ : x_T} {b : Nat → Int} {K : x_T → Prop} (h : q_st σ b n t p m) (ht : t < 4) (hv : v.toInt = a) (ha : a < m) (hm : m ≤ 300) (hK : ∀ ρ : x_T, q_st ρ b n t p m → q_kc σ ρ t a → (∀ j, ρ.1 (140 + 9 * t + 7) j = σ.1 (140 + 9 * t + 7) j) → (∀ j, ¬ j = a → ρ.1 (140 + 9 * t + 8) j = σ.1 (140 + 9 * t + 8) j) → (ρ.1 (140 + 9 * t + 8) a).toInt = m → K ρ) : x_CV d mX9_goOnHere [.ref (140 + 9 * t), .int v] σ K := by
  obtain ⟨hC, hr, h2, h4, h9⟩ := h
  have hs9 : x_sh (140 + 9 * t) = (9, 10) := shd_140 ht
  refine e_X9_goOnHere hs9 ⟨fun q => ?_, fun _ => ⟨fun q => ?_, fun _ => ⟨ix_n (by omega), fun t1 e1 => ?_⟩⟩⟩
  · rw [z_lt, hv] at q; simp only [Int32.reduceToInt] at q; omega
  · rw [z_le, hv] at q; simp only [Int32.reduceToInt] at q; omega
  rw [z_cl, hv, Int.toNat_natCast] at e1
  have k : q_kc σ t1 t a := by
    refine ⟨by rw [e1]; exact fr_w (fr_r _ _) (by omega), fun k _ _ _ => ?_, fun k hk => ?_, fun j hj => ⟨?_, ?_⟩⟩
    · rw [e1, w1_c (by omega)]
    · rw [e1, w1_c (by omega)]
    · rw [e1, w1_c (by omega)]
    · rw [e1, w1_at, if_neg (by omega)]
  refine hK t1 ⟨kc_C ht k hC, by rw [e1]; exact hr, ?_, ?_, ?_⟩ k (fun j => by rw [e1, w1_c (by omega)]) (fun j hj => by rw [e1, w1_at, if_neg (fun z => hj z.2)]) (by rw [e1, w1_at, if_pos ⟨rfl, rfl⟩]; exact h9)
  · rw [e1, w1_c (by omega)]; exact h2
  · rw [e1, w1_c (by omega)]; exact h4
  · rw [e1, w1_c (by omega)]; exact h9
/-! behind a fault nothing is looked at -/
def q_ff (t : Nat) (σ ρ : x_T) : Prop := x_fr (q_sR t) σ ρ ∧ ρ.1 319 4 = σ.1 319 4 ∧ ρ.1 319 5 = σ.1 319 5
theorem ff_r (t : Nat) (σ : x_T) : q_ff t σ σ := ⟨fr_r _ _, rfl, rfl⟩
theorem ff_t {t : Nat} {σ ρ π : x_T} (h : q_ff t σ ρ) (g : q_ff t ρ π) : q_ff t σ π := ⟨fr_t h.1 g.1, g.2.1.trans h.2.1, g.2.2.trans h.2.2⟩
def q_fa (t : Nat) (σ : x_T) : Prop := σ.2.2.1 = 140 + 9 * t ∧ ¬ σ.1 319 4 = 0 ∧ t < 4
theorem fa_k {t : Nat} {σ ρ : x_T} (h : q_fa t σ) (g : q_ff t σ ρ) : q_fa t ρ := ⟨by rw [g.1.2]; exact h.1, by rw [g.2.1]; exact h.2.1, h.2.2⟩
theorem fa_ask {d t : Nat} {v1 v2 : Int32} {σ : x_T} {K : x_T → Int32 → Prop} (h : q_fa t σ) (hK : ∀ (ρ : x_T) (u : Int32), q_ff t σ ρ → K ρ u) : x_CI d mX9_ask [.ref (140 + 9 * t), .int v1, .int v2] σ K := by
  have ht := h.2.2
  have hs9 : x_sh (140 + 9 * t) = (9, 10) := shd_140 ht
  refine e_X9_ask hs9 ⟨fun q => hK σ _ (ff_r t σ), fun q1 => ⟨fun q => hK σ _ (ff_r t σ), fun q2 => ?_⟩⟩
  have iv : vp_in (σ.1 (140 + 9 * t) 9) 300 := ix_n (by rw [z_lt] at q1; rw [z_le] at q2; simp only [Int32.reduceToInt] at q1 q2; omega)
  refine ⟨iv, fun t1 e1 => ?_⟩
  have a1 : t1.1 (140 + 9 * t) = σ.1 (140 + 9 * t) := by rw [e1]; exact w1_c (by omega)
  rw [a1]
  refine ⟨iv, fun t2 e2 t3 e3 => hK t3 _ ⟨?_, ?_, ?_⟩⟩
  · rw [e3, e2, e1]; exact fr_w (fr_w (fr_w (fr_r _ _) (by unfold q_sR; omega)) (by unfold q_sR; omega)) (by unfold q_sR; omega)
  · rw [e3, w1_c (by omega), e2, w1_c (by omega), e1, w1_c (by omega)]
  · rw [e3, w1_c (by omega), e2, w1_c (by omega), e1, w1_c (by omega)]
theorem fa_goOn {d t : Nat} {v : Int32} {σ : x_T} {K : x_T → Prop} (h : q_fa t σ) (hK : ∀ ρ : x_T, q_ff t σ ρ → K ρ) : x_CV d mX9_goOnHere [.ref (140 + 9 * t), .int v] σ K := by
  have ht := h.2.2
  have hs9 : x_sh (140 + 9 * t) = (9, 10) := shd_140 ht
  refine e_X9_goOnHere hs9 ⟨fun q => hK σ (ff_r t σ), fun q1 => ⟨fun q => hK σ (ff_r t σ), fun q2 => ⟨ix_n (by rw [z_lt] at q1; rw [z_le] at q2; simp only [Int32.reduceToInt] at q1 q2; omega), fun t1 e1 => hK t1 ⟨?_, ?_, ?_⟩⟩⟩⟩
  · rw [e1]; exact fr_w (fr_r _ _) (by unfold q_sR; omega)
  · rw [e1, w1_c (by omega)]
  · rw [e1, w1_c (by omega)]
theorem fa_isNext {d t : Nat} {v : Int32} {σ : x_T} {K : x_T → Int32 → Prop} (h : q_fa t σ) (hK : K σ 0) : x_CI (d + 1) mX6_isNext [.ref 319, .int v] σ K := e_X6_isNext ⟨fun _ => hK, fun q => absurd q h.2.1⟩
theorem fa_refuse {d t : Nat} {v : Int32} {σ : x_T} {K : x_T → Prop} (h : q_fa t σ) (hK : K σ) : x_CV (d + 1) mX6_refuse [.ref 319, .int v] σ K := e_X6_refuse ⟨fun _ => hK, fun q => absurd q h.2.1⟩
theorem fa_expect {d t : Nat} {v : Int32} {σ : x_T} {K : x_T → Prop} (h : q_fa t σ) (hK : K σ) : x_CV (d + 1 + 1) mX6_expect [.ref 319, .int v] σ K := e_X6_expect (fa_isNext h ⟨fun _ => fa_refuse h hK, fun z => absurd rfl z⟩)
theorem fa_kindAt {d : Nat} {v : Int32} {σ : x_T} {K : x_T → Int32 → Prop} (hK : ∀ u, K σ u) : x_CI d mX8_kindAt [.ref 314, .int v] σ K := e_X8_kindAt ⟨fun _ => hK _, fun q1 => ⟨fun _ => hK _, fun _ => ⟨fun _ => hK _, fun q2 => ⟨ix_n (by rw [z_lt] at q1; rw [z_le] at q2; simp only [Int32.reduceToInt] at q1 q2; omega), hK _⟩⟩⟩⟩
theorem fa_valueAt {d : Nat} {v : Int32} {σ : x_T} {K : x_T → Int32 → Prop} (hK : ∀ u, K σ u) : x_CI d mX8_valueAt [.ref 314, .int v] σ K := e_X8_valueAt ⟨fun _ => hK _, fun q1 => ⟨fun _ => hK _, fun _ => ⟨fun _ => hK _, fun q2 => ⟨ix_n (by rw [z_lt] at q1; rw [z_le] at q2; simp only [Int32.reduceToInt] at q1 q2; omega), hK _⟩⟩⟩⟩
theorem fa_number {d t : Nat} {lo hi : Int32} {σ : x_T} {K : x_T → Int32 → Prop} (h : q_fa t σ) (hK : ∀ u, K σ u) : x_CI (d + 1 + 1) mX6_expectNumber [.ref 319, .int lo, .int hi] σ K := e_X6_expectNumber (fa_valueAt (fun u => fa_isNext h ⟨fun z => absurd rfl z, fun _ => fa_refuse h (hK u)⟩))
theorem fa_one {d t : Nat} {v : Int32} {σ : x_T} {K : x_T → Prop} (h : q_fa t σ) (hK : K σ) : x_CV (d + 1) mX6_readOne [.ref 319, .int v] σ K := e_X6_readOne ⟨fun q => absurd q h.2.1, fun _ => hK⟩
theorem fa_prod7 {d t : Nat} {v v2 : Int32} {σ : x_T} {K : x_T → Prop} (h : q_fa t σ) (hK : K σ) : x_WV (d + 1 + 1) mX6_readProduct K 7 [(0, .ref 319), (1, .int v), (2, .int v2)] [] σ := k_X6_readProduct_7 ⟨fun _ => hK, fun _ => fa_isNext h ⟨fun z => absurd rfl z, fun _ => fa_isNext h ⟨fun _ => hK, fun z => absurd rfl z⟩⟩⟩
theorem fa_prod {d t : Nat} {v : Int32} {σ : x_T} {K : x_T → Prop} (h : q_fa t σ) (hK : K σ) : x_CV (d + 1 + 1) mX6_readProduct [.ref 319, .int v] σ K := e_X6_readProduct (fa_one h (fa_prod7 h hK))
theorem fa_sum7 {d t : Nat} {v v2 : Int32} {σ : x_T} {K : x_T → Prop} (h : q_fa t σ) (hK : K σ) : x_WV (d + 1 + 1) mX6_readSum K 7 [(0, .ref 319), (1, .int v), (2, .int v2)] [] σ := k_X6_readSum_7 ⟨fun _ => hK, fun _ => fa_isNext h ⟨fun z => absurd rfl z, fun _ => fa_isNext h ⟨fun _ => hK, fun z => absurd rfl z⟩⟩⟩
theorem fa_sum {d t : Nat} {v : Int32} {σ : x_T} {K : x_T → Prop} (h : q_fa t σ) (hK : K σ) : x_CV (d + 1 + 1 + 1) mX6_readSum [.ref 319, .int v] σ K := e_X6_readSum (fa_prod h (fa_sum7 h hK))
theorem fa_compares {d : Nat} {v : Int32} {σ : x_T} {K : x_T → Int32 → Prop} (hK : ∀ u, K σ u) : x_CI d mX6_compares [.int v] σ K := by
  have t : x_WI d mX6_compares K 12 [(0, .int v)] [] σ := k_X6_compares_12 ⟨fun _ => hK _, fun _ => ⟨fun _ => hK _, fun _ => hK _⟩⟩
  exact e_X6_compares ⟨fun _ => t, fun _ => ⟨fun _ => hK _, fun _ => t⟩⟩
theorem fa_readAsk {d t : Nat} {v : Int32} {σ : x_T} {K : x_T → Prop} (h : q_fa t σ) (hK : K σ) : x_CV (d + 1 + 1 + 1 + 1) mX6_readAsk [.ref 319, .int v] σ K :=
  e_X6_readAsk (fa_isNext h ⟨fun _ => fa_sum h (fa_kindAt (fun u => fa_compares (fun u2 => ⟨fun _ => ⟨fun _ => hK, fun z => absurd z h.2.1⟩, fun _ => fa_refuse h hK⟩))), fun z => absurd rfl z⟩)
theorem fa_both7 {d t : Nat} {v v2 : Int32} {σ : x_T} {K : x_T → Prop} (h : q_fa t σ) (hK : K σ) : x_WV (d + 1 + 1) mX6_readBoth K 7 [(0, .ref 319), (1, .int v), (2, .int v2)] [] σ := k_X6_readBoth_7 ⟨fun _ => hK, fun _ => fa_isNext h ⟨fun _ => hK, fun z => absurd rfl z⟩⟩
theorem fa_either7 {d t : Nat} {v v2 : Int32} {σ : x_T} {K : x_T → Prop} (h : q_fa t σ) (hK : K σ) : x_WV (d + 1 + 1) mX6_readEither K 7 [(0, .ref 319), (1, .int v), (2, .int v2)] [] σ := k_X6_readEither_7 ⟨fun _ => hK, fun _ => fa_isNext h ⟨fun _ => hK, fun z => absurd rfl z⟩⟩
