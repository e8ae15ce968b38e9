/-! the class reads one thing, and what it asks -/
theorem fa_ask2 {d t pf n : Nat} {v v2 fl : Int32} {σ ρ : x_T} {b : Nat → Int} {K : x_T → Int32 → Prop} (h : q_cB b n t fl pf σ ρ) (g : q_fa t ρ) (hK : ∀ (π : x_T) (u : Int32), q_cB b n t fl pf σ π → q_fa t π → K π u) : x_CI d mX9_ask [.ref ρ.2.2.1, .int v, .int v2] ρ K := by
  rw [g.1]
  exact fa_ask g (fun π u k => hK π u (cB_f h k) (fa_k g k))
theorem fa_go1 {d t pf n : Nat} {v fl : Int32} {σ ρ : x_T} {b : Nat → Int} {K : x_T → Prop} (h : q_cB b n t fl pf σ ρ) (g : q_fa t ρ) (hK : ∀ π : x_T, q_cB b n t fl pf σ π → q_fa t π → K π) : x_CV d mX9_goOnHere [.ref ρ.2.2.1, .int v] ρ K := by
  rw [g.1]
  exact fa_goOn g (fun π k => hK π (cB_f h k) (fa_k g k))
theorem co_ok {d t o p a n : Nat} {V : Int32} {σ : x_T} {b : Nat → Int} {K : x_T → Int32 → Prop} (hs : q_st σ b n t p a) (ht : t < 4) (hp : p ≤ 400) (hV : V.toInt = o) (ho : o < 8) (hK : ∀ ρ : x_T, q_st ρ b n t (p + 1) a → q_kc σ ρ t 1000 → K ρ 1) : x_CI (d + 1) mX6_opens [.ref 319, .int V] σ K := by
  refine e_X6_opens ⟨fun _ t1 e1 => ?_, fun q => ?_⟩
  · obtain ⟨a1, a2⟩ := st_adv ht hs hp e1
    exact hK t1 a1 a2
  · rw [z_lt, hV] at q; simp only [Int32.reduceToInt] at q; omega
theorem co_8 {d t p a n : Nat} {V : Int32} {σ : x_T} {b : Nat → Int} {K : x_T → Int32 → Prop} (hs : q_st σ b n t p a) (ht : t < 4) (hV : V.toInt = 8) (hK : ∀ ρ : x_T, q_cB b n t 3 p σ ρ → K ρ 0) : x_CI (d + 1 + 1) mX6_opens [.ref 319, .int V] σ K := by
  refine e_X6_opens ⟨fun q => ?_, fun _ => cr_refuse hs ht (fun ρ f e1 e2 => hK ρ ⟨f, e1, by decide, e2⟩)⟩
  rw [z_lt, hV] at q; simp only [Int32.reduceToInt] at q; omega
theorem cO_at {d t p a n : Nat} {V : Int32} {σ : x_T} {b : Nat → Int} {K : x_T → Prop} (hs : q_st σ b n t p a) (h14 : q_K b n p = 14 → x_CI d mX6_opens [.ref 319, .int V] σ (fun t3 a4 => (a4 = 0 → K t3) ∧ (¬ a4 = 0 → x_CV d mX6_readFar [.ref 319, .int (V + 1)] t3 K))) (h15 : q_K b n p = 15 → x_CI d mX6_opens [.ref 319, .int V] σ (fun t3 a4 => (a4 = 0 → K t3) ∧ (¬ a4 = 0 → x_CV d mX6_readIf [.ref 319, .int (V + 1)] t3 K)))
    (h37 : q_K b n p = 37 → x_CI d mX6_opens [.ref 319, .int V] σ (fun t3 a4 => (a4 = 0 → K t3) ∧ (¬ a4 = 0 → x_CV d mX6_readOne [.ref 319, .int (V + 1)] t3 (fun t13 => x_sh t13.2.2.1 = (9, 10) ∧ (x_CI d mX9_ask [.ref t13.2.2.1, .int 49, .int 0] t13 (fun t16 _ => K t16))))))
    (h40 : q_K b n p = 40 → x_CI d mX6_opens [.ref 319, .int V] σ (fun t3 a4 => (a4 = 0 → K t3) ∧ (¬ a4 = 0 → x_CV d mX6_readSum [.ref 319, .int (V + 1)] t3 (fun t20 => x_CV d mX6_expect [.ref 319, .int 41] t20 K))))
    (h45 : q_K b n p = 45 → x_CI d mX6_expectNumber [.ref 319, .int 0, .int 9999] σ (fun t25 a26 => x_CI d mX9_ask [.ref σ.2.2.1, .int 45, .int a26] t25 (fun t27 _ => K t27))) (ht : t < 4)
    (hn : ¬ q_K b n p = 14 → ¬ q_K b n p = 15 → ¬ q_K b n p = 37 → ¬ q_K b n p = 40 → ¬ q_K b n p = 45 → x_CV d mX6_readName [.ref 319] σ K) : x_CV (d + 1) mX6_readOne [.ref 319, .int V] σ K := by
  refine e_X6_readOne ⟨fun _ => cl_kindAt hs.1 hs.2.2.1 (fun u hu => ?_), fun q => absurd (z_eq.mpr (by rw [hs.2.2.2.1]; rfl)) q⟩
  have e : ∀ v : Int32, u = v ↔ q_K b n p = v.toInt := fun v => by rw [z_eq, hu]
  exact ⟨fun q => h14 ((e 14).mp q), fun q1 => ⟨fun q => h15 ((e 15).mp q), fun q2 => ⟨fun q => h37 ((e 37).mp q), fun q3 => ⟨fun q => h40 ((e 40).mp q), fun q4 => ⟨fun q => ⟨kc_ref hs ht, h45 ((e 45).mp q)⟩, fun q5 => hn (fun z => q1 ((e 14).mpr z)) (fun z => q2 ((e 15).mpr z)) (fun z => q3 ((e 37).mpr z)) (fun z => q4 ((e 40).mpr z)) (fun z => q5 ((e 45).mpr z))⟩⟩⟩⟩⟩
/-- what is asked from one place on holds from the place before -/
def q_Es (t : Nat) (E : x_T → x_T → Prop) : Prop := ∀ σ σ1 ρ : x_T, q_kc σ σ1 t 1000 → E σ1 ρ → E σ ρ
theorem Es_B {b : Nat → Int} {n t pf : Nat} {fl : Int32} : q_Es t (q_cB b n t fl pf) := fun _ _ _ k h => cB_k k h
theorem Es_G {b : Nat → Int} {n t F a p : Nat} {c : q_co} (ha : a ≤ 1000) : q_Es t (q_cG b n t F a p c) := fun _ _ _ k h => ⟨h.1, kc_t (kc_le k ha) h.2.1 (Nat.le_refl _), h.2.2⟩
theorem cG_0 {b : Nat → Int} {n t F a p : Nat} {σ : x_T} (h : q_st σ b n t p a) : q_cG b n t F a p [] σ σ := ⟨h, kc_r _ _ _, fun i x hx => by simp at hx⟩
theorem cG_1 {d t F a p n : Nat} {v v2 : Int32} {op x : Int} {c : q_co} {σ ρ : x_T} {b : Nat → Int} {K : x_T → Int32 → Prop} (h : q_cG b n t F a p c σ ρ) (ht : t < 4) (hm : a + c.length < 300) (hv : v.toInt = x_op op) (ho : z_gv F op x v2.toInt) (hK : ∀ (π : x_T) (u : Int32), q_cG b n t F a p (c ++ [(op, x)]) σ π → u.toInt = (a + c.length : Nat) → K π u) : x_CI d mX9_ask [.ref (140 + 9 * t), .int v, .int v2] ρ K := by
  obtain ⟨h1, h2, h3⟩ := h
  refine cr_ask h1 ht hm (fun π u s k e1 e2 e3 => hK π u ⟨?_, kc_t h2 k (by omega), cc_ap (cc_k h3 k (Nat.le_refl _)) (cc_1 (by rw [e1]; exact hv) (by rw [e2]; exact ho))⟩ e3)
  rw [List.length_append]; exact s
theorem cO_num {b : Nat → Int} {n w t F N o p a : Nat} (ht : t < 4) (hN : 3 ≤ N) (ha : a < 300) (hk : q_K b n p = 45) (hv : 0 ≤ q_V b n p ∧ q_V b n p ≤ 9999) : q_Cl b n w t N mX6_readOne o p a (q_cG b n t F a (p + 1) [(400, q_V b n p)]) := by
  intro D σ V K hD hV hs hw hK
  obtain ⟨d, rfl⟩ : ∃ d, D = d + 1 + 1 + 1 := ⟨D - 3, by omega⟩
  have hp : p < n := K_lt (b := b) (n := n) (i := p) (by omega)
  have hn := hs.1.1
  refine cO_at hs (fun q => absurd q (by omega)) (fun q => absurd q (by omega)) (fun q => absurd q (by omega)) (fun q => absurd q (by omega)) (fun q => cr_number hs ht (by omega) (fun _ _ _ ρ u s k e => ?_) (fun _ z => absurd ⟨hv.1, hv.2⟩ z) (fun z => absurd hk z)) ht (fun _ _ _ _ q => absurd hk q)
  rw [hs.2.1]
  exact cG_1 (cG_0 s) ht (by simpa using ha) (by decide) ⟨fun _ => e, fun z => absurd z (by decide), fun z => absurd z (by decide)⟩ (fun π u g _ => hK π (Es_G (by omega) σ ρ π k g))
theorem cO_num2 {b : Nat → Int} {n w t N o p a : Nat} (ht : t < 4) (hN : 3 ≤ N) (hk : q_K b n p = 45) (hv : ¬ (0 ≤ q_V b n p ∧ q_V b n p ≤ 9999)) : q_Cl b n w t N mX6_readOne o p a (q_cB b n t 2 p) := by
  intro D σ V K hD hV hs hw hK
  obtain ⟨d, rfl⟩ : ∃ d, D = d + 1 + 1 + 1 := ⟨D - 3, by omega⟩
  have hp : p < n := K_lt (b := b) (n := n) (i := p) (by omega)
  have hn := hs.1.1
  refine cO_at hs (fun q => absurd q (by omega)) (fun q => absurd q (by omega)) (fun q => absurd q (by omega)) (fun q => absurd q (by omega)) (fun q => cr_number hs ht (by omega) (fun _ z1 z2 => absurd ⟨z1, z2⟩ hv) (fun _ _ ρ u f e1 e2 => ?_) (fun z => absurd hk z)) ht (fun _ _ _ _ q => absurd hk q)
  have e : q_cB b n t 2 p σ ρ := ⟨f, e1, by decide, e2⟩
  have fa := cB_a e hs ht
  rw [hs.2.1, ← fa.1]
  exact fa_ask1 e fa (fun π e' _ => hK π e')
theorem cO_8 {b : Nat → Int} {n w t N p a : Nat} (ht : t < 4) (hN : 3 ≤ N) (hk : q_K b n p = 14 ∨ q_K b n p = 15 ∨ q_K b n p = 37 ∨ q_K b n p = 40) : q_Cl b n w t N mX6_readOne 8 p a (q_cB b n t 3 p) := by
  intro D σ V K hD hV hs hw hK
  obtain ⟨d, rfl⟩ : ∃ d, D = d + 1 + 1 + 1 := ⟨D - 3, by omega⟩
  exact cO_at hs (fun q => co_8 hs ht hV (fun ρ e => ⟨fun _ => hK ρ e, fun z => absurd rfl z⟩)) (fun q => co_8 hs ht hV (fun ρ e => ⟨fun _ => hK ρ e, fun z => absurd rfl z⟩)) (fun q => co_8 hs ht hV (fun ρ e => ⟨fun _ => hK ρ e, fun z => absurd rfl z⟩)) (fun q => co_8 hs ht hV (fun ρ e => ⟨fun _ => hK ρ e, fun z => absurd rfl z⟩)) (fun q => by omega) ht (fun a1 a2 a3 a4 _ => by omega)
theorem v_1 {V : Int32} {o : Nat} (hV : V.toInt = o) (ho : o < 8) : (V + 1).toInt = (o + 1 : Nat) := by rw [z_add (by rw [hV]; simp only [Int32.reduceToInt]; omega), hV]; simp only [Int32.reduceToInt]; omega
theorem cO_far {b : Nat → Int} {n w t N o p a : Nat} {E : x_T → x_T → Prop} (ht : t < 4) (hN : 1 ≤ N) (ho : o < 8) (hE : q_Es t E) (hk : q_K b n p = 14) (h : q_Cl b n w t N mX6_readFar (o + 1) (p + 1) a E) : q_Cl b n w t (N + 1) mX6_readOne o p a E := by
  intro D σ V K hD hV hs hw hK
  obtain ⟨d, rfl⟩ : ∃ d, D = d + 1 + 1 := ⟨D - 2, by omega⟩
  have hp : p < n := K_lt (b := b) (n := n) (i := p) (by omega)
  have hn := hs.1.1
  exact cO_at hs (fun q => co_ok hs ht (by omega) hV ho (fun ρ s k => ⟨fun z => absurd z z_10, fun _ => h (d + 1) ρ _ K (by omega) (v_1 hV ho) s (kc_3 k hw) (fun π e => hK π (hE σ ρ π k e))⟩)) (fun q => absurd q (by omega)) (fun q => absurd q (by omega)) (fun q => absurd q (by omega)) (fun q => absurd q (by omega)) ht (fun q => absurd hk q)
theorem cO_if {b : Nat → Int} {n w t N o p a : Nat} {E : x_T → x_T → Prop} (ht : t < 4) (hN : 1 ≤ N) (ho : o < 8) (hE : q_Es t E) (hk : q_K b n p = 15) (h : q_Cl b n w t N mX6_readIf (o + 1) (p + 1) a E) : q_Cl b n w t (N + 1) mX6_readOne o p a E := by
  intro D σ V K hD hV hs hw hK
  obtain ⟨d, rfl⟩ : ∃ d, D = d + 1 + 1 := ⟨D - 2, by omega⟩
  have hp : p < n := K_lt (b := b) (n := n) (i := p) (by omega)
  have hn := hs.1.1
  exact cO_at hs (fun q => absurd q (by omega)) (fun q => co_ok hs ht (by omega) hV ho (fun ρ s k => ⟨fun z => absurd z z_10, fun _ => h (d + 1) ρ _ K (by omega) (v_1 hV ho) s (kc_3 k hw) (fun π e => hK π (hE σ ρ π k e))⟩)) (fun q => absurd q (by omega)) (fun q => absurd q (by omega)) (fun q => absurd q (by omega)) ht (fun _ q => absurd hk q)
theorem cO_minB {b : Nat → Int} {n w t N o p a pf : Nat} {fl : Int32} (ht : t < 4) (hN : 1 ≤ N) (ho : o < 8) (hk : q_K b n p = 37) (h : q_Cl b n w t N mX6_readOne (o + 1) (p + 1) a (q_cB b n t fl pf)) : q_Cl b n w t (N + 1) mX6_readOne o p a (q_cB b n t fl pf) := by
  intro D σ V K hD hV hs hw hK
  obtain ⟨d, rfl⟩ : ∃ d, D = d + 1 + 1 := ⟨D - 2, by omega⟩
  have hp : p < n := K_lt (b := b) (n := n) (i := p) (by omega)
  have hn := hs.1.1
  exact cO_at hs (fun q => absurd q (by omega)) (fun q => absurd q (by omega)) (fun q => co_ok hs ht (by omega) hV ho (fun ρ s k => ⟨fun z => absurd z z_10, fun _ => h (d + 1) ρ _ _ (by omega) (v_1 hV ho) s (kc_3 k hw) (fun π e => ⟨fa_ref (cB_a e s ht), fa_ask1 (cB_k k e) (cB_a e s ht) (fun π' e' _ => hK π' e')⟩)⟩)) (fun q => absurd q (by omega)) (fun q => absurd q (by omega)) ht (fun _ _ q => absurd hk q)
theorem cO_minG {b : Nat → Int} {n w t F N o p a p1 : Nat} {c : q_co} (ht : t < 4) (hN : 1 ≤ N) (ho : o < 8) (ha : a + c.length < 300) (hk : q_K b n p = 37) (h : q_Cl b n w t N mX6_readOne (o + 1) (p + 1) a (q_cG b n t F a p1 c)) : q_Cl b n w t (N + 1) mX6_readOne o p a (q_cG b n t F a p1 (c ++ [(402, 0)])) := by
  intro D σ V K hD hV hs hw hK
  obtain ⟨d, rfl⟩ : ∃ d, D = d + 1 + 1 := ⟨D - 2, by omega⟩
  have hp : p < n := K_lt (b := b) (n := n) (i := p) (by omega)
  have hn := hs.1.1
  exact cO_at hs (fun q => absurd q (by omega)) (fun q => absurd q (by omega)) (fun q => co_ok hs ht (by omega) hV ho (fun ρ s k => ⟨fun z => absurd z z_10, fun _ => h (d + 1) ρ _ _ (by omega) (v_1 hV ho) s (kc_3 k hw) (fun π e => ⟨kc_ref e.1 ht, cG_ask e ht ha (op := 402) (by decide) (by unfold q_gz; decide) (fun π' e' => hK π' (Es_G (by omega) σ ρ π' k e'))⟩)⟩)) (fun q => absurd q (by omega)) (fun q => absurd q (by omega)) ht (fun _ _ q => absurd hk q)
theorem cO_parB {b : Nat → Int} {n w t N o p a pf : Nat} {fl : Int32} (ht : t < 4) (hN : 2 ≤ N) (ho : o < 8) (hk : q_K b n p = 40) (h : q_Cl b n w t N mX6_readSum (o + 1) (p + 1) a (q_cB b n t fl pf)) : q_Cl b n w t (N + 1) mX6_readOne o p a (q_cB b n t fl pf) := by
  intro D σ V K hD hV hs hw hK
  obtain ⟨d, rfl⟩ : ∃ d, D = d + 1 + 1 + 1 := ⟨D - 3, by omega⟩
  have hp : p < n := K_lt (b := b) (n := n) (i := p) (by omega)
  have hn := hs.1.1
  exact cO_at hs (fun q => absurd q (by omega)) (fun q => absurd q (by omega)) (fun q => absurd q (by omega)) (fun q => co_ok hs ht (by omega) hV ho (fun ρ s k => ⟨fun z => absurd z z_10, fun _ => h (d + 1 + 1) ρ _ _ (by omega) (v_1 hV ho) s (kc_3 k hw) (fun π e => fa_expect (cB_a e s ht) (hK π (cB_k k e)))⟩)) (fun q => absurd q (by omega)) ht (fun _ _ _ q => absurd hk q)
theorem cO_parG {b : Nat → Int} {n w t F N o p a p1 : Nat} {c : q_co} {E : x_T → x_T → Prop} (ht : t < 4) (hN : 2 ≤ N) (ho : o < 8) (ha : a + c.length ≤ 300) (hp1 : p1 ≤ 300) (hk : q_K b n p = 40) (h : q_Cl b n w t N mX6_readSum (o + 1) (p + 1) a (q_cG b n t F a p1 c)) (h1 : q_K b n p1 = 41 → ∀ σ ρ, q_cG b n t F a (p1 + 1) c σ ρ → E σ ρ) (h0 : ¬ q_K b n p1 = 41 → ∀ σ ρ, q_cB b n t 1 p1 σ ρ → E σ ρ) : q_Cl b n w t (N + 1) mX6_readOne o p a E := by
  intro D σ V K hD hV hs hw hK
  obtain ⟨d, rfl⟩ : ∃ d, D = d + 1 + 1 + 1 := ⟨D - 3, by omega⟩
  have hp : p < n := K_lt (b := b) (n := n) (i := p) (by omega)
  have hn := hs.1.1
  refine cO_at hs (fun q => absurd q (by omega)) (fun q => absurd q (by omega)) (fun q => absurd q (by omega)) (fun q => co_ok hs ht (by omega) hV ho (fun ρ s k => ⟨fun z => absurd z z_10, fun _ => h (d + 1 + 1) ρ _ _ (by omega) (v_1 hV ho) s (kc_3 k hw) (fun π e => cr_expect e.1 ht (by omega) (fun q π' s' k' => hK π' (h1 q σ π' ⟨s', ?_, ?_⟩)) (fun q π' f e1 e2 => hK π' (h0 q σ π' (cB_k (kc_t (kc_le k (show a ≤ 1000 by omega)) e.2.1 (Nat.le_refl _)) ⟨f, e1, by decide, e2⟩))))⟩)) (fun q => absurd q (by omega)) ht (fun _ _ _ q => absurd hk q)
  · exact kc_t (kc_t (kc_le k (by omega)) e.2.1 (Nat.le_refl _)) k' (by omega)
  · exact cc_k e.2.2 k' (by omega)
/-! a name -/
theorem cO_nm {b : Nat → Int} {n t p a d : Nat} {V : Int32} {σ : x_T} {K : x_T → Prop} (hs : q_st σ b n t p a) (ht : t < 4) (hk : ¬ q_K b n p = 14 ∧ ¬ q_K b n p = 15 ∧ ¬ q_K b n p = 37 ∧ ¬ q_K b n p = 40 ∧ ¬ q_K b n p = 45) (h : x_CV d mX6_readName [.ref 319] σ K) : x_CV (d + 1) mX6_readOne [.ref 319, .int V] σ K :=
  cO_at hs (fun q => absurd q hk.1) (fun q => absurd q hk.2.1) (fun q => absurd q hk.2.2.1) (fun q => absurd q hk.2.2.2.1) (fun q => absurd q hk.2.2.2.2) ht (fun _ _ _ _ _ => h)
theorem wd_k : ∀ j, j < 12 → ¬ x_wd j = 14 ∧ ¬ x_wd j = 15 ∧ ¬ x_wd j = 37 ∧ ¬ x_wd j = 40 ∧ ¬ x_wd j = 45 ∧ x_wd j < 32 := by decide +kernel
theorem cO_nmj {b : Nat → Int} {n t p a d j w : Nat} {V : Int32} {σ : x_T} {K : x_T → Prop} (hs : q_st σ b n t p a) (ht : t < 4) (hj : j < 12) (hw4 : w < 4) (hw : (σ.1 319 3).toInt = w) (hk : q_K b n p = x_wd j) (h1 : x_al w j → ∀ u : Int32, u.toInt = x_wd j → x_CI d mX9_ask [.ref σ.2.2.1, .int 48, .int u] σ (fun t2 _ => ∀ t4, t4 = x_w1 t2 319 2 ((t2.1 319 2) + 1) → K t4)) (h0 : ¬ x_al w j → x_CV d mX6_refuse [.ref 319, .int 5] σ K) : x_CV (d + 1 + 1) mX6_readOne [.ref 319, .int V] σ K := by
  obtain ⟨k1, k2, k3, k4, k5, k6⟩ := wd_k j hj
  obtain ⟨m1, m2⟩ := nm_3 j hj w hw4
  have el : σ.1 319 3 = nI w := z_eq.mpr (by rw [hw, nI_toInt (by omega)])
  refine cO_nm hs ht ⟨by omega, by omega, by omega, by omega, by omega⟩ (e_X6_readName (cl_kindAt hs.1 hs.2.2.1 (fun u hu => ⟨fun q => ?_, fun _ => ⟨fun q => ?_, fun _ => ⟨ix_n (by omega), ?_⟩⟩⟩)))
  · rw [z_lt, hu] at q; simp only [Int32.reduceToInt] at q; omega
  · rw [z_le, hu] at q; simp only [Int32.reduceToInt] at q; omega
  have cu : u.toNatClampNeg = x_wd j := by rw [z_cl, hu, hk]; omega
  rw [cu]
  refine k_X6_readName_31 ⟨fun _ => ⟨fun q => ⟨kc_ref hs ht, h1 ?_ u (hu.trans hk)⟩, fun q => h0 (fun z => ?_)⟩, fun q => absurd q m1⟩
  · rw [el] at q
    have := m2.mp q
    unfold x_al
    exact of_decide_eq_true this
  · rw [el] at q
    unfold x_al at z
    exact (m2.mpr (decide_eq_true z)) q
theorem cO_nameG {b : Nat → Int} {n w t F N o p a j : Nat} (ht : t < 4) (hN : 2 ≤ N) (ha : a < 300) (hj : j < 12) (hw4 : w < 4) (hk : q_K b n p = x_wd j) (hal : x_al w j) : q_Cl b n w t N mX6_readOne o p a (q_cG b n t F a (p + 1) [(401, (j : Int))]) := by
  intro D σ V K hD hV hs hw hK
  obtain ⟨d, rfl⟩ : ∃ d, D = d + 1 + 1 := ⟨D - 2, by omega⟩
  have hw32 := (wd_k j hj).2.2.2.2.2
  have hp : p < n := K_lt (b := b) (n := n) (i := p) (by omega)
  have hn := hs.1.1
  refine cO_nmj hs ht hj hw4 hw hk (fun _ u hu => ?_) (fun z => absurd hal z)
  rw [hs.2.1]
  refine cG_1 (op := 401) (x := (j : Int)) (cG_0 (F := F) hs) ht (by simpa using ha) (by decide) ⟨fun z => absurd z (by decide), fun _ => by rw [hu, Int.toNat_natCast], fun z => absurd z (by decide)⟩ (fun π _ g _ t4 e4 => ?_)
  obtain ⟨s4, k4⟩ := st_adv ht g.1 (by omega) e4
  exact hK t4 ⟨s4, kc_t g.2.1 k4 (by omega), cc_k g.2.2 k4 (by simp; omega)⟩
theorem cO_name5 {b : Nat → Int} {n w t N o p a j : Nat} (ht : t < 4) (hN : 3 ≤ N) (hj : j < 12) (hw4 : w < 4) (hk : q_K b n p = x_wd j) (hal : ¬ x_al w j) : q_Cl b n w t N mX6_readOne o p a (q_cB b n t 5 p) := by
  intro D σ V K hD hV hs hw hK
  obtain ⟨d, rfl⟩ : ∃ d, D = d + 1 + 1 + 1 := ⟨D - 3, by omega⟩
  exact cO_nmj hs ht hj hw4 hw hk (fun z => absurd z hal) (fun _ => cr_refuse hs ht (fun ρ f e1 e2 => hK ρ ⟨f, e1, by decide, e2⟩))
theorem cO_name1 {b : Nat → Int} {n w t N o p a : Nat} (ht : t < 4) (hN : 3 ≤ N) (hk : ¬ q_K b n p = 14 ∧ ¬ q_K b n p = 15 ∧ ¬ q_K b n p = 37 ∧ ¬ q_K b n p = 40 ∧ ¬ q_K b n p = 45) (hj : ∀ j, j < 12 → ¬ q_K b n p = x_wd j) : q_Cl b n w t N mX6_readOne o p a (q_cB b n t 1 p) := by
  intro D σ V K hD hV hs hw hK
  obtain ⟨d, rfl⟩ : ∃ d, D = d + 1 + 1 + 1 := ⟨D - 3, by omega⟩
  have g : x_CV (d + 1) mX6_refuse [.ref 319, .int 1] σ K := cr_refuse hs ht (fun ρ f e1 e2 => hK ρ ⟨f, e1, by decide, e2⟩)
  have hb := K_b b n p
  refine cO_nm hs ht hk (e_X6_readName (cl_kindAt hs.1 hs.2.2.1 (fun u hu => ?_)))
  have z : ∀ v, x_WV (d + 1 + 1) mX6_readName K 31 [(0, .ref 319), (1, .int v)] [.int 0] σ := fun v => k_X6_readName_31 ⟨fun q => absurd rfl q, fun _ => g⟩
  refine ⟨fun _ => k_X6_readName_30 (z u), fun _ => ⟨fun _ => k_X6_readName_30 (z u), fun q => ?_⟩⟩
  rw [z_le, hu] at q
  simp only [Int32.reduceToInt] at q
  have cu : u.toNatClampNeg = (q_K b n p).toNat := by rw [z_cl, hu]
  rw [cu, nm_4 (q_K b n p).toNat (by omega) (fun j h e => hj j h (by omega))]
  exact ⟨ix_n (by omega), z u⟩
