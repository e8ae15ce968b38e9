/-! the class reads far, if, and what is asked -/
theorem cF_B1 {b : Nat → Int} {n w t N o p a pf : Nat} {fl : Int32} (ht : t < 4) (hN : 2 ≤ N) (h : q_Cl b n w t N mX6_readOne o p a (q_cB b n t fl pf)) : q_Cl b n w t (N + 1) mX6_readFar o p a (q_cB b n t fl pf) := by
  intro D σ V K hD hV hs hw hK
  obtain ⟨d, rfl⟩ : ∃ d, D = d + 1 + 1 + 1 := ⟨D - 3, by omega⟩
  refine e_X6_readFar (h (d + 1 + 1) σ V _ (by omega) hV hs hw (fun π e => ?_))
  have fa := cB_a e hs ht
  exact fa_expect fa (fa_one fa ⟨fa_ref fa, fa_ask1 e fa (fun π' e' _ => hK π' e')⟩)
theorem cF_T {b : Nat → Int} {n w t F N o p a p1 : Nat} {c : q_co} (ht : t < 4) (hN : 2 ≤ N) (hp1 : p1 ≤ 300) (hk : ¬ q_K b n p1 = 11) (h : q_Cl b n w t N mX6_readOne o p a (q_cG b n t F a p1 c)) : q_Cl b n w t (N + 1) mX6_readFar o p a (q_cB b n t 1 p1) := by
  intro D σ V K hD hV hs hw hK
  obtain ⟨d, rfl⟩ : ∃ d, D = d + 1 + 1 + 1 := ⟨D - 3, by omega⟩
  refine e_X6_readFar (h (d + 1 + 1) σ V _ (by omega) hV hs hw (fun ρ e => cr_expect e.1 ht (by omega) (fun q => absurd q hk) (fun _ π f e1 e2 => ?_)))
  have e' : q_cB b n t 1 p1 σ π := cB_k e.2.1 ⟨f, e1, by decide, e2⟩
  have fa := cB_a e' hs ht
  exact fa_one fa ⟨fa_ref fa, fa_ask1 e' fa (fun π' e' _ => hK π' e')⟩
theorem cF_B2 {b : Nat → Int} {n w t F N o p a p1 pf : Nat} {fl : Int32} {c : q_co} (ht : t < 4) (hN : 2 ≤ N) (hp1 : p1 ≤ 300) (ha : a + c.length ≤ 300) (hk : q_K b n p1 = 11) (h : q_Cl b n w t N mX6_readOne o p a (q_cG b n t F a p1 c)) (h2 : q_Cl b n w t N mX6_readOne o (p1 + 1) (a + c.length) (q_cB b n t fl pf)) : q_Cl b n w t (N + 1) mX6_readFar o p a (q_cB b n t fl pf) := by
  intro D σ V K hD hV hs hw hK
  obtain ⟨d, rfl⟩ : ∃ d, D = d + 1 + 1 + 1 := ⟨D - 3, by omega⟩
  refine e_X6_readFar (h (d + 1 + 1) σ V _ (by omega) hV hs hw (fun ρ e => cr_expect e.1 ht (by omega) (fun _ ρ1 s1 k1 => h2 (d + 1 + 1) ρ1 V _ (by omega) hV s1 (kc_3 k1 (kc_3 e.2.1 hw)) (fun π e2 => ?_)) (fun q => absurd hk q)))
  have fa := cB_a e2 s1 ht
  exact ⟨fa_ref fa, fa_ask1 (cB_k (kc_t e.2.1 k1 (by omega)) e2) fa (fun π' e' _ => hK π' e')⟩
theorem cF_G {b : Nat → Int} {n w t F N o p a p1 p2 : Nat} {c c2 : q_co} (ht : t < 4) (hN : 2 ≤ N) (hp1 : p1 ≤ 300) (ha : a + c.length + c2.length < 300) (hk : q_K b n p1 = 11) (h : q_Cl b n w t N mX6_readOne o p a (q_cG b n t F a p1 c)) (h2 : q_Cl b n w t N mX6_readOne o (p1 + 1) (a + c.length) (q_cG b n t F (a + c.length) p2 c2)) : q_Cl b n w t (N + 1) mX6_readFar o p a (q_cG b n t F a p2 (c ++ c2 ++ [(403, 0)])) := by
  intro D σ V K hD hV hs hw hK
  obtain ⟨d, rfl⟩ : ∃ d, D = d + 1 + 1 + 1 := ⟨D - 3, by omega⟩
  refine e_X6_readFar (h (d + 1 + 1) σ V _ (by omega) hV hs hw (fun ρ e => cr_expect e.1 ht (by omega) (fun _ ρ1 s1 k1 => h2 (d + 1 + 1) ρ1 V _ (by omega) hV s1 (kc_3 k1 (kc_3 e.2.1 hw)) (fun π e2 => ?_)) (fun q => absurd hk q)))
  have g := cG_t e k1 (by omega) e2
  exact ⟨kc_ref e2.1 ht, cG_ask g ht (by rw [List.length_append]; omega) (op := 403) (by decide) (by unfold q_gz; decide) (fun π' e' => hK π' e')⟩
/-! if: behind a fault -/
theorem cI_B1 {b : Nat → Int} {n w t N o p a pf : Nat} {fl : Int32} (ht : t < 4) (hN : 3 ≤ N) (h : q_Cl b n w t N mX6_readEither o p a (q_cB b n t fl pf)) : q_Cl b n w t (N + 1) mX6_readIf o p a (q_cB b n t fl pf) := by
  intro D σ V K hD hV hs hw hK
  obtain ⟨d, rfl⟩ : ∃ d, D = d + 1 + 1 + 1 + 1 := ⟨D - 4, by omega⟩
  refine e_X6_readIf (h (d + 1 + 1 + 1) σ V _ (by omega) hV hs hw (fun π e => ?_))
  have fa := cB_a e hs ht
  exact fa_expect fa ⟨fa_ref fa, fa_ask2 e fa (fun π u e fa => fa_sum fa (fa_expect fa ⟨fa_ref fa, fa_ask2 e fa (fun π u2 e fa => ⟨fa_ref fa, fa_go1 e fa (fun π e fa => fa_sum fa (fa_expect fa ⟨fa_ref fa, fa_go1 e fa (fun π e fa => hK π e)⟩))⟩)⟩))⟩
theorem cI_T {b : Nat → Int} {n w t F N o p a p1 : Nat} {c : q_co} (ht : t < 4) (hN : 3 ≤ N) (hp1 : p1 ≤ 300) (hk : ¬ q_K b n p1 = 16) (h : q_Cl b n w t N mX6_readEither o p a (q_cG b n t F a p1 c)) : q_Cl b n w t (N + 1) mX6_readIf o p a (q_cB b n t 1 p1) := by
  intro D σ V K hD hV hs hw hK
  obtain ⟨d, rfl⟩ : ∃ d, D = d + 1 + 1 + 1 + 1 := ⟨D - 4, by omega⟩
  refine e_X6_readIf (h (d + 1 + 1 + 1) σ V _ (by omega) hV hs hw (fun ρ g => cr_expect g.1 ht (by omega) (fun q => absurd q hk) (fun _ π f e1 e2 => ?_)))
  have e : q_cB b n t 1 p1 σ π := cB_k g.2.1 ⟨f, e1, by decide, e2⟩
  have fa := cB_a e hs ht
  exact ⟨fa_ref fa, fa_ask2 e fa (fun π u e fa => fa_sum fa (fa_expect fa ⟨fa_ref fa, fa_ask2 e fa (fun π u2 e fa => ⟨fa_ref fa, fa_go1 e fa (fun π e fa => fa_sum fa (fa_expect fa ⟨fa_ref fa, fa_go1 e fa (fun π e fa => hK π e)⟩))⟩)⟩))⟩
/-- from `if` to behind `then`: the code so far, and the place of its first turn -/
theorem cI_1 {b : Nat → Int} {n w t F N o p a p1 : Nat} {c : q_co} {E : x_T → x_T → Prop} (ht : t < 4) (hN : 3 ≤ N) (hp1 : p1 ≤ 300) (ha : a + c.length < 300) (hk : q_K b n p1 = 16) (h : q_Cl b n w t N mX6_readEither o p a (q_cG b n t F a p1 c)) (h2 : ∀ (d : Nat) (σ ρ : x_T) (V a7 : Int32) (K : x_T → Prop), N ≤ d + 1 + 1 + 1 → V.toInt = o → (∀ π, E σ π → K π) → q_st σ b n t p a → (ρ.1 319 3).toInt = w → q_st ρ b n t (p1 + 1) (a + c.length + 1) → q_kc σ ρ t a → q_cc ρ t F a c → (ρ.1 (140 + 9 * t + 7) (a + c.length)).toInt = 50 → a7.toInt = (a + c.length : Nat) → x_CV (d + 1 + 1 + 1) mX6_readSum [.ref 319, .int V] ρ (fun t8 => x_CV (d + 1 + 1 + 1) mX6_expect [.ref 319, .int 17] t8 (fun t10 => x_sh t10.2.2.1 = (9, 10) ∧ (x_CI (d + 1 + 1 + 1) mX9_ask [.ref t10.2.2.1, .int 51, .int 0] t10 (fun t13 a14 => x_sh t13.2.2.1 = (9, 10) ∧ (x_CV (d + 1 + 1 + 1) mX9_goOnHere [.ref t13.2.2.1, .int a7] t13 (fun t16 => x_CV (d + 1 + 1 + 1) mX6_readSum [.ref 319, .int V] t16 (fun t18 => x_CV (d + 1 + 1 + 1) mX6_expect [.ref 319, .int 18] t18 (fun t20 => x_sh t20.2.2.1 = (9, 10) ∧ (x_CV (d + 1 + 1 + 1) mX9_goOnHere [.ref t20.2.2.1, .int a14] t20 (fun t23 => K t23))))))))))) : q_Cl b n w t (N + 1) mX6_readIf o p a E := by
  intro D σ V K hD hV hs hw hK
  obtain ⟨d, rfl⟩ : ∃ d, D = d + 1 + 1 + 1 + 1 := ⟨D - 4, by omega⟩
  refine e_X6_readIf (h (d + 1 + 1 + 1) σ V _ (by omega) hV hs hw (fun ρ e => cr_expect e.1 ht (by omega) (fun _ ρ1 s1 k1 => ⟨kc_ref s1 ht, ?_⟩) (fun q => absurd hk q)))
  rw [s1.2.1]
  refine cr_ask s1 ht ha (fun ρ2 u s2 k2 e1 e2 e3 => ?_)
  have k3 := kc_t e.2.1 (kc_t (kc_le k1 (show a + c.length ≤ 1000 by omega)) k2 (Nat.le_refl _)) (by omega)
  exact h2 d σ ρ2 V u K (by omega) hV hK hs (kc_3 k3 hw) s2 k3 (cc_k (cc_k e.2.2 k1 (by omega)) k2 (Nat.le_refl _)) (by rw [e1]; rfl) e3
theorem cI_B2 {b : Nat → Int} {n w t F N o p a p1 pf : Nat} {fl : Int32} {c : q_co} (ht : t < 4) (hN : 3 ≤ N) (hp1 : p1 ≤ 300) (ha : a + c.length < 300) (hk : q_K b n p1 = 16) (h : q_Cl b n w t N mX6_readEither o p a (q_cG b n t F a p1 c)) (h2 : q_Cl b n w t N mX6_readSum o (p1 + 1) (a + c.length + 1) (q_cB b n t fl pf)) : q_Cl b n w t (N + 1) mX6_readIf o p a (q_cB b n t fl pf) := by
  refine cI_1 ht hN hp1 ha hk h (fun d σ ρ V a7 K hd hV hK hs hw s k cc e7 ea => h2 (d + 1 + 1 + 1) ρ V _ hd hV s hw (fun π e => ?_))
  have e := cB_k k e
  have fa := cB_a e hs ht
  exact fa_expect fa ⟨fa_ref fa, fa_ask2 e fa (fun π u2 e fa => ⟨fa_ref fa, fa_go1 e fa (fun π e fa => fa_sum fa (fa_expect fa ⟨fa_ref fa, fa_go1 e fa (fun π e fa => hK π e)⟩))⟩)⟩
theorem cI_L {b : Nat → Int} {n w t F N o p a p1 p2 : Nat} {c c2 : q_co} (ht : t < 4) (hN : 3 ≤ N) (hp1 : p1 ≤ 300) (hp2 : p2 ≤ 300) (ha : a + c.length < 300) (hk : q_K b n p1 = 16) (hk2 : ¬ q_K b n p2 = 17) (h : q_Cl b n w t N mX6_readEither o p a (q_cG b n t F a p1 c)) (h2 : q_Cl b n w t N mX6_readSum o (p1 + 1) (a + c.length + 1) (q_cG b n t F (a + c.length + 1) p2 c2)) : q_Cl b n w t (N + 1) mX6_readIf o p a (q_cB b n t 1 p2) := by
  refine cI_1 ht hN hp1 ha hk h (fun d σ ρ V a7 K hd hV hK hs hw s k cc e7 ea => h2 (d + 1 + 1 + 1) ρ V _ hd hV s hw (fun ρ2 g => cr_expect g.1 ht (by omega) (fun q => absurd q hk2) (fun _ π f e1 e2 => ?_)))
  have e : q_cB b n t 1 p2 σ π := cB_k k (cB_k g.2.1 ⟨f, e1, by decide, e2⟩)
  have fa := cB_a e hs ht
  exact ⟨fa_ref fa, fa_ask2 e fa (fun π u2 e fa => ⟨fa_ref fa, fa_go1 e fa (fun π e fa => fa_sum fa (fa_expect fa ⟨fa_ref fa, fa_go1 e fa (fun π e fa => hK π e)⟩))⟩)⟩
theorem cc_go {σ ρ : x_T} {t F a i : Nat} {c : q_co} (h : q_cc σ t F a c) (h7 : ∀ j, ρ.1 (140 + 9 * t + 7) j = σ.1 (140 + 9 * t + 7) j) (h8 : ∀ j, ¬ j = i → ρ.1 (140 + 9 * t + 8) j = σ.1 (140 + 9 * t + 8) j) (hi : i < a ∨ a + c.length ≤ i) : q_cc ρ t F a c := by
  intro j x hx
  have := co_lt hx
  rw [h7, h8 _ (by omega)]
  exact h j x hx
/-- from `else` on: the code up to there, the place of the second turn -/
theorem cI_2 {b : Nat → Int} {n w t F N o p a k p1 p2 : Nat} {c c2 : q_co} {E : x_T → x_T → Prop} (ht : t < 4) (hN : 3 ≤ N) (hF : a = F + k) (hp1 : p1 ≤ 300) (hp2 : p2 ≤ 300) (ha : a + c.length + 1 + c2.length < 300) (hk : q_K b n p1 = 16) (hk2 : q_K b n p2 = 17) (h : q_Cl b n w t N mX6_readEither o p a (q_cG b n t F a p1 c)) (h2 : q_Cl b n w t N mX6_readSum o (p1 + 1) (a + c.length + 1) (q_cG b n t F (a + c.length + 1) p2 c2))
    (h3 : ∀ (d : Nat) (σ ρ : x_T) (V a14 : Int32) (K : x_T → Prop), N ≤ d + 1 + 1 + 1 → V.toInt = o → (∀ π, E σ π → K π) → q_st σ b n t p a → (ρ.1 319 3).toInt = w → q_st ρ b n t (p2 + 1) (a + c.length + 1 + c2.length + 1) → q_kc σ ρ t a → q_cc ρ t F a (c ++ [(404, ((k + c.length + 1 + c2.length + 1 : Nat) : Int))] ++ c2) → (ρ.1 (140 + 9 * t + 7) (a + c.length + 1 + c2.length)).toInt = 51 → a14.toInt = (a + c.length + 1 + c2.length : Nat) → x_CV (d + 1 + 1 + 1) mX6_readSum [.ref 319, .int V] ρ (fun t18 => x_CV (d + 1 + 1 + 1) mX6_expect [.ref 319, .int 18] t18 (fun t20 => x_sh t20.2.2.1 = (9, 10) ∧ (x_CV (d + 1 + 1 + 1) mX9_goOnHere [.ref t20.2.2.1, .int a14] t20 (fun t23 => K t23))))) : q_Cl b n w t (N + 1) mX6_readIf o p a E := by
  refine cI_1 ht hN hp1 (by omega) hk h (fun d σ ρ V a7 K hd hV hK hs hw s k0 cc e7 ea => h2 (d + 1 + 1 + 1) ρ V _ hd hV s hw (fun ρ2 g => cr_expect g.1 ht (by omega) (fun _ ρ3 s3 k3 => ⟨kc_ref s3 ht, ?_⟩) (fun q => absurd hk2 q)))
  rw [s3.2.1]
  refine cr_ask s3 ht (by omega) (fun ρ4 u s4 k4 e1 e2 e3 => ⟨kc_ref s4 ht, ?_⟩)
  rw [s4.2.1]
  refine cr_goOn s4 ht ea (by omega) (by omega) (fun ρ5 s5 k5 f7 f8 f9 => ?_)
  have m1 : q_kc ρ2 ρ4 t (a + c.length + 1 + c2.length) := kc_t (kc_le k3 (by omega)) k4 (Nat.le_refl _)
  have m2 : q_kc ρ ρ4 t (a + c.length + 1) := kc_t g.2.1 m1 (by omega)
  have m3 : q_kc σ ρ5 t a := kc_t (kc_t k0 m2 (by omega)) k5 (by omega)
  have c_2 : q_cc ρ5 t F (a + c.length + 1) c2 := cc_go (cc_k g.2.2 m1 (Nat.le_refl _)) f7 f8 (Or.inl (by omega))
  have c_1 : q_cc ρ5 t F a c := cc_go (cc_k cc m2 (by omega)) f7 f8 (Or.inr (Nat.le_refl _))
  have c_0 : q_cc ρ5 t F (a + c.length) [(404, ((k + c.length + 1 + c2.length + 1 : Nat) : Int))] := by
    refine cc_1 ?_ ⟨fun z => absurd z (by decide), fun z => absurd z (by decide), fun _ => ?_⟩
    · rw [f7, (m2.2.2.2 (a + c.length) (by omega)).1]; exact e7
    · rw [f9, hF]; omega
  refine h3 d σ ρ5 V u K hd hV hK hs (kc_3 m3 (by rw [← k0.2.1 3 (by omega) (by omega) (by omega)]; exact hw)) s5 m3 ?_ ?_ e3
  · exact cc_ap (cc_ap c_1 c_0) (by rw [List.length_append]; exact c_2)
  · rw [f7, e1]; rfl
theorem cI_B3 {b : Nat → Int} {n w t F N o p a k p1 p2 pf : Nat} {fl : Int32} {c c2 : q_co} (ht : t < 4) (hN : 3 ≤ N) (hF : a = F + k) (hp1 : p1 ≤ 300) (hp2 : p2 ≤ 300) (ha : a + c.length + 1 + c2.length < 300) (hk : q_K b n p1 = 16) (hk2 : q_K b n p2 = 17) (h : q_Cl b n w t N mX6_readEither o p a (q_cG b n t F a p1 c)) (h2 : q_Cl b n w t N mX6_readSum o (p1 + 1) (a + c.length + 1) (q_cG b n t F (a + c.length + 1) p2 c2)) (h3 : q_Cl b n w t N mX6_readSum o (p2 + 1) (a + c.length + 1 + c2.length + 1) (q_cB b n t fl pf)) : q_Cl b n w t (N + 1) mX6_readIf o p a (q_cB b n t fl pf) := by
  refine cI_2 ht hN hF hp1 hp2 ha hk hk2 h h2 (fun d σ ρ V a14 K hd hV hK hs hw s k0 cc e7 ea => h3 (d + 1 + 1 + 1) ρ V _ hd hV s hw (fun π e => ?_))
  have e := cB_k k0 e
  have fa := cB_a e hs ht
  exact fa_expect fa ⟨fa_ref fa, fa_go1 e fa (fun π e fa => hK π e)⟩
theorem cI_E {b : Nat → Int} {n w t F N o p a k p1 p2 p3 : Nat} {c c2 c3 : q_co} (ht : t < 4) (hN : 3 ≤ N) (hF : a = F + k) (hp1 : p1 ≤ 300) (hp2 : p2 ≤ 300) (hp3 : p3 ≤ 300) (ha : a + c.length + 1 + c2.length < 300) (hk : q_K b n p1 = 16) (hk2 : q_K b n p2 = 17) (hk3 : ¬ q_K b n p3 = 18) (h : q_Cl b n w t N mX6_readEither o p a (q_cG b n t F a p1 c)) (h2 : q_Cl b n w t N mX6_readSum o (p1 + 1) (a + c.length + 1) (q_cG b n t F (a + c.length + 1) p2 c2)) (h3 : q_Cl b n w t N mX6_readSum o (p2 + 1) (a + c.length + 1 + c2.length + 1) (q_cG b n t F (a + c.length + 1 + c2.length + 1) p3 c3)) : q_Cl b n w t (N + 1) mX6_readIf o p a (q_cB b n t 1 p3) := by
  refine cI_2 ht hN hF hp1 hp2 ha hk hk2 h h2 (fun d σ ρ V a14 K hd hV hK hs hw s k0 cc e7 ea => h3 (d + 1 + 1 + 1) ρ V _ hd hV s hw (fun ρ2 g => cr_expect g.1 ht (by omega) (fun q => absurd q hk3) (fun _ π f e1 e2 => ?_)))
  have e : q_cB b n t 1 p3 σ π := cB_k k0 (cB_k g.2.1 ⟨f, e1, by decide, e2⟩)
  have fa := cB_a e hs ht
  exact ⟨fa_ref fa, fa_go1 e fa (fun π e fa => hK π e)⟩
theorem cI_G {b : Nat → Int} {n w t F N o p a k p1 p2 p3 : Nat} {c c2 c3 : q_co} (ht : t < 4) (hN : 3 ≤ N) (hF : a = F + k) (hp1 : p1 ≤ 300) (hp2 : p2 ≤ 300) (hp3 : p3 ≤ 300) (ha : a + c.length + 1 + c2.length + 1 + c3.length ≤ 300) (hk : q_K b n p1 = 16) (hk2 : q_K b n p2 = 17) (hk3 : q_K b n p3 = 18) (h : q_Cl b n w t N mX6_readEither o p a (q_cG b n t F a p1 c)) (h2 : q_Cl b n w t N mX6_readSum o (p1 + 1) (a + c.length + 1) (q_cG b n t F (a + c.length + 1) p2 c2)) (h3 : q_Cl b n w t N mX6_readSum o (p2 + 1) (a + c.length + 1 + c2.length + 1) (q_cG b n t F (a + c.length + 1 + c2.length + 1) p3 c3)) : q_Cl b n w t (N + 1) mX6_readIf o p a (q_cG b n t F a (p3 + 1) (c ++ [(404, ((k + c.length + 1 + c2.length + 1 : Nat) : Int))] ++ c2 ++ [(409, ((k + c.length + 1 + c2.length + 1 + c3.length : Nat) : Int))] ++ c3)) := by
  refine cI_2 ht hN hF hp1 hp2 (by omega) hk hk2 h h2 (fun d σ ρ V a14 K hd hV hK hs hw s k0 cc e7 ea => h3 (d + 1 + 1 + 1) ρ V _ hd hV s hw (fun ρ2 g => cr_expect g.1 ht (by omega) (fun _ ρ3 s3 k3 => ⟨kc_ref s3 ht, ?_⟩) (fun q => absurd hk3 q)))
  rw [s3.2.1]
  refine cr_goOn s3 ht ea (by omega) (by omega) (fun ρ5 s5 k5 f7 f8 f9 => hK ρ5 ?_)
  have m1 : q_kc ρ ρ3 t (a + c.length + 1 + c2.length + 1) := kc_t g.2.1 k3 (by omega)
  have m3 : q_kc σ ρ5 t a := kc_t (kc_t k0 m1 (by omega)) k5 (by omega)
  have c_3 : q_cc ρ5 t F (a + c.length + 1 + c2.length + 1) c3 := cc_go (cc_k g.2.2 k3 (by omega)) f7 f8 (Or.inl (by omega))
  have c_1 : q_cc ρ5 t F a (c ++ [(404, ((k + c.length + 1 + c2.length + 1 : Nat) : Int))] ++ c2) := cc_go (cc_k cc m1 (by simp only [List.length_append, List.length_cons, List.length_nil]; omega)) f7 f8 (Or.inr (by simp only [List.length_append, List.length_cons, List.length_nil]; omega))
  have c_0 : q_cc ρ5 t F (a + c.length + 1 + c2.length) [(409, ((k + c.length + 1 + c2.length + 1 + c3.length : Nat) : Int))] := by
    refine cc_1 ?_ ⟨fun z => absurd z (by decide), fun z => absurd z (by decide), fun _ => ?_⟩
    · rw [f7, (m1.2.2.2 (a + c.length + 1 + c2.length) (by omega)).1]; exact e7
    · rw [f9, hF]; omega
  have l1 : (c ++ [(404, ((k + c.length + 1 + c2.length + 1 : Nat) : Int))] ++ c2).length = c.length + 1 + c2.length := by simp only [List.length_append, List.length_cons, List.length_nil]
  refine ⟨?_, m3, cc_ap (cc_ap c_1 ?_) ?_⟩
  · refine Eq.mp (congrArg (q_st ρ5 b n t (p3 + 1)) ?_) s5
    simp only [List.length_append, List.length_cons, List.length_nil]; omega
  · rw [l1, show a + (c.length + 1 + c2.length) = a + c.length + 1 + c2.length by omega]; exact c_0
  · refine Eq.mp (congrArg (fun z => q_cc ρ5 t F z c3) ?_) c_3
    simp only [List.length_append, List.length_cons, List.length_nil]; omega
/-! what is asked -/
theorem cA_8 {b : Nat → Int} {n w t N p a : Nat} (ht : t < 4) (hN : 3 ≤ N) (hk : q_K b n p = 19) : q_Cl b n w t N mX6_readAsk 8 p a (q_cB b n t 3 p) := by
  intro D σ V K hD hV hs hw hK
  obtain ⟨d, rfl⟩ : ∃ d, D = d + 1 + 1 + 1 := ⟨D - 3, by omega⟩
  exact e_X6_readAsk (cr_isNext hs (fun q => ⟨fun z => absurd z z_10, fun _ => co_8 hs ht hV (fun ρ e => ⟨fun _ => hK ρ e, fun z => absurd rfl z⟩)⟩) (fun q => absurd hk q))
theorem cA_notB {b : Nat → Int} {n w t N o p a pf : Nat} {fl : Int32} (ht : t < 4) (hN : 1 ≤ N) (ho : o < 8) (hk : q_K b n p = 19) (h : q_Cl b n w t N mX6_readAsk (o + 1) (p + 1) a (q_cB b n t fl pf)) : q_Cl b n w t (N + 1) mX6_readAsk o p a (q_cB b n t fl pf) := by
  intro D σ V K hD hV hs hw hK
  obtain ⟨d, rfl⟩ : ∃ d, D = d + 1 + 1 := ⟨D - 2, by omega⟩
  have hp : p < n := K_lt (b := b) (n := n) (i := p) (by omega)
  have hn := hs.1.1
  exact e_X6_readAsk (cr_isNext hs (fun q => ⟨fun z => absurd z z_10, fun _ => co_ok hs ht (by omega) hV ho (fun ρ s k => ⟨fun z => absurd z z_10, fun _ => h (d + 1) ρ _ _ (by omega) (v_1 hV ho) s (kc_3 k hw) (fun π e => ⟨fa_ref (cB_a e s ht), fa_ask1 (cB_k k e) (cB_a e s ht) (fun π' e' _ => hK π' e')⟩)⟩)⟩) (fun q => absurd hk q))
theorem cA_notG {b : Nat → Int} {n w t F N o p a p1 : Nat} {c : q_co} (ht : t < 4) (hN : 1 ≤ N) (ho : o < 8) (ha : a + c.length < 300) (hk : q_K b n p = 19) (h : q_Cl b n w t N mX6_readAsk (o + 1) (p + 1) a (q_cG b n t F a p1 c)) : q_Cl b n w t (N + 1) mX6_readAsk o p a (q_cG b n t F a p1 (c ++ [(405, 0)])) := by
  intro D σ V K hD hV hs hw hK
  obtain ⟨d, rfl⟩ : ∃ d, D = d + 1 + 1 := ⟨D - 2, by omega⟩
  have hp : p < n := K_lt (b := b) (n := n) (i := p) (by omega)
  have hn := hs.1.1
  exact e_X6_readAsk (cr_isNext hs (fun q => ⟨fun z => absurd z z_10, fun _ => co_ok hs ht (by omega) hV ho (fun ρ s k => ⟨fun z => absurd z z_10, fun _ => h (d + 1) ρ _ _ (by omega) (v_1 hV ho) s (kc_3 k hw) (fun π e => ⟨kc_ref e.1 ht, cG_ask e ht ha (op := 405) (by decide) (by unfold q_gz; decide) (fun π' e' => hK π' (Es_G (by omega) σ ρ π' k e'))⟩)⟩)⟩) (fun q => absurd hk q))
theorem cA_B1 {b : Nat → Int} {n w t N o p a pf : Nat} {fl : Int32} (ht : t < 4) (hN : 1 ≤ N) (hk : ¬ q_K b n p = 19) (h : q_Cl b n w t N mX6_readSum o p a (q_cB b n t fl pf)) : q_Cl b n w t (N + 1) mX6_readAsk o p a (q_cB b n t fl pf) := by
  intro D σ V K hD hV hs hw hK
  obtain ⟨d, rfl⟩ : ∃ d, D = d + 1 + 1 := ⟨D - 2, by omega⟩
  refine e_X6_readAsk (cr_isNext hs (fun q => absurd q hk) (fun q => ⟨fun _ => h (d + 1) σ V _ (by omega) hV hs hw (fun π e => ?_), fun z => absurd rfl z⟩))
  have fa := cB_a e hs ht
  exact fa_kindAt (fun u => fa_compares (fun u2 => ⟨fun _ => ⟨fun _ => hK π e, fun z => absurd z fa.2.1⟩, fun _ => fa_refuse fa (hK π e)⟩))
def q_cp (k : Int) : Prop := (32 ≤ k ∧ k ≤ 35) ∨ k = 43 ∨ k = 44
theorem cr_compares {d : Nat} {u : Int32} {σ : x_T} {K : x_T → Int32 → Prop} (h1 : q_cp u.toInt → K σ 1) (h0 : ¬ q_cp u.toInt → K σ 0) : x_CI d mX6_compares [.int u] σ K := by
  unfold q_cp at h1 h0
  have t : (u < 32 ∨ ¬ u ≤ 35) → x_WI d mX6_compares K 12 [(0, .int u)] [] σ := fun z => k_X6_compares_12 ⟨fun q => h1 (by rw [z_eq] at q; exact Or.inr (Or.inl q)), fun q => ⟨fun q2 => h0 (by rw [z_eq] at q q2; rw [z_lt, z_le] at z; simp only [Int32.reduceToInt] at *; omega), fun q2 => h1 (by rw [z_eq] at q2; exact Or.inr (Or.inr q2))⟩⟩
  exact e_X6_compares ⟨fun q => t (Or.inl q), fun q => ⟨fun q2 => h1 (by rw [z_lt] at q; rw [z_le] at q2; simp only [Int32.reduceToInt] at *; omega), fun q2 => t (Or.inr q2)⟩⟩
theorem cA_C {b : Nat → Int} {n w t F N o p a p1 : Nat} {c : q_co} (ht : t < 4) (hN : 1 ≤ N) (hk : ¬ q_K b n p = 19) (hk1 : ¬ q_cp (q_K b n p1)) (h : q_Cl b n w t N mX6_readSum o p a (q_cG b n t F a p1 c)) : q_Cl b n w t (N + 1) mX6_readAsk o p a (q_cB b n t 1 p1) := by
  intro D σ V K hD hV hs hw hK
  obtain ⟨d, rfl⟩ : ∃ d, D = d + 1 + 1 := ⟨D - 2, by omega⟩
  refine e_X6_readAsk (cr_isNext hs (fun q => absurd q hk) (fun q => ⟨fun _ => h (d + 1) σ V _ (by omega) hV hs hw (fun ρ g => cl_kindAt g.1.1 g.1.2.2.1 (fun u hu => cr_compares (fun z => absurd (by rw [← hu]; exact z) hk1) (fun z => ⟨fun z2 => absurd rfl z2, fun _ => cr_refuse g.1 ht (fun π f e1 e2 => hK π (cB_k g.2.1 ⟨f, e1, by decide, e2⟩))⟩))), fun z => absurd rfl z⟩))
theorem cA_2 {b : Nat → Int} {n w t F N o p a p1 d : Nat} {c : q_co} {σ : x_T} {V : Int32} {K : x_T → Prop} (ht : t < 4) (hk : ¬ q_K b n p = 19) (hk1 : q_cp (q_K b n p1)) (hd : N ≤ d + 1) (hV : V.toInt = o) (hs : q_st σ b n t p a) (hw : (σ.1 319 3).toInt = w) (h : q_Cl b n w t N mX6_readSum o p a (q_cG b n t F a p1 c)) (g : ∀ (ρ ρ1 : x_T) (a6 : Int32), q_cG b n t F a p1 c σ ρ → q_st ρ1 b n t (p1 + 1) (a + c.length) → q_kc ρ ρ1 t 1000 → a6.toInt = q_K b n p1 → x_CV (d + 1) mX6_readSum [.ref 319, .int V] ρ1 (fun t10 => x_sh t10.2.2.1 = (9, 10) ∧ (x_CI (d + 1) mX9_ask [.ref t10.2.2.1, .int a6, .int 0] t10 (fun t13 _ => K t13)))) : x_CV (d + 1 + 1) mX6_readAsk [.ref 319, .int V] σ K := by
  have hp : p1 < n := K_lt (b := b) (n := n) (i := p1) (by unfold q_cp at hk1; omega)
  have hn := hs.1.1
  refine e_X6_readAsk (cr_isNext hs (fun q => absurd q hk) (fun q => ⟨fun _ => h (d + 1) σ V _ hd hV hs hw (fun ρ e => cl_kindAt e.1.1 e.1.2.2.1 (fun u hu => cr_compares (fun z => ⟨fun _ => ⟨fun z2 => absurd (z_eq.mpr (by rw [e.1.2.2.2.1]; rfl)) z2, fun _ t9 e9 => ?_⟩, fun z2 => absurd z2 z_10⟩) (fun z => absurd (by rw [hu]; exact hk1) z))), fun z => absurd rfl z⟩))
  obtain ⟨s9, k9⟩ := st_adv ht e.1 (by omega) e9
  exact g ρ t9 u e s9 k9 hu
theorem cA_B2 {b : Nat → Int} {n w t F N o p a p1 pf : Nat} {fl : Int32} {c : q_co} (ht : t < 4) (hN : 1 ≤ N) (ha : a + c.length ≤ 300) (hk : ¬ q_K b n p = 19) (hk1 : q_cp (q_K b n p1)) (h : q_Cl b n w t N mX6_readSum o p a (q_cG b n t F a p1 c)) (h2 : q_Cl b n w t N mX6_readSum o (p1 + 1) (a + c.length) (q_cB b n t fl pf)) : q_Cl b n w t (N + 1) mX6_readAsk o p a (q_cB b n t fl pf) := by
  intro D σ V K hD hV hs hw hK
  obtain ⟨d, rfl⟩ : ∃ d, D = d + 1 + 1 := ⟨D - 2, by omega⟩
  refine cA_2 ht hk hk1 (by omega) hV hs hw h (fun ρ ρ1 a6 e s k _ => h2 (d + 1) ρ1 V _ (by omega) hV s (kc_3 k (kc_3 e.2.1 hw)) (fun π e2 => ?_))
  have fa := cB_a e2 s ht
  exact ⟨fa_ref fa, fa_ask1 (cB_k (kc_t e.2.1 k (by omega)) e2) fa (fun π' e' _ => hK π' e')⟩
theorem cA_G {b : Nat → Int} {n w t F N o p a p1 p2 : Nat} {op : Int} {c c2 : q_co} (ht : t < 4) (hN : 1 ≤ N) (ha : a + c.length + c2.length < 300) (hk : ¬ q_K b n p = 19) (hk1 : q_cp (q_K b n p1)) (ho : x_op op = q_K b n p1) (hz : q_gz op) (h : q_Cl b n w t N mX6_readSum o p a (q_cG b n t F a p1 c)) (h2 : q_Cl b n w t N mX6_readSum o (p1 + 1) (a + c.length) (q_cG b n t F (a + c.length) p2 c2)) : q_Cl b n w t (N + 1) mX6_readAsk o p a (q_cG b n t F a p2 (c ++ c2 ++ [(op, 0)])) := by
  intro D σ V K hD hV hs hw hK
  obtain ⟨d, rfl⟩ : ∃ d, D = d + 1 + 1 := ⟨D - 2, by omega⟩
  refine cA_2 ht hk hk1 (by omega) hV hs hw h (fun ρ ρ1 a6 e s k e6 => h2 (d + 1) ρ1 V _ (by omega) hV s (kc_3 k (kc_3 e.2.1 hw)) (fun π e2 => ?_))
  have g := cG_t e k (by omega) e2
  exact ⟨kc_ref e2.1 ht, cG_ask g ht (by rw [List.length_append]; omega) (by rw [e6, ho]) hz (fun π' e' => hK π' e')⟩
