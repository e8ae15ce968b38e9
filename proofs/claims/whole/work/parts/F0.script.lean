/-! what was read so far, on the class's side -/
abbrev q_se : Type := Nat × Nat × Nat × q_co × Int × Int × Int
def q_c1 (σ : x_T) (t k : Nat) (e : q_se) : Prop := (σ.1 (140 + 9 * t + 1) k).toInt = e.1 ∧ (e.1 = 4 ∨ e.1 = 5 ∨ e.1 = 6 ∨ e.1 = 7 ∨ e.1 = 10 → (σ.1 (140 + 9 * t + 2) k).toInt = e.2.2.2.2.1) ∧ (e.1 = 5 ∨ e.1 = 7 → (σ.1 (140 + 9 * t + 3) k).toInt = e.2.2.2.2.2.1) ∧ (e.1 = 5 → (σ.1 (140 + 9 * t + 4) k).toInt = e.2.2.2.2.2.2) ∧ (e.1 < 4 → (σ.1 (140 + 9 * t + 5) e.1).toInt = e.2.1 ∧ (σ.1 (140 + 9 * t + 6) e.1).toInt = (e.2.1 + e.2.2.2.1.length : Nat) ∧ q_cc σ t e.2.1 e.2.1 e.2.2.2.1)
def q_cS (σ : x_T) (t : Nat) (S : List q_se) : Prop := (σ.1 (140 + 9 * t) 4).toInt = S.length ∧ (∀ k e, S[k]? = some e → q_c1 σ t k e) ∧ ∀ w, w < 4 → (∀ (k : Nat) (e : q_se), S[k]? = some e → ¬ e.1 = w) → (σ.1 (140 + 9 * t + 6) w).toInt ≤ (σ.1 (140 + 9 * t + 5) w).toInt
def q_v1 (L m : Nat) (e : q_se) : Prop := e.1 ≤ 10 ∧ (e.1 = 10 → 1 ≤ e.2.2.2.2.1 ∧ e.2.2.2.2.1 ≤ 60) ∧ e.2.2.1 < m ∧ (e.1 < 4 → 1 ≤ e.2.2.2.1.length ∧ e.2.1 + e.2.2.2.1.length ≤ L ∧ e.2.2.1 + e.2.2.2.1.length < m ∧ q_ty e.1 0 e.2.2.2.1 false 43)
def q_vS (S : List q_se) (L m : Nat) : Prop := S.length ≤ 24 ∧ (∀ (k : Nat) (e : q_se), S[k]? = some e → q_v1 L m e) ∧ ∀ (k k' : Nat) (e e' : q_se), S[k]? = some e → S[k']? = some e' → e.1 < 4 → e.1 = e'.1 → k = k'
def q_kC (σ ρ : x_T) (t j L W : Nat) : Prop := x_fr (q_sR t) σ ρ ∧ (∀ i, i < j → ∀ c, 1 ≤ c → c ≤ 4 → ρ.1 (140 + 9 * t + c) i = σ.1 (140 + 9 * t + c) i) ∧ (∀ i, ¬ i = W → ρ.1 (140 + 9 * t + 5) i = σ.1 (140 + 9 * t + 5) i ∧ ρ.1 (140 + 9 * t + 6) i = σ.1 (140 + 9 * t + 6) i) ∧ ∀ i, i < L → ρ.1 (140 + 9 * t + 7) i = σ.1 (140 + 9 * t + 7) i ∧ ρ.1 (140 + 9 * t + 8) i = σ.1 (140 + 9 * t + 8) i
theorem kC_t {σ ρ π : x_T} {t j L W : Nat} (h : q_kC σ ρ t j L W) (g : q_kC ρ π t j L W) : q_kC σ π t j L W := ⟨fr_t h.1 g.1, fun i hi c a b => (g.2.1 i hi c a b).trans (h.2.1 i hi c a b), fun i hi => ⟨(g.2.2.1 i hi).1.trans (h.2.2.1 i hi).1, (g.2.2.1 i hi).2.trans (h.2.2.1 i hi).2⟩, fun i hi => ⟨(g.2.2.2 i hi).1.trans (h.2.2.2 i hi).1, (g.2.2.2 i hi).2.trans (h.2.2.2 i hi).2⟩⟩
theorem kC_c {σ ρ : x_T} {t j L W m : Nat} (h : q_kc σ ρ t m) (hm : L ≤ m) : q_kC σ ρ t j L W := ⟨kc_sR h, fun i _ c a b => by rw [h.1.1 _ (by omega)], fun i _ => ⟨by rw [h.1.1 _ (by omega)], by rw [h.1.1 _ (by omega)]⟩, fun i hi => h.2.2.2 i (by omega)⟩
theorem kC_a {σ ρ : x_T} {t j L W : Nat} (h : q_ka σ ρ t j) : q_kC σ ρ t j L W := ⟨fr_m (fun c hc => by unfold q_sR; omega) h.1, fun i hi c a b => h.2.2 i hi c a b, fun i _ => ⟨by rw [h.1.1 _ (by omega)], by rw [h.1.1 _ (by omega)]⟩, fun i _ => ⟨by rw [h.1.1 _ (by omega)], by rw [h.1.1 _ (by omega)]⟩⟩
theorem kC_l {σ ρ : x_T} {t j L W : Nat} (h : x_fr (fun c => c = 140 + 9 * t + 5 ∨ c = 140 + 9 * t + 6) σ ρ) (h2 : ∀ i, ¬ i = W → ρ.1 (140 + 9 * t + 5) i = σ.1 (140 + 9 * t + 5) i ∧ ρ.1 (140 + 9 * t + 6) i = σ.1 (140 + 9 * t + 6) i) : q_kC σ ρ t j L W := ⟨fr_m (fun c hc => by unfold q_sR; omega) h, fun i _ c a b => by rw [h.1 _ (by omega)], h2, fun i _ => ⟨by rw [h.1 _ (by omega)], by rw [h.1 _ (by omega)]⟩⟩
theorem cc_C {σ ρ : x_T} {t j L W F : Nat} {c : q_co} (h : q_cc σ t F F c) (g : q_kC σ ρ t j L W) (hL : F + c.length ≤ L) : q_cc ρ t F F c := by
  intro i x hx
  have hi := co_lt hx
  obtain ⟨g1, g2⟩ := g.2.2.2 (F + i) (by omega)
  rw [g1, g2]
  exact h i x hx
theorem ap_i {S : List q_se} {e e' : q_se} {k : Nat} (h : (S ++ [e])[k]? = some e') : (k < S.length ∧ S[k]? = some e') ∨ (k = S.length ∧ e' = e) := by
  by_cases q : k < S.length
  · rw [List.getElem?_append_left q] at h; exact Or.inl ⟨q, h⟩
  · rw [List.getElem?_append_right (by omega)] at h
    have hl := (List.getElem?_eq_some_iff.mp h).1
    simp at hl
    have e0 : k - S.length = 0 := by omega
    rw [e0] at h
    simp at h
    exact Or.inr ⟨by omega, h.symm⟩
theorem cS_ap {σ ρ : x_T} {t L m W : Nat} {S : List q_se} {e : q_se} (h : q_cS σ t S) (hv : q_vS S L m) (g : q_kC σ ρ t S.length L W) (hW : ∀ (k : Nat) (e' : q_se), S[k]? = some e' → e'.1 < 4 → ¬ e'.1 = W) (hn : (ρ.1 (140 + 9 * t) 4).toInt = (S.length + 1 : Nat)) (he : q_c1 ρ t S.length e) (hWe : W < 4 → e.1 = W) : q_cS ρ t (S ++ [e]) := by
  obtain ⟨h1, h2, h3⟩ := h
  refine ⟨by rw [hn, List.length_append]; rfl, fun k e' hk => ?_, fun w hw hno => ?_⟩
  · rcases ap_i hk with ⟨q, hk'⟩ | ⟨rfl, rfl⟩
    · obtain ⟨c1, c2, c3, c4, c5⟩ := h2 k e' hk'
      refine ⟨?_, fun z => ?_, fun z => ?_, fun z => ?_, fun z => ?_⟩
      · rw [g.2.1 k q 1 (by omega) (by omega)]; exact c1
      · rw [g.2.1 k q 2 (by omega) (by omega)]; exact c2 z
      · rw [g.2.1 k q 3 (by omega) (by omega)]; exact c3 z
      · rw [g.2.1 k q 4 (by omega) (by omega)]; exact c4 z
      · obtain ⟨d1, d2, d3⟩ := c5 z
        obtain ⟨g5, g6⟩ := g.2.2.1 e'.1 (hW k e' hk' z)
        refine ⟨by rw [g5]; exact d1, by rw [g6]; exact d2, cc_C d3 g ((hv.2.1 k e' hk').2.2.2 z).2.1⟩
    · exact he
  · have n1 : ¬ w = W := fun z => by
      refine hno S.length e (by rw [List.getElem?_append_right (Nat.le_refl _)]; simp) ?_
      rw [z]; exact hWe (by omega)
    obtain ⟨g5, g6⟩ := g.2.2.1 w n1
    rw [g5, g6]
    refine h3 w hw (fun k e' hk => hno k e' ?_)
    rw [List.getElem?_append_left (List.getElem?_eq_some_iff.mp hk).1]
    exact hk
/-! readClause -/
def q_cC (b : Nat → Int) (n t p L : Nat) (S : List q_se) (E : x_T → x_T → Prop) : Prop := ∀ (D : Nat) (σ : x_T) (K : x_T → Prop), 70 ≤ D → q_st σ b n t p L → q_cS σ t S → (∀ ρ, E σ ρ → K ρ) → x_CV D mX6_readClause [.ref 319] σ K
def q_gC (b : Nat → Int) (n t p L : Nat) (S : List q_se) (σ ρ : x_T) : Prop := q_st ρ b n t p L ∧ (x_fr (q_sR t) σ ρ ∧ ρ.1 319 5 = σ.1 319 5) ∧ q_cS ρ t S
theorem cC_1 {b : Nat → Int} {n t p L : Nat} {S : List q_se} (ht : t < 4) (hk : ¬ q_K b n p ≤ 10) : q_cC b n t p L S (q_cB b n t 1 p) := by
  intro D σ K hD hs hS hK
  obtain ⟨d, rfl⟩ : ∃ d, D = d + 1 + 1 := ⟨D - 2, by omega⟩
  refine e_X6_readClause (cl_kindAt hs.1 hs.2.2.1 (fun u hu => ⟨fun q => ?_, fun _ => cr_refuse hs ht (fun ρ f e1 e2 => hK ρ ⟨f, e1, by decide, e2⟩)⟩))
  rw [z_le, hu] at q; exact absurd q hk
theorem cC_4 {b : Nat → Int} {n t p L m w k : Nat} {S : List q_se} {e : q_se} (ht : t < 4) (hk : q_K b n p = w) (hw : w < 4) (hv : q_vS S L m) (he : S[k]? = some e) (hew : e.1 = w) : q_cC b n t p L S (q_cB b n t 4 p) := by
  intro D σ K hD hs hS hK
  obtain ⟨d, rfl⟩ : ∃ d, D = d + 1 + 1 := ⟨D - 2, by omega⟩
  have hs9 : x_sh (140 + 9 * t) = (9, 10) := shd_140 ht
  have h1 := (hS.2.1 k e he).2.2.2.2 (by omega)
  have h2 := (hv.2.1 k e he).2.2.2 (by omega)
  rw [hew] at h1
  refine e_X6_readClause (cl_kindAt hs.1 hs.2.2.1 (fun u hu => ⟨fun _ => ⟨kc_ref hs ht, ?_⟩, fun q => ?_⟩))
  · rw [hs.2.1]
    have cu : u.toNatClampNeg = w := by rw [z_cl, hu, hk]; omega
    refine e_X9_hasLaw hs9 ⟨fun q => ?_, fun _ => ⟨fun q => ?_, fun _ => ⟨ix_n (by omega), ix_n (by omega), fun q => ?_, fun q => ⟨fun z => absurd z z_10, fun _ => cr_refuse hs ht (fun ρ f e1 e2 => hK ρ ⟨f, e1, by decide, e2⟩)⟩⟩⟩⟩
    · rw [z_lt, hu] at q; simp only [Int32.reduceToInt] at q; omega
    · rw [z_le, hu] at q; simp only [Int32.reduceToInt] at q; omega
    · rw [cu, z_le] at q; omega
  · rw [z_le, hu] at q; simp only [Int32.reduceToInt] at q; omega
/-- a clause that may be read -/
theorem cC_at {b : Nat → Int} {n t p L w d : Nat} {S : List q_se} {σ : x_T} {K : x_T → Prop} (ht : t < 4) (hs : q_st σ b n t p L) (hS : q_cS σ t S) (hk : q_K b n p = w) (hw : w ≤ 10) (hno : w < 4 → ∀ (k : Nat) (e : q_se), S[k]? = some e → ¬ e.1 = w) (h1 : S.length < 24 → ∀ (a2 : Int32) (t7 : x_T), a2.toInt = w → q_st t7 b n t (p + 1) L → q_kc σ t7 t 1000 → ((4 ≤ a2 → x_CV (d + 1) mX6_readDeed [.ref 319, .int a2] t7 (fun t8 => x_WV (d + 1 + 1) mX6_readClause K 127 [(0, .ref 319)] [] t8)) ∧ (¬ 4 ≤ a2 → x_sh t7.2.2.1 = (9, 10) ∧ (∀ y11, y11 = t7.1 t7.2.2.1 9 → (∀ t12, t12 = x_w1 t7 319 3 a2 → (x_CV (d + 1) mX6_readSum [.ref 319, .int 0] t12 (fun t13 => x_sh t13.2.2.1 = (9, 10) ∧ (x_CV (d + 1) mX9_setLaw [.ref t13.2.2.1, .int a2, .int y11] t13 (fun t16 => x_sh t16.2.2.1 = (9, 10) ∧ (x_CV (d + 1) mX9_addClause [.ref t16.2.2.1, .int a2, .int 0, .int 0, .int 0] t16 (fun t19 => x_WV (d + 1 + 1) mX6_readClause K 127 [(0, .ref 319)] [] t19))))))))))) (h6 : ¬ S.length < 24 → ∀ ρ, q_cB b n t 6 p σ ρ → K ρ) : x_CV (d + 1 + 1) mX6_readClause [.ref 319] σ K := by
  have hp : p < n := K_lt (b := b) (n := n) (i := p) (by omega)
  have hn := hs.1.1
  have hs9 : x_sh (140 + 9 * t) = (9, 10) := shd_140 ht
  refine e_X6_readClause (cl_kindAt hs.1 hs.2.2.1 (fun u hu => ⟨fun _ => ⟨kc_ref hs ht, ?_⟩, fun q => ?_⟩))
  · have go : x_sh σ.2.2.1 = (9, 10) ∧ ((σ.1 σ.2.2.1 4 < 24 → ∀ t7, t7 = x_w1 σ 319 2 ((σ.1 319 2) + 1) → ((4 ≤ u → x_CV (d + 1) mX6_readDeed [.ref 319, .int u] t7 (fun t8 => x_WV (d + 1 + 1) mX6_readClause K 127 [(0, .ref 319)] [] t8)) ∧ (¬ 4 ≤ u → x_sh t7.2.2.1 = (9, 10) ∧ (∀ y11, y11 = t7.1 t7.2.2.1 9 → (∀ t12, t12 = x_w1 t7 319 3 u → (x_CV (d + 1) mX6_readSum [.ref 319, .int 0] t12 (fun t13 => x_sh t13.2.2.1 = (9, 10) ∧ (x_CV (d + 1) mX9_setLaw [.ref t13.2.2.1, .int u, .int y11] t13 (fun t16 => x_sh t16.2.2.1 = (9, 10) ∧ (x_CV (d + 1) mX9_addClause [.ref t16.2.2.1, .int u, .int 0, .int 0, .int 0] t16 (fun t19 => x_WV (d + 1 + 1) mX6_readClause K 127 [(0, .ref 319)] [] t19))))))))))) ∧ (¬ σ.1 σ.2.2.1 4 < 24 → x_CV (d + 1) mX6_refuse [.ref 319, .int 6] σ (fun t21 => K t21))) := by
      refine ⟨kc_ref hs ht, fun q t7 e7 => ?_, fun q => cr_refuse hs ht (fun ρ f e1 e2 => h6 ?_ ρ ⟨f, e1, by decide, e2⟩)⟩
      · rw [hs.2.1, z_lt, hS.1] at q
        obtain ⟨a1, a2⟩ := st_adv ht hs (by omega) e7
        exact h1 (by simp only [Int32.reduceToInt] at q; omega) u t7 (hu.trans hk) a1 a2
      · rw [hs.2.1, z_lt, hS.1] at q
        simp only [Int32.reduceToInt] at q; omega
    have cu : u.toNatClampNeg = w := by rw [z_cl, hu, hk]; omega
    have e0 : x_CI (d + 1) mX9_hasLaw [.ref (140 + 9 * t), .int u] σ (fun t4 a5 => t4 = σ ∧ a5 = 0) := by
      refine e_X9_hasLaw hs9 ⟨fun q => ⟨rfl, rfl⟩, fun _ => ⟨fun q => ⟨rfl, rfl⟩, fun q => ?_⟩⟩
      rw [z_le, hu, hk] at q
      simp only [Int32.reduceToInt] at q
      refine ⟨ix_n (by omega), ix_n (by omega), fun _ => ⟨rfl, rfl⟩, fun q2 => ?_⟩
      rw [cu, z_le] at q2
      exact absurd (hS.2.2 w (by omega) (hno (by omega))) q2
    rw [hs.2.1]
    refine e_X9_hasLaw hs9 ⟨fun q => ⟨fun _ => go, fun z => absurd rfl z⟩, fun _ => ⟨fun q => ⟨fun _ => go, fun z => absurd rfl z⟩, fun q => ?_⟩⟩
    rw [z_le, hu, hk] at q
    simp only [Int32.reduceToInt] at q
    refine ⟨ix_n (by omega), ix_n (by omega), fun _ => ⟨fun _ => go, fun z => absurd rfl z⟩, fun q2 => ?_⟩
    rw [cu, z_le] at q2
    exact absurd (hS.2.2 w (by omega) (hno (by omega))) q2
  · rw [z_le, hu, hk] at q; simp only [Int32.reduceToInt] at q; omega
theorem cC_6 {b : Nat → Int} {n t p L w : Nat} {S : List q_se} (ht : t < 4) (hk : q_K b n p = w) (hw : w ≤ 10) (hno : w < 4 → ∀ (k : Nat) (e : q_se), S[k]? = some e → ¬ e.1 = w) (h24 : ¬ S.length < 24) : q_cC b n t p L S (q_cB b n t 6 p) := by
  intro D σ K hD hs hS hK
  obtain ⟨d, rfl⟩ : ∃ d, D = d + 1 + 1 := ⟨D - 2, by omega⟩
  exact cC_at ht hs hS hk hw hno (fun q => absurd q h24) (fun _ ρ e => hK ρ e)
