/-! the class reads a law: outcomes, and the four loops -/
def q_cB (b : Nat → Int) (n t : Nat) (fl : Int32) (pf : Nat) (σ ρ : x_T) : Prop := x_fr (q_sR t) σ ρ ∧ ρ.1 319 4 = fl ∧ 0 < fl.toInt ∧ (ρ.1 319 5).toInt = q_tp b n pf
def q_cG (b : Nat → Int) (n t F a p : Nat) (c : q_co) (σ ρ : x_T) : Prop := q_st ρ b n t p (a + c.length) ∧ q_kc σ ρ t a ∧ q_cc ρ t F a c
def q_Cl (b : Nat → Int) (n w t N : Nat) (μ : x_M) (o p a : Nat) (E : x_T → x_T → Prop) : Prop := ∀ (D : Nat) (σ : x_T) (V : Int32) (K : x_T → Prop), N ≤ D → V.toInt = o → q_st σ b n t p a → (σ.1 319 3).toInt = w → (∀ ρ, E σ ρ → K ρ) → x_CV D μ [.ref 319, .int V] σ K
def q_Ch (b : Nat → Int) (n w t F N : Nat) (μ : x_M) (o p a : Nat) (c : q_co) (E : x_T → x_T → Prop) : Prop := ∀ (D : Nat) (σ ρ : x_T) (V v2 : Int32) (K : x_T → Prop), N ≤ D → V.toInt = o → q_cG b n t F a p c σ ρ → (ρ.1 319 3).toInt = w → 0 ≤ v2.toInt → v2.toInt ≤ p → (∀ π, E σ π → K π) → x_WV D μ K 7 [(0, .ref 319), (1, .int V), (2, .int v2)] [] ρ
theorem cB_a {b : Nat → Int} {n t pf p a : Nat} {fl : Int32} {σ ρ : x_T} (h : q_cB b n t fl pf σ ρ) (hs : q_st σ b n t p a) (ht : t < 4) : q_fa t ρ := ⟨by rw [h.1.2]; exact hs.2.1, by rw [h.2.1]; intro z; have := h.2.2.1; rw [z] at this; exact absurd this (by decide), ht⟩
theorem cB_f {b : Nat → Int} {n t pf : Nat} {fl : Int32} {σ ρ π : x_T} (h : q_cB b n t fl pf σ ρ) (g : q_ff t ρ π) : q_cB b n t fl pf σ π := ⟨fr_t h.1 g.1, g.2.1.trans h.2.1, h.2.2.1, by rw [g.2.2]; exact h.2.2.2⟩
theorem cB_k {b : Nat → Int} {n t pf m : Nat} {fl : Int32} {σ ρ π : x_T} (k : q_kc σ ρ t m) (h : q_cB b n t fl pf ρ π) : q_cB b n t fl pf σ π := ⟨fr_t (kc_sR k) h.1, h.2.1, h.2.2.1, h.2.2.2⟩
theorem kc_3 {σ ρ : x_T} {t m w : Nat} (k : q_kc σ ρ t m) (h : (σ.1 319 3).toInt = w) : (ρ.1 319 3).toInt = w := by rw [k.2.1 3 (by omega) (by omega) (by omega)]; exact h
theorem kc_le {σ ρ : x_T} {t m m' : Nat} (k : q_kc σ ρ t m) (h : m' ≤ m) : q_kc σ ρ t m' := kc_t (kc_r σ t m') k h
theorem kc_ref {σ : x_T} {b : Nat → Int} {n t p a : Nat} (h : q_st σ b n t p a) (ht : t < 4) : x_sh σ.2.2.1 = (9, 10) := by rw [h.2.1]; exact shd_140 ht
theorem fa_ref {σ : x_T} {t : Nat} (h : q_fa t σ) : x_sh σ.2.2.1 = (9, 10) := by rw [h.1]; exact shd_140 h.2.2
def q_gz (o : Int) : Prop := ¬ o = 400 ∧ ¬ o = 401 ∧ ¬ o = 404 ∧ ¬ o = 409
/-- a sign asked for behind its code -/
theorem cG_ask {d t F a p n : Nat} {v : Int32} {op : Int} {c : q_co} {σ ρ : x_T} {b : Nat → Int} {K : x_T → Prop} (h : q_cG b n t F a p c σ ρ) (ht : t < 4) (hm : a + c.length < 300) (hv : v.toInt = x_op op) (ho : q_gz op) (hK : ∀ π : x_T, q_cG b n t F a p (c ++ [(op, 0)]) σ π → K π) : x_CI d mX9_ask [.ref ρ.2.2.1, .int v, .int 0] ρ (fun π _ => K π) := by
  obtain ⟨h1, h2, h3⟩ := h
  rw [h1.2.1]
  refine cr_ask h1 ht hm (fun π u s k e1 e2 _ => hK π ⟨?_, kc_t h2 k (by omega), cc_ap (cc_k h3 k (Nat.le_refl _)) (cc_1 (by rw [e1]; exact hv) ⟨fun q => absurd q ho.1, fun q => absurd q ho.2.1, fun q => ?_⟩)⟩)
  · rw [List.length_append]; exact s
  · rcases q with q | q
    · exact absurd q ho.2.2.1
    · exact absurd q ho.2.2.2
theorem fa_ask1 {d t pf n : Nat} {v v2 fl : Int32} {σ ρ : x_T} {b : Nat → Int} {K : x_T → Prop} (h : q_cB b n t fl pf σ ρ) (g : q_fa t ρ) (hK : ∀ π : x_T, q_cB b n t fl pf σ π → q_fa t π → K π) : x_CI d mX9_ask [.ref ρ.2.2.1, .int v, .int v2] ρ (fun π _ => K π) := by
  rw [g.1]
  exact fa_ask g (fun π u k => hK π (cB_f h k) (fa_k g k))
theorem cG_t {t F a p p2 n : Nat} {c c2 : q_co} {σ ρ π : x_T} {b : Nat → Int} (h : q_cG b n t F a p c σ ρ) {ρ1 : x_T} (k : q_kc ρ ρ1 t 1000) (hm : a + c.length ≤ 1000) (g : q_cG b n t F (a + c.length) p2 c2 ρ1 π) : q_cG b n t F a p2 (c ++ c2) σ π := by
  obtain ⟨h1, h2, h3⟩ := h
  obtain ⟨g1, g2, g3⟩ := g
  have kk : q_kc ρ π t (a + c.length) := kc_t (kc_le k hm) g2 (Nat.le_refl _)
  exact ⟨by rw [List.length_append, ← Nat.add_assoc]; exact g1, kc_t h2 kk (by omega), cc_ap (cc_k h3 kk (Nat.le_refl _)) g3⟩
theorem cL_sum_bad {b : Nat → Int} {n w t N o p a pf : Nat} {fl : Int32} (ht : t < 4) (hN : 1 ≤ N) (h : q_Cl b n w t N mX6_readProduct o p a (q_cB b n t fl pf)) : q_Cl b n w t (N + 1) mX6_readSum o p a (q_cB b n t fl pf) := by
  intro D σ V K hD hV hs hw hK
  obtain ⟨d, rfl⟩ : ∃ d, D = d + 1 + 1 := ⟨D - 2, by omega⟩
  exact e_X6_readSum (h (d + 1) σ V _ (by omega) hV hs hw (fun ρ e => fa_sum7 (cB_a e hs ht) (hK ρ e)))
theorem cL_sum_first {b : Nat → Int} {n w t F N o p a p1 : Nat} {c1 : q_co} {E : x_T → x_T → Prop} (h : q_Cl b n w t N mX6_readProduct o p a (q_cG b n t F a p1 c1)) (g : q_Ch b n w t F (N + 1) mX6_readSum o p1 a c1 E) : q_Cl b n w t (N + 1) mX6_readSum o p a E := by
  intro D σ V K hD hV hs hw hK
  obtain ⟨d, rfl⟩ : ∃ d, D = d + 1 := ⟨D - 1, by omega⟩
  exact e_X6_readSum (h d σ V _ (by omega) hV hs hw (fun ρ e => g (d + 1) σ ρ V 0 K hD hV e (kc_3 e.2.1 hw) (by decide) (by simp only [Int32.reduceToInt]; omega) hK))
theorem cL_sum_end {b : Nat → Int} {n w t F N o p1 a : Nat} {c1 : q_co} (hN : 2 ≤ N) (q1 : ¬ q_K b n p1 = 36) (q2 : ¬ q_K b n p1 = 37) : q_Ch b n w t F N mX6_readSum o p1 a c1 (q_cG b n t F a p1 c1) := by
  intro D σ ρ V v2 K hD hV h hw hv0 hv hK
  obtain ⟨d, rfl⟩ : ∃ d, D = d + 1 + 1 := ⟨D - 2, by omega⟩
  exact k_X6_readSum_7 ⟨fun _ => hK ρ h, fun _ => cr_isNext h.1 (fun q => absurd q q1) (fun _ => ⟨fun z => absurd rfl z, fun _ => cr_isNext h.1 (fun q => absurd q q2) (fun _ => ⟨fun _ => hK ρ h, fun z => absurd rfl z⟩)⟩)⟩
theorem cL_sum_to {b : Nat → Int} {n t F d p1 a : Nat} {c1 : q_co} {σ ρ : x_T} {V v2 : Int32} {K : x_T → Prop} (q1 : q_K b n p1 = 36 ∨ q_K b n p1 = 37) (h : q_cG b n t F a p1 c1 σ ρ) (hv : v2.toInt ≤ p1) (g : x_WV (d + 1 + 1) mX6_readSum K 32 [(0, .ref 319), (1, .int V), (2, .int v2)] [] ρ) : x_WV (d + 1 + 1) mX6_readSum K 7 [(0, .ref 319), (1, .int V), (2, .int v2)] [] ρ := by
  have hp : p1 < n := K_lt (b := b) (n := n) (i := p1) (by omega)
  have hn := h.1.1.1
  refine k_X6_readSum_7 ⟨fun q => ?_, fun _ => cr_isNext h.1 (fun q => ⟨fun _ => g, fun z => absurd z z_10⟩) (fun q => ⟨fun z => absurd rfl z, fun _ => cr_isNext h.1 (fun q => ⟨fun z => absurd z z_10, fun _ => g⟩) (fun q' => ?_)⟩)⟩
  · rw [z_le] at q; simp only [Int32.reduceToInt] at q; omega
  · simp only [Int32.reduceToInt] at q q'; omega
theorem cL_sum_bad2 {b : Nat → Int} {n w t F N o p1 a pf : Nat} {c1 : q_co} {fl : Int32} (ht : t < 4) (hN : 1 ≤ N) (ha : a + c1.length ≤ 300) (q1 : q_K b n p1 = 36 ∨ q_K b n p1 = 37) (h : q_Cl b n w t N mX6_readProduct o (p1 + 1) (a + c1.length) (q_cB b n t fl pf)) : q_Ch b n w t F (N + 1) mX6_readSum o p1 a c1 (q_cB b n t fl pf) := by
  intro D σ ρ V v2 K hD hV hG hw hv0 hv hK
  have hp : p1 < n := K_lt (b := b) (n := n) (i := p1) (by omega)
  have hn := hG.1.1.1
  obtain ⟨d, rfl⟩ : ∃ d, D = d + 1 + 1 := ⟨D - 2, by omega⟩
  refine cL_sum_to q1 hG hv (k_X6_readSum_32 (cl_kindAt hG.1.1 hG.1.2.2.1 (fun u hu t3 e3 => ?_)))
  obtain ⟨s3, k3⟩ := st_adv ht hG.1 (by omega) e3
  refine h (d + 1) t3 V _ (by omega) hV s3 (kc_3 k3 hw) (fun π e => ?_)
  have fa := cB_a e s3 ht
  exact ⟨fa_ref fa, fa_ask1 (cB_k (kc_t hG.2.1 k3 (by omega)) e) fa (fun π' e' fa' y9 e9 => fa_sum7 fa' (hK π' e'))⟩
theorem cL_sum_go {b : Nat → Int} {n w t F N o p1 p2 a kc : Nat} {op : Int} {c1 c2 : q_co} {E : x_T → x_T → Prop} (ht : t < 4) (hN : 1 ≤ N) (ha : a + c1.length + c2.length < 300) (hp2 : p1 < p2) (q1 : q_K b n p1 = kc) (hk : kc = 36 ∨ kc = 37) (ho : x_op op = kc) (hz : q_gz op) (h : q_Cl b n w t N mX6_readProduct o (p1 + 1) (a + c1.length) (q_cG b n t F (a + c1.length) p2 c2)) (g : q_Ch b n w t F (N + 1) mX6_readSum o p2 a (c1 ++ c2 ++ [(op, 0)]) E) : q_Ch b n w t F (N + 1) mX6_readSum o p1 a c1 E := by
  intro D σ ρ V v2 K hD hV hG hw hv0 hv hK
  have hp : p1 < n := K_lt (b := b) (n := n) (i := p1) (by omega)
  have hn := hG.1.1.1
  obtain ⟨d, rfl⟩ : ∃ d, D = d + 1 + 1 := ⟨D - 2, by omega⟩
  refine cL_sum_to (by omega) hG hv (k_X6_readSum_32 (cl_kindAt hG.1.1 hG.1.2.2.1 (fun u hu t3 e3 => ?_)))
  obtain ⟨s3, k3⟩ := st_adv ht hG.1 (by omega) e3
  refine h (d + 1) t3 V _ (by omega) hV s3 (kc_3 k3 hw) (fun π e => ?_)
  have hG2 := cG_t hG k3 (by omega) e
  refine ⟨kc_ref e.1 ht, cG_ask hG2 ht (by rw [List.length_append]; omega) (by rw [hu, q1, ho]) hz (fun π' e' y9 e9 => ?_)⟩
  have ey : y9.toInt = v2.toInt + 1 := by rw [e9, z_add (by simp only [Int32.reduceToInt]; omega)]; rfl
  exact g (d + 1 + 1) σ π' V y9 K hD hV e' (kc_3 e'.2.1 (by rw [← hG.2.1.2.1 3 (by omega) (by omega) (by omega)]; exact hw)) (by omega) (by omega) hK
theorem cL_prod_bad {b : Nat → Int} {n w t N o p a pf : Nat} {fl : Int32} (ht : t < 4) (hN : 1 ≤ N) (h : q_Cl b n w t N mX6_readOne o p a (q_cB b n t fl pf)) : q_Cl b n w t (N + 1) mX6_readProduct o p a (q_cB b n t fl pf) := by
  intro D σ V K hD hV hs hw hK
  obtain ⟨d, rfl⟩ : ∃ d, D = d + 1 + 1 := ⟨D - 2, by omega⟩
  exact e_X6_readProduct (h (d + 1) σ V _ (by omega) hV hs hw (fun ρ e => fa_prod7 (cB_a e hs ht) (hK ρ e)))
theorem cL_prod_first {b : Nat → Int} {n w t F N o p a p1 : Nat} {c1 : q_co} {E : x_T → x_T → Prop} (h : q_Cl b n w t N mX6_readOne o p a (q_cG b n t F a p1 c1)) (g : q_Ch b n w t F (N + 1) mX6_readProduct o p1 a c1 E) : q_Cl b n w t (N + 1) mX6_readProduct o p a E := by
  intro D σ V K hD hV hs hw hK
  obtain ⟨d, rfl⟩ : ∃ d, D = d + 1 := ⟨D - 1, by omega⟩
  exact e_X6_readProduct (h d σ V _ (by omega) hV hs hw (fun ρ e => g (d + 1) σ ρ V 0 K hD hV e (kc_3 e.2.1 hw) (by decide) (by simp only [Int32.reduceToInt]; omega) hK))
theorem cL_prod_end {b : Nat → Int} {n w t F N o p1 a : Nat} {c1 : q_co} (hN : 2 ≤ N) (q1 : ¬ q_K b n p1 = 38) (q2 : ¬ q_K b n p1 = 39) : q_Ch b n w t F N mX6_readProduct o p1 a c1 (q_cG b n t F a p1 c1) := by
  intro D σ ρ V v2 K hD hV h hw hv0 hv hK
  obtain ⟨d, rfl⟩ : ∃ d, D = d + 1 + 1 := ⟨D - 2, by omega⟩
  exact k_X6_readProduct_7 ⟨fun _ => hK ρ h, fun _ => cr_isNext h.1 (fun q => absurd q q1) (fun _ => ⟨fun z => absurd rfl z, fun _ => cr_isNext h.1 (fun q => absurd q q2) (fun _ => ⟨fun _ => hK ρ h, fun z => absurd rfl z⟩)⟩)⟩
theorem cL_prod_to {b : Nat → Int} {n t F d p1 a : Nat} {c1 : q_co} {σ ρ : x_T} {V v2 : Int32} {K : x_T → Prop} (q1 : q_K b n p1 = 38 ∨ q_K b n p1 = 39) (h : q_cG b n t F a p1 c1 σ ρ) (hv : v2.toInt ≤ p1) (g : x_WV (d + 1 + 1) mX6_readProduct K 32 [(0, .ref 319), (1, .int V), (2, .int v2)] [] ρ) : x_WV (d + 1 + 1) mX6_readProduct K 7 [(0, .ref 319), (1, .int V), (2, .int v2)] [] ρ := by
  have hp : p1 < n := K_lt (b := b) (n := n) (i := p1) (by omega)
  have hn := h.1.1.1
  refine k_X6_readProduct_7 ⟨fun q => ?_, fun _ => cr_isNext h.1 (fun q => ⟨fun _ => g, fun z => absurd z z_10⟩) (fun q => ⟨fun z => absurd rfl z, fun _ => cr_isNext h.1 (fun q => ⟨fun z => absurd z z_10, fun _ => g⟩) (fun q' => ?_)⟩)⟩
  · rw [z_le] at q; simp only [Int32.reduceToInt] at q; omega
  · simp only [Int32.reduceToInt] at q q'; omega
theorem cL_prod_bad2 {b : Nat → Int} {n w t F N o p1 a pf : Nat} {c1 : q_co} {fl : Int32} (ht : t < 4) (hN : 1 ≤ N) (ha : a + c1.length ≤ 300) (q1 : q_K b n p1 = 38 ∨ q_K b n p1 = 39) (h : q_Cl b n w t N mX6_readOne o (p1 + 1) (a + c1.length) (q_cB b n t fl pf)) : q_Ch b n w t F (N + 1) mX6_readProduct o p1 a c1 (q_cB b n t fl pf) := by
  intro D σ ρ V v2 K hD hV hG hw hv0 hv hK
  have hp : p1 < n := K_lt (b := b) (n := n) (i := p1) (by omega)
  have hn := hG.1.1.1
  obtain ⟨d, rfl⟩ : ∃ d, D = d + 1 + 1 := ⟨D - 2, by omega⟩
  refine cL_prod_to q1 hG hv (k_X6_readProduct_32 (cl_kindAt hG.1.1 hG.1.2.2.1 (fun u hu t3 e3 => ?_)))
  obtain ⟨s3, k3⟩ := st_adv ht hG.1 (by omega) e3
  refine h (d + 1) t3 V _ (by omega) hV s3 (kc_3 k3 hw) (fun π e => ?_)
  have fa := cB_a e s3 ht
  exact ⟨fa_ref fa, fa_ask1 (cB_k (kc_t hG.2.1 k3 (by omega)) e) fa (fun π' e' fa' y9 e9 => fa_prod7 fa' (hK π' e'))⟩
theorem cL_prod_go {b : Nat → Int} {n w t F N o p1 p2 a kc : Nat} {op : Int} {c1 c2 : q_co} {E : x_T → x_T → Prop} (ht : t < 4) (hN : 1 ≤ N) (ha : a + c1.length + c2.length < 300) (hp2 : p1 < p2) (q1 : q_K b n p1 = kc) (hk : kc = 38 ∨ kc = 39) (ho : x_op op = kc) (hz : q_gz op) (h : q_Cl b n w t N mX6_readOne o (p1 + 1) (a + c1.length) (q_cG b n t F (a + c1.length) p2 c2)) (g : q_Ch b n w t F (N + 1) mX6_readProduct o p2 a (c1 ++ c2 ++ [(op, 0)]) E) : q_Ch b n w t F (N + 1) mX6_readProduct o p1 a c1 E := by
  intro D σ ρ V v2 K hD hV hG hw hv0 hv hK
  have hp : p1 < n := K_lt (b := b) (n := n) (i := p1) (by omega)
  have hn := hG.1.1.1
  obtain ⟨d, rfl⟩ : ∃ d, D = d + 1 + 1 := ⟨D - 2, by omega⟩
  refine cL_prod_to (by omega) hG hv (k_X6_readProduct_32 (cl_kindAt hG.1.1 hG.1.2.2.1 (fun u hu t3 e3 => ?_)))
  obtain ⟨s3, k3⟩ := st_adv ht hG.1 (by omega) e3
  refine h (d + 1) t3 V _ (by omega) hV s3 (kc_3 k3 hw) (fun π e => ?_)
  have hG2 := cG_t hG k3 (by omega) e
  refine ⟨kc_ref e.1 ht, cG_ask hG2 ht (by rw [List.length_append]; omega) (by rw [hu, q1, ho]) hz (fun π' e' y9 e9 => ?_)⟩
  have ey : y9.toInt = v2.toInt + 1 := by rw [e9, z_add (by simp only [Int32.reduceToInt]; omega)]; rfl
  exact g (d + 1 + 1) σ π' V y9 K hD hV e' (kc_3 e'.2.1 (by rw [← hG.2.1.2.1 3 (by omega) (by omega) (by omega)]; exact hw)) (by omega) (by omega) hK
theorem cL_both_bad {b : Nat → Int} {n w t N o p a pf : Nat} {fl : Int32} (ht : t < 4) (hN : 1 ≤ N) (h : q_Cl b n w t N mX6_readAsk o p a (q_cB b n t fl pf)) : q_Cl b n w t (N + 1) mX6_readBoth o p a (q_cB b n t fl pf) := by
  intro D σ V K hD hV hs hw hK
  obtain ⟨d, rfl⟩ : ∃ d, D = d + 1 + 1 := ⟨D - 2, by omega⟩
  exact e_X6_readBoth (h (d + 1) σ V _ (by omega) hV hs hw (fun ρ e => fa_both7 (cB_a e hs ht) (hK ρ e)))
theorem cL_both_first {b : Nat → Int} {n w t F N o p a p1 : Nat} {c1 : q_co} {E : x_T → x_T → Prop} (h : q_Cl b n w t N mX6_readAsk o p a (q_cG b n t F a p1 c1)) (g : q_Ch b n w t F (N + 1) mX6_readBoth o p1 a c1 E) : q_Cl b n w t (N + 1) mX6_readBoth o p a E := by
  intro D σ V K hD hV hs hw hK
  obtain ⟨d, rfl⟩ : ∃ d, D = d + 1 := ⟨D - 1, by omega⟩
  exact e_X6_readBoth (h d σ V _ (by omega) hV hs hw (fun ρ e => g (d + 1) σ ρ V 0 K hD hV e (kc_3 e.2.1 hw) (by decide) (by simp only [Int32.reduceToInt]; omega) hK))
theorem cL_both_end {b : Nat → Int} {n w t F N o p1 a : Nat} {c1 : q_co} (hN : 2 ≤ N) (q1 : ¬ q_K b n p1 = 21) : q_Ch b n w t F N mX6_readBoth o p1 a c1 (q_cG b n t F a p1 c1) := by
  intro D σ ρ V v2 K hD hV h hw hv0 hv hK
  obtain ⟨d, rfl⟩ : ∃ d, D = d + 1 + 1 := ⟨D - 2, by omega⟩
  exact k_X6_readBoth_7 ⟨fun _ => hK ρ h, fun _ => cr_isNext h.1 (fun q => absurd q q1) (fun _ => ⟨fun _ => hK ρ h, fun z => absurd rfl z⟩)⟩
theorem cL_both_bad2 {b : Nat → Int} {n w t F N o p1 a pf : Nat} {c1 : q_co} {fl : Int32} (ht : t < 4) (hN : 1 ≤ N) (ha : a + c1.length ≤ 300) (q1 : q_K b n p1 = 21) (h : q_Cl b n w t N mX6_readAsk o (p1 + 1) (a + c1.length) (q_cB b n t fl pf)) : q_Ch b n w t F (N + 1) mX6_readBoth o p1 a c1 (q_cB b n t fl pf) := by
  intro D σ ρ V v2 K hD hV hG hw hv0 hv hK
  have hp : p1 < n := K_lt (b := b) (n := n) (i := p1) (by omega)
  have hn := hG.1.1.1
  obtain ⟨d, rfl⟩ : ∃ d, D = d + 1 + 1 := ⟨D - 2, by omega⟩
  refine k_X6_readBoth_7 ⟨fun q => ?_, fun _ => cr_isNext hG.1 (fun q => ⟨fun z => absurd z z_10, fun _ t3 e3 => ?_⟩) (fun q => absurd q1 q)⟩
  · rw [z_le] at q; simp only [Int32.reduceToInt] at q; omega
  obtain ⟨s3, k3⟩ := st_adv ht hG.1 (by omega) e3
  refine h (d + 1) t3 V _ (by omega) hV s3 (kc_3 k3 hw) (fun π e => ?_)
  have fa := cB_a e s3 ht
  exact ⟨fa_ref fa, fa_ask1 (cB_k (kc_t hG.2.1 k3 (by omega)) e) fa (fun π' e' fa' y9 e9 => fa_both7 fa' (hK π' e'))⟩
theorem cL_both_go {b : Nat → Int} {n w t F N o p1 p2 a : Nat} {c1 c2 : q_co} {E : x_T → x_T → Prop} (ht : t < 4) (hN : 1 ≤ N) (ha : a + c1.length + c2.length < 300) (hp2 : p1 < p2) (q1 : q_K b n p1 = 21) (h : q_Cl b n w t N mX6_readAsk o (p1 + 1) (a + c1.length) (q_cG b n t F (a + c1.length) p2 c2)) (g : q_Ch b n w t F (N + 1) mX6_readBoth o p2 a (c1 ++ c2 ++ [(406, 0)]) E) : q_Ch b n w t F (N + 1) mX6_readBoth o p1 a c1 E := by
  intro D σ ρ V v2 K hD hV hG hw hv0 hv hK
  have hp : p1 < n := K_lt (b := b) (n := n) (i := p1) (by omega)
  have hn := hG.1.1.1
  obtain ⟨d, rfl⟩ : ∃ d, D = d + 1 + 1 := ⟨D - 2, by omega⟩
  refine k_X6_readBoth_7 ⟨fun q => ?_, fun _ => cr_isNext hG.1 (fun q => ⟨fun z => absurd z z_10, fun _ t3 e3 => ?_⟩) (fun q => absurd q1 q)⟩
  · rw [z_le] at q; simp only [Int32.reduceToInt] at q; omega
  obtain ⟨s3, k3⟩ := st_adv ht hG.1 (by omega) e3
  refine h (d + 1) t3 V _ (by omega) hV s3 (kc_3 k3 hw) (fun π e => ?_)
  have hG2 := cG_t hG k3 (by omega) e
  refine ⟨kc_ref e.1 ht, cG_ask hG2 ht (by rw [List.length_append]; omega) (op := 406) (by decide) (by unfold q_gz; decide) (fun π' e' y9 e9 => ?_)⟩
  have ey : y9.toInt = v2.toInt + 1 := by rw [e9, z_add (by simp only [Int32.reduceToInt]; omega)]; rfl
  exact g (d + 1 + 1) σ π' V y9 K hD hV e' (kc_3 e'.2.1 (by rw [← hG.2.1.2.1 3 (by omega) (by omega) (by omega)]; exact hw)) (by omega) (by omega) hK
theorem cL_either_bad {b : Nat → Int} {n w t N o p a pf : Nat} {fl : Int32} (ht : t < 4) (hN : 1 ≤ N) (h : q_Cl b n w t N mX6_readBoth o p a (q_cB b n t fl pf)) : q_Cl b n w t (N + 1) mX6_readEither o p a (q_cB b n t fl pf) := by
  intro D σ V K hD hV hs hw hK
  obtain ⟨d, rfl⟩ : ∃ d, D = d + 1 + 1 := ⟨D - 2, by omega⟩
  exact e_X6_readEither (h (d + 1) σ V _ (by omega) hV hs hw (fun ρ e => fa_either7 (cB_a e hs ht) (hK ρ e)))
theorem cL_either_first {b : Nat → Int} {n w t F N o p a p1 : Nat} {c1 : q_co} {E : x_T → x_T → Prop} (h : q_Cl b n w t N mX6_readBoth o p a (q_cG b n t F a p1 c1)) (g : q_Ch b n w t F (N + 1) mX6_readEither o p1 a c1 E) : q_Cl b n w t (N + 1) mX6_readEither o p a E := by
  intro D σ V K hD hV hs hw hK
  obtain ⟨d, rfl⟩ : ∃ d, D = d + 1 := ⟨D - 1, by omega⟩
  exact e_X6_readEither (h d σ V _ (by omega) hV hs hw (fun ρ e => g (d + 1) σ ρ V 0 K hD hV e (kc_3 e.2.1 hw) (by decide) (by simp only [Int32.reduceToInt]; omega) hK))
theorem cL_either_end {b : Nat → Int} {n w t F N o p1 a : Nat} {c1 : q_co} (hN : 2 ≤ N) (q1 : ¬ q_K b n p1 = 20) : q_Ch b n w t F N mX6_readEither o p1 a c1 (q_cG b n t F a p1 c1) := by
  intro D σ ρ V v2 K hD hV h hw hv0 hv hK
  obtain ⟨d, rfl⟩ : ∃ d, D = d + 1 + 1 := ⟨D - 2, by omega⟩
  exact k_X6_readEither_7 ⟨fun _ => hK ρ h, fun _ => cr_isNext h.1 (fun q => absurd q q1) (fun _ => ⟨fun _ => hK ρ h, fun z => absurd rfl z⟩)⟩
theorem cL_either_bad2 {b : Nat → Int} {n w t F N o p1 a pf : Nat} {c1 : q_co} {fl : Int32} (ht : t < 4) (hN : 1 ≤ N) (ha : a + c1.length ≤ 300) (q1 : q_K b n p1 = 20) (h : q_Cl b n w t N mX6_readBoth o (p1 + 1) (a + c1.length) (q_cB b n t fl pf)) : q_Ch b n w t F (N + 1) mX6_readEither o p1 a c1 (q_cB b n t fl pf) := by
  intro D σ ρ V v2 K hD hV hG hw hv0 hv hK
  have hp : p1 < n := K_lt (b := b) (n := n) (i := p1) (by omega)
  have hn := hG.1.1.1
  obtain ⟨d, rfl⟩ : ∃ d, D = d + 1 + 1 := ⟨D - 2, by omega⟩
  refine k_X6_readEither_7 ⟨fun q => ?_, fun _ => cr_isNext hG.1 (fun q => ⟨fun z => absurd z z_10, fun _ t3 e3 => ?_⟩) (fun q => absurd q1 q)⟩
  · rw [z_le] at q; simp only [Int32.reduceToInt] at q; omega
  obtain ⟨s3, k3⟩ := st_adv ht hG.1 (by omega) e3
  refine h (d + 1) t3 V _ (by omega) hV s3 (kc_3 k3 hw) (fun π e => ?_)
  have fa := cB_a e s3 ht
  exact ⟨fa_ref fa, fa_ask1 (cB_k (kc_t hG.2.1 k3 (by omega)) e) fa (fun π' e' fa' y9 e9 => fa_either7 fa' (hK π' e'))⟩
theorem cL_either_go {b : Nat → Int} {n w t F N o p1 p2 a : Nat} {c1 c2 : q_co} {E : x_T → x_T → Prop} (ht : t < 4) (hN : 1 ≤ N) (ha : a + c1.length + c2.length < 300) (hp2 : p1 < p2) (q1 : q_K b n p1 = 20) (h : q_Cl b n w t N mX6_readBoth o (p1 + 1) (a + c1.length) (q_cG b n t F (a + c1.length) p2 c2)) (g : q_Ch b n w t F (N + 1) mX6_readEither o p2 a (c1 ++ c2 ++ [(407, 0)]) E) : q_Ch b n w t F (N + 1) mX6_readEither o p1 a c1 E := by
  intro D σ ρ V v2 K hD hV hG hw hv0 hv hK
  have hp : p1 < n := K_lt (b := b) (n := n) (i := p1) (by omega)
  have hn := hG.1.1.1
  obtain ⟨d, rfl⟩ : ∃ d, D = d + 1 + 1 := ⟨D - 2, by omega⟩
  refine k_X6_readEither_7 ⟨fun q => ?_, fun _ => cr_isNext hG.1 (fun q => ⟨fun z => absurd z z_10, fun _ t3 e3 => ?_⟩) (fun q => absurd q1 q)⟩
  · rw [z_le] at q; simp only [Int32.reduceToInt] at q; omega
  obtain ⟨s3, k3⟩ := st_adv ht hG.1 (by omega) e3
  refine h (d + 1) t3 V _ (by omega) hV s3 (kc_3 k3 hw) (fun π e => ?_)
  have hG2 := cG_t hG k3 (by omega) e
  refine ⟨kc_ref e.1 ht, cG_ask hG2 ht (by rw [List.length_append]; omega) (op := 407) (by decide) (by unfold q_gz; decide) (fun π' e' y9 e9 => ?_)⟩
  have ey : y9.toInt = v2.toInt + 1 := by rw [e9, z_add (by simp only [Int32.reduceToInt]; omega)]; rfl
  exact g (d + 1 + 1) σ π' V y9 K hD hV e' (kc_3 e'.2.1 (by rw [← hG.2.1.2.1 3 (by omega) (by omega) (by omega)]; exact hw)) (by omega) (by omega) hK
