/-! the class: a clause -/
def q_dO (b : Nat → Int) (n w p : Nat) : q_oc :=
  if w = 4 then q_nu b n 0 9 (.inr p) else if w = 5 then q_nu b n 0 9 (q_xp b n 12 (q_nu b n 0 7 (q_xp b n 11 (q_nu b n 0 7 (.inr p))))) else if w = 6 then q_nu b n 1 9 (.inr p) else if w = 7 then q_nu b n 0 3 (q_xp b n 13 (q_nu b n 0 7 (.inr p))) else if w = 10 then q_nu b n 1 60 (.inr p) else .inr p
def q_dY (b : Nat → Int) (n w p : Nat) : Int := if w = 5 then q_nv b n (q_xp b n 11 (q_nu b n 0 7 (.inr p))) else q_nv b n (q_xp b n 13 (q_nu b n 0 7 (.inr p)))
def q_dZ (b : Nat → Int) (n p : Nat) : Int := q_nv b n (q_xp b n 12 (q_nu b n 0 7 (q_xp b n 11 (q_nu b n 0 7 (.inr p)))))
theorem in_nu {b : Nat → Int} {n : Nat} {lo hi : Int} {o : q_oc} (h : q_in (q_nu b n lo hi o)) : q_in o := by
  cases o with
  | inl x => exact h
  | inr p => exact ⟨p, rfl⟩
theorem in_xp {b : Nat → Int} {n : Nat} {kc : Int} {o : q_oc} (h : q_in (q_xp b n kc o)) : q_in o := by
  cases o with
  | inl x => exact h
  | inr p => exact ⟨p, rfl⟩
/-- what a deed's clause must say in numbers -/
def q_dn (b : Nat → Int) (n w p : Nat) (x y z : Int) : Prop := (w = 4 ∨ w = 5 ∨ w = 6 ∨ w = 7 ∨ w = 10 → x = q_V b n p) ∧ (w = 5 ∨ w = 7 → y = q_dY b n w p) ∧ (w = 5 → z = q_dZ b n p)
def q_ka (σ ρ : x_T) (t j : Nat) : Prop := x_fr (fun c => c = 140 + 9 * t ∨ (140 + 9 * t + 1 ≤ c ∧ c ≤ 140 + 9 * t + 4)) σ ρ ∧ (∀ k, ¬ k = 4 → ρ.1 (140 + 9 * t) k = σ.1 (140 + 9 * t) k) ∧ (∀ i, i < j → ∀ c, 1 ≤ c → c ≤ 4 → ρ.1 (140 + 9 * t + c) i = σ.1 (140 + 9 * t + c) i)
theorem ca_add {b : Nat → Int} {n t p L j d : Nat} {v1 v2 v3 v4 : Int32} {σ : x_T} {K : x_T → Prop} (ht : t < 4) (hs : q_st σ b n t p L) (hj : (σ.1 (140 + 9 * t) 4).toInt = j) (hj24 : j < 24) (hK : ∀ ρ : x_T, q_st ρ b n t p L → q_ka σ ρ t j → (ρ.1 (140 + 9 * t) 4).toInt = (j + 1 : Nat) → ρ.1 (140 + 9 * t + 1) j = v1 → ρ.1 (140 + 9 * t + 2) j = v2 → ρ.1 (140 + 9 * t + 3) j = v3 → ρ.1 (140 + 9 * t + 4) j = v4 → K ρ) : x_CV d mX9_addClause [.ref σ.2.2.1, .int v1, .int v2, .int v3, .int v4] σ K := by
  rw [hs.2.1]
  have cj : (σ.1 (140 + 9 * t) 4).toNatClampNeg = j := by rw [z_cl, hj]; omega
  have iv : vp_in (σ.1 (140 + 9 * t) 4) 24 := ix_n (by omega)
  refine e_X9_addClause (show x_sh (140 + 9 * t) = (9, 10) from shd_140 ht) ⟨fun q => ?_, fun _ => ⟨fun q => ?_, fun _ => ⟨iv, fun t1 e1 => ?_⟩⟩⟩
  · rw [z_lt, hj] at q; simp only [Int32.reduceToInt] at q; omega
  · rw [z_le, hj] at q; simp only [Int32.reduceToInt] at q; omega
  have a1 : t1.1 (140 + 9 * t) = σ.1 (140 + 9 * t) := by rw [e1]; exact w1_c (by omega)
  rw [a1]
  refine ⟨iv, fun t2 e2 => ?_⟩
  have a2 : t2.1 (140 + 9 * t) = σ.1 (140 + 9 * t) := by rw [e2, w1_c (by omega)]; exact a1
  rw [a2]
  refine ⟨iv, fun t3 e3 => ?_⟩
  have a3 : t3.1 (140 + 9 * t) = σ.1 (140 + 9 * t) := by rw [e3, w1_c (by omega)]; exact a2
  rw [a3]
  refine ⟨iv, fun t4 e4 t5 e5 => ?_⟩
  have a4 : t4.1 (140 + 9 * t) = σ.1 (140 + 9 * t) := by rw [e4, w1_c (by omega)]; exact a3
  rw [cj] at e1 e2 e3 e4
  rw [a4] at e5
  have fr : x_fr (fun c => c = 140 + 9 * t ∨ (140 + 9 * t + 1 ≤ c ∧ c ≤ 140 + 9 * t + 4)) σ t5 := by rw [e5, e4, e3, e2, e1]; exact fr_w (fr_w (fr_w (fr_w (fr_w (fr_r _ _) (by omega)) (by omega)) (by omega)) (by omega)) (by omega)
  have sl : ∀ k, ¬ k = 4 → t5.1 (140 + 9 * t) k = σ.1 (140 + 9 * t) k := fun k hk => by rw [e5, w1_at, if_neg (by omega), a4]
  refine hK t5 ⟨?_, by rw [fr.2]; exact hs.2.1, ?_, ?_, ?_⟩ ⟨fr, sl, fun i hi c h1 h2 => ?_⟩ ?_ ?_ ?_ ?_ ?_
  · obtain ⟨n3, T, t1', t2', t3', t4', t5', t6'⟩ := hs.1
    refine ⟨n3, T, t1', t2', t3', ?_, ?_, fun i hi => ?_⟩
    · rw [fr.1 314 (by omega)]; exact t4'
    · rw [fr.1 314 (by omega)]; exact t5'
    · rw [fr.1 316 (by omega), fr.1 317 (by omega), fr.1 318 (by omega)]; exact t6' i hi
  · rw [fr.1 319 (by omega)]; exact hs.2.2.1
  · rw [fr.1 319 (by omega)]; exact hs.2.2.2.1
  · rw [sl 9 (by omega)]; exact hs.2.2.2.2
  · rw [e5, w1_at, if_neg (by omega), e4, w1_at, if_neg (by omega), e3, w1_at, if_neg (by omega), e2, w1_at, if_neg (by omega), e1, w1_at, if_neg (by omega)]
  · rw [e5, w1_at, if_pos ⟨rfl, rfl⟩, z_add (by rw [hj]; simp only [Int32.reduceToInt]; omega), hj]; simp only [Int32.reduceToInt]; omega
  · rw [e5, w1_at, if_neg (by omega), e4, w1_at, if_neg (by omega), e3, w1_at, if_neg (by omega), e2, w1_at, if_neg (by omega), e1, w1_at, if_pos ⟨rfl, rfl⟩]
  · rw [e5, w1_at, if_neg (by omega), e4, w1_at, if_neg (by omega), e3, w1_at, if_neg (by omega), e2, w1_at, if_pos ⟨rfl, rfl⟩]
  · rw [e5, w1_at, if_neg (by omega), e4, w1_at, if_neg (by omega), e3, w1_at, if_pos ⟨rfl, rfl⟩]
  · rw [e5, w1_at, if_neg (by omega), e4, w1_at, if_pos ⟨rfl, rfl⟩]
theorem fa_add {b : Nat → Int} {n t pf d : Nat} {v1 v2 v3 v4 fl : Int32} {σ ρ : x_T} {K : x_T → Prop} (h : q_cB b n t fl pf σ ρ) (g : q_fa t ρ) (hK : ∀ π : x_T, q_cB b n t fl pf σ π → q_fa t π → K π) : x_CV d mX9_addClause [.ref ρ.2.2.1, .int v1, .int v2, .int v3, .int v4] ρ K := by
  have ht := g.2.2
  rw [g.1]
  refine e_X9_addClause (show x_sh (140 + 9 * t) = (9, 10) from shd_140 ht) ⟨fun q => hK ρ h g, fun q1 => ⟨fun q => hK ρ h g, fun q2 => ?_⟩⟩
  have iv : vp_in (ρ.1 (140 + 9 * t) 4) 24 := ix_n (by rw [z_lt] at q1; rw [z_le] at q2; simp only [Int32.reduceToInt] at q1 q2; omega)
  refine ⟨iv, fun t1 e1 => ?_⟩
  have a1 : t1.1 (140 + 9 * t) = ρ.1 (140 + 9 * t) := by rw [e1]; exact w1_c (by omega)
  rw [a1]
  refine ⟨iv, fun t2 e2 => ?_⟩
  have a2 : t2.1 (140 + 9 * t) = ρ.1 (140 + 9 * t) := by rw [e2, w1_c (by omega)]; exact a1
  rw [a2]
  refine ⟨iv, fun t3 e3 => ?_⟩
  have a3 : t3.1 (140 + 9 * t) = ρ.1 (140 + 9 * t) := by rw [e3, w1_c (by omega)]; exact a2
  rw [a3]
  refine ⟨iv, fun t4 e4 t5 e5 => ?_⟩
  have k : q_ff t ρ t5 := by
    refine ⟨?_, ?_, ?_⟩
    · rw [e5, e4, e3, e2, e1]; exact fr_w (fr_w (fr_w (fr_w (fr_w (fr_r _ _) (by unfold q_sR; omega)) (by unfold q_sR; omega)) (by unfold q_sR; omega)) (by unfold q_sR; omega)) (by unfold q_sR; omega)
    · rw [e5, w1_c (by omega), e4, w1_c (by omega), e3, w1_c (by omega), e2, w1_c (by omega), e1, w1_c (by omega)]
    · rw [e5, w1_c (by omega), e4, w1_c (by omega), e3, w1_c (by omega), e2, w1_c (by omega), e1, w1_c (by omega)]
  exact hK t5 (cB_f h k) (fa_k g k)
theorem fa_law {b : Nat → Int} {n t pf d : Nat} {v1 v2 fl : Int32} {σ ρ : x_T} {K : x_T → Prop} (h : q_cB b n t fl pf σ ρ) (g : q_fa t ρ) (hK : ∀ π : x_T, q_cB b n t fl pf σ π → q_fa t π → K π) : x_CV d mX9_setLaw [.ref ρ.2.2.1, .int v1, .int v2] ρ K := by
  have ht := g.2.2
  rw [g.1]
  refine e_X9_setLaw (show x_sh (140 + 9 * t) = (9, 10) from shd_140 ht) ⟨fun q => hK ρ h g, fun q1 => ⟨fun q => hK ρ h g, fun q2 => ?_⟩⟩
  have iv : vp_in v1 4 := ix_n (by rw [z_lt] at q1; rw [z_le] at q2; simp only [Int32.reduceToInt] at q1 q2; omega)
  refine ⟨iv, fun t1 e1 => ⟨iv, fun t2 e2 => ?_⟩⟩
  have k : q_ff t ρ t2 := by
    refine ⟨?_, ?_, ?_⟩
    · rw [e2, e1]; exact fr_w (fr_w (fr_r _ _) (by unfold q_sR; omega)) (by unfold q_sR; omega)
    · rw [e2, w1_c (by omega), e1, w1_c (by omega)]
    · rw [e2, w1_c (by omega), e1, w1_c (by omega)]
  exact hK t2 (cB_f h k) (fa_k g k)
theorem ca_law {b : Nat → Int} {n t p L w d : Nat} {v1 v2 : Int32} {σ : x_T} {K : x_T → Prop} (ht : t < 4) (hs : q_st σ b n t p L) (hv : v1.toInt = w) (hw : w < 4) (hK : ∀ ρ : x_T, q_st ρ b n t p L → x_fr (fun c => c = 140 + 9 * t + 5 ∨ c = 140 + 9 * t + 6) σ ρ → (∀ i, ¬ i = w → ρ.1 (140 + 9 * t + 5) i = σ.1 (140 + 9 * t + 5) i ∧ ρ.1 (140 + 9 * t + 6) i = σ.1 (140 + 9 * t + 6) i) → ρ.1 (140 + 9 * t + 5) w = v2 → (ρ.1 (140 + 9 * t + 6) w).toInt = L → K ρ) : x_CV d mX9_setLaw [.ref σ.2.2.1, .int v1, .int v2] σ K := by
  rw [hs.2.1]
  have cw : v1.toNatClampNeg = w := by rw [z_cl, hv]; omega
  have iv : vp_in v1 4 := ix_n (by omega)
  refine e_X9_setLaw (show x_sh (140 + 9 * t) = (9, 10) from shd_140 ht) ⟨fun q => ?_, fun _ => ⟨fun q => ?_, fun _ => ⟨iv, fun t1 e1 => ⟨iv, fun t2 e2 => ?_⟩⟩⟩⟩
  · rw [z_lt, hv] at q; simp only [Int32.reduceToInt] at q; omega
  · rw [z_le, hv] at q; simp only [Int32.reduceToInt] at q; omega
  rw [cw] at e1 e2
  have a1 : t1.1 (140 + 9 * t) = σ.1 (140 + 9 * t) := by rw [e1]; exact w1_c (by omega)
  rw [a1] at e2
  have fr : x_fr (fun c => c = 140 + 9 * t + 5 ∨ c = 140 + 9 * t + 6) σ t2 := by rw [e2, e1]; exact fr_w (fr_w (fr_r _ _) (by omega)) (by omega)
  refine hK t2 ⟨?_, by rw [fr.2]; exact hs.2.1, ?_, ?_, ?_⟩ fr (fun i hi => ⟨?_, ?_⟩) ?_ ?_
  · obtain ⟨n3, T, t1', t2', t3', t4', t5', t6'⟩ := hs.1
    refine ⟨n3, T, t1', t2', t3', ?_, ?_, fun i hi => ?_⟩
    · rw [fr.1 314 (by omega)]; exact t4'
    · rw [fr.1 314 (by omega)]; exact t5'
    · rw [fr.1 316 (by omega), fr.1 317 (by omega), fr.1 318 (by omega)]; exact t6' i hi
  · rw [fr.1 319 (by omega)]; exact hs.2.2.1
  · rw [fr.1 319 (by omega)]; exact hs.2.2.2.1
  · rw [fr.1 (140 + 9 * t) (by omega)]; exact hs.2.2.2.2
  · rw [e2, w1_at, if_neg (by omega), e1, w1_at, if_neg (by omega)]
  · rw [e2, w1_at, if_neg (by omega), e1, w1_at, if_neg (by omega)]
  · rw [e2, w1_at, if_neg (by omega), e1, w1_at, if_pos ⟨rfl, rfl⟩]
  · rw [e2, w1_at, if_pos ⟨rfl, rfl⟩]; exact hs.2.2.2.2
/-- readDeed up to its end -/
theorem cd_num {b : Nat → Int} {n t L p d w : Nat} {V : Int32} {σ : x_T} {K : x_T → Prop} (ht : t < 4) (hn : n ≤ 300) (hp : p ≤ n) (hs : q_st σ b n t p L) (hV : V.toInt = w) (hw : 4 ≤ w ∧ w ≤ 10) (hK : ∀ (π : x_T) (a1 a2 a3 : Int32), q_cM b n t L σ π (q_dO b n w p) → (q_in (q_dO b n w p) → q_dn b n w p a1.toInt a2.toInt a3.toInt ∧ (w = 10 → 1 ≤ a1.toInt ∧ a1.toInt ≤ 60)) → x_WV (d + 1 + 1 + 1) mX6_readDeed K 149 [(0, .ref 319), (1, .int V), (2, .int a1), (3, .int a2), (4, .int a3)] [] π) : x_CV (d + 1 + 1 + 1) mX6_readDeed [.ref 319, .int V] σ K := by
  have e : ∀ v : Int32, V = v ↔ (w : Int) = v.toInt := fun v => by rw [z_eq, hV]
  have h0 : q_cM b n t L σ σ (.inr p) := ⟨hs, kc_r _ _ _⟩
  have b0 : q_pb b n (.inr p) := hp
  have c4 : ∀ v : Int32, V = v → (w : Int) = v.toInt := fun v => (e v).mp
  refine e_X6_readDeed ⟨fun q => ?_, fun n4 => ⟨fun q => ?_, fun n5 => ⟨fun q => ?_, fun n6 => ⟨fun q => ?_, fun n7 => ⟨fun q => ?_, fun n8 => ⟨fun q => ?_, fun n9 => ⟨fun q => ?_, fun n10 => ?_⟩⟩⟩⟩⟩⟩⟩
  · have ew : w = 4 := by have := c4 4 q; simp only [Int32.reduceToInt] at this; omega
    subst ew
    refine cM_num ht hn hs b0 h0 (fun π u g gu => hK π u 0 0 g (fun hi => ⟨⟨fun _ => (gu hi).1, fun z => by omega, fun z => by omega⟩, fun z => by omega⟩))
  · have ew : w = 5 := by have := c4 5 q; simp only [Int32.reduceToInt] at this; omega
    subst ew
    refine cM_num ht hn hs b0 h0 (fun π u g gu => cM_exp ht hn hs (pb_nu b0) g (fun π2 g2 => cM_num ht hn hs (pb_xp (by decide) (pb_nu b0)) g2 (fun π3 u3 g3 gu3 => cM_exp ht hn hs (pb_nu (pb_xp (by decide) (pb_nu b0))) g3 (fun π4 g4 => cM_num ht hn hs (pb_xp (by decide) (pb_nu (pb_xp (by decide) (pb_nu b0)))) g4 (fun π5 u5 g5 gu5 => hK π5 u u3 u5 g5 (fun hi => ⟨⟨fun _ => (gu (in_xp (in_nu (in_xp (in_nu hi))))).1, fun _ => (gu3 (in_xp (in_nu hi))).1, fun _ => (gu5 hi).1⟩, fun z => by omega⟩))))))
  · have ew : w = 6 := by have := c4 6 q; simp only [Int32.reduceToInt] at this; omega
    subst ew
    refine cM_num ht hn hs b0 h0 (fun π u g gu => hK π u 0 0 g (fun hi => ⟨⟨fun _ => (gu hi).1, fun z => by omega, fun z => by omega⟩, fun z => by omega⟩))
  · have ew : w = 7 := by have := c4 7 q; simp only [Int32.reduceToInt] at this; omega
    subst ew
    refine cM_num ht hn hs b0 h0 (fun π u g gu => cM_exp ht hn hs (pb_nu b0) g (fun π2 g2 => cM_num ht hn hs (pb_xp (by decide) (pb_nu b0)) g2 (fun π3 u3 g3 gu3 => hK π3 u u3 0 g3 (fun hi => ⟨⟨fun _ => (gu (in_xp (in_nu hi))).1, fun _ => (gu3 hi).1, fun z => by omega⟩, fun z => by omega⟩))))
  · have ew : w = 8 := by have := c4 8 q; simp only [Int32.reduceToInt] at this; omega
    subst ew
    exact hK σ 0 0 0 h0 (fun hi => ⟨⟨fun z => by omega, fun z => by omega, fun z => by omega⟩, fun z => by omega⟩)
  · have ew : w = 9 := by have := c4 9 q; simp only [Int32.reduceToInt] at this; omega
    subst ew
    exact hK σ 0 0 0 h0 (fun hi => ⟨⟨fun z => by omega, fun z => by omega, fun z => by omega⟩, fun z => by omega⟩)
  · have ew : w = 10 := by have := c4 10 q; simp only [Int32.reduceToInt] at this; omega
    subst ew
    refine cM_num ht hn hs b0 h0 (fun π u g gu => hK π u 0 0 g (fun hi => ⟨⟨fun _ => (gu hi).1, fun z => by omega, fun z => by omega⟩, fun _ => (gu hi).2⟩))
  · rw [e] at n4 n5 n6 n7 n8 n9 n10
    simp only [Int32.reduceToInt] at n4 n5 n6 n7 n8 n9 n10
    omega
