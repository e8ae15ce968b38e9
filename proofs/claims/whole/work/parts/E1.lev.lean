/-! the model's levels of signs -/
abbrev q_lp (K0 : x_T → Int32 → Prop) (σ : x_T) : Prop := x_WI (1999 + 1) mX12_text K0 74 [(0, .ref 345)] [] σ
abbrev q_ov (K0 : x_T → Int32 → Prop) (σ : x_T) : Prop := x_WV (1997 + 1) mX12_oneIsOver (fun t => q_lp K0 t) 0 [(0, .ref 345)] [] σ
abbrev q_ao (K0 : x_T → Int32 → Prop) (σ : x_T) : Prop := x_WV (1997 + 1) mX12_askIsOver (fun t => q_lp K0 t) 0 [(0, .ref 345)] [] σ
def q_mB (b : Nat → Int) (n : Nat) (fl : Int32) (pf : Nat) (σ ρ : x_T) : Prop := q_kp σ ρ 0 0 0 ∧ ρ.1 345 19 = fl ∧ (ρ.1 345 20).toInt = q_tp b n pf
def q_cm (σ : x_T) (P a : Nat) (c : q_co) : Prop := ∀ (i : Nat) (x : Int × Int), c[i]? = some x → (σ.1 367 (a + i)).toInt = x.1 ∧ z_vv P x.1 x.2 (σ.1 368 (a + i)).toInt
theorem cm_k {σ ρ : x_T} {P a f u m : Nat} {c : q_co} (h : q_cm σ P a c) (g : q_kp σ ρ f u m) (hm : a + c.length ≤ m) : q_cm ρ P a c := by
  intro i x hx
  have hi := co_lt hx
  obtain ⟨g1, g2⟩ := g.2.2.2.2.2 (a + i) (by omega)
  rw [g1, g2]
  exact h i x hx
theorem cm_ap {σ : x_T} {P a : Nat} {c1 c2 : q_co} (h1 : q_cm σ P a c1) (h2 : q_cm σ P (a + c1.length) c2) : q_cm σ P a (c1 ++ c2) := by
  intro i x hx
  by_cases q : i < c1.length
  · rw [List.getElem?_append_left q] at hx; exact h1 i x hx
  · rw [List.getElem?_append_right (by omega)] at hx
    have := h2 _ x hx
    rw [show a + c1.length + (i - c1.length) = a + i by omega] at this
    exact this
theorem cm_1 {σ : x_T} {P a : Nat} {o v : Int} (h1 : (σ.1 367 a).toInt = o) (h2 : z_vv P o v (σ.1 368 a).toInt) : q_cm σ P a [(o, v)] := by
  intro i x hx
  have hi := co_lt hx
  have e : i = 0 := by simp at hi; omega
  subst e
  simp at hx
  subst hx
  exact ⟨h1, h2⟩
theorem cm_0 (σ : x_T) (P a : Nat) : q_cm σ P a [] := fun i x hx => by simp at hx
def q_mG (b : Nat → Int) (n w P o f u s a p : Nat) (c : q_co) (σ ρ : x_T) : Prop := q_ms ρ b n w p o f u s (a + c.length) ∧ q_kp σ ρ f u a ∧ q_cm ρ P a c
def q_bl (σ : x_T) (R : Int) (f u : Nat) : Prop := u = 0 ∨ (0 < u ∧ ((σ.1 360 (u - 1)).toInt < f ∨ ((σ.1 360 (u - 1)).toInt = f ∧ q_rk (σ.1 359 (u - 1)).toInt < R)))
theorem bl_k {σ ρ : x_T} {R R' : Int} {f u f' m : Nat} (h : q_bl σ R f u) (g : q_kp σ ρ f' u m) (hR : R ≤ R') : q_bl ρ R' f u := by
  rcases h with h | ⟨h0, h⟩
  · exact Or.inl h
  · obtain ⟨g1, g2⟩ := g.2.2.2.2.1 (u - 1) (by omega)
    refine Or.inr ⟨h0, ?_⟩
    rw [g1, g2]
    omega
theorem rk_b (o : Int) : 1 ≤ q_rk o ∧ q_rk o ≤ 4 := by
  unfold q_rk
  repeat' split
  all_goals omega
def q_pa (R : Int) (σ : x_T) (Q : x_T → Prop) : Prop := ∀ (d : Nat) (r : Int32) (K : x_T → Prop), 1 ≤ r.toInt → r.toInt ≤ R → (∀ ρ, Q ρ → q_wo d K r ρ) → q_wo d K r σ
def q_tc (s0 : Nat) (σ : x_T) (f : Nat) : Prop := (s0 = 1 → ¬ (σ.1 357 (f - 1)).toInt = 7 ∧ ¬ (σ.1 357 (f - 1)).toInt = 10 ∧ ¬ (σ.1 357 (f - 1)).toInt = 11) ∧ (s0 = 0 → ¬ (σ.1 357 (f - 1)).toInt = 3)
def q_fu (s0 o : Nat) (R : Int) (r2 : Nat) (σ : x_T) (f u : Nat) : Prop := 1 ≤ f ∧ f ≤ 2 * o + s0 ∧ u + r2 ≤ 2 * f ∧ q_bl σ R f u
abbrev q_KE : Type := (x_T → Int32 → Prop) → x_T → Nat → Nat → Prop
def q_EB (b : Nat → Int) (n : Nat) (fl : Int32) (pf : Nat) : q_KE := fun K0 σ _ _ => ∀ ρ, q_mB b n fl pf σ ρ → q_lp K0 ρ
def q_EG (b : Nat → Int) (n w P o s1 : Nat) (R : Int) (a p : Nat) (c : q_co) : q_KE := fun K0 σ f u => ∀ (ρ : x_T) (u' m' : Nat), q_ms ρ b n w p o f u' s1 m' → q_kp σ ρ f u a → q_pa R ρ (q_mG b n w P o f u s1 a p c σ) → q_lp K0 ρ
def q_EO (b : Nat → Int) (n w P o a p : Nat) (c : q_co) : q_KE := fun K0 σ f u => ∀ (ρ : x_T) (s : Nat), q_mG b n w P o f u s a p c σ ρ → q_ov K0 ρ
def q_EA (b : Nat → Int) (n w P o a p : Nat) (c : q_co) : q_KE := fun K0 σ f u => ∀ (ρ : x_T) (s : Nat), q_mG b n w P o f u s a p c σ ρ → q_ao K0 ρ
def q_Rw (b : Nat → Int) (n w s0 o p a : Nat) (E : q_KE) : Prop := ∀ (K0 : x_T → Int32 → Prop) (σ : x_T) (f u : Nat), q_fu s0 o 5 0 σ f u → q_ms σ b n w p o f u s0 a → E K0 σ f u → q_lp K0 σ
def q_Lv (b : Nat → Int) (n w s0 o p a : Nat) (R : Int) (r2 : Nat) (E : q_KE) : Prop := ∀ (K0 : x_T → Int32 → Prop) (σ : x_T) (f u : Nat), q_fu s0 o R r2 σ f u → q_tc s0 σ f → q_ms σ b n w p o f u s0 a → E K0 σ f u → q_lp K0 σ
def q_Hd (b : Nat → Int) (n w P s0 s1 o p a : Nat) (R : Int) (r2 : Nat) (c : q_co) (E : q_KE) : Prop := ∀ (K0 : x_T → Int32 → Prop) (σ ρ : x_T) (f u u' m' : Nat), q_fu s0 o R r2 σ f u → q_tc s0 σ f → q_ms ρ b n w p o f u' s1 m' → q_kp σ ρ f u a → q_pa R ρ (q_mG b n w P o f u s1 a p c σ) → E K0 σ f u → q_lp K0 ρ
theorem tc_k {s0 f u m : Nat} {σ ρ : x_T} (h : q_tc s0 σ f) (g : q_kp σ ρ f u m) (hf : 1 ≤ f) : q_tc s0 ρ f := by
  unfold q_tc at h ⊢
  rw [g.2.2.1 (f - 1) (by omega)]
  exact h
theorem hd_bad {b : Nat → Int} {n w s0 o p a r2 r2' pf : Nat} {fl : Int32} {R R' : Int} (hR : R ≤ R') (hr : r2' ≤ r2) (h : q_Lv b n w s0 o p a R' r2' (q_EB b n fl pf)) : q_Lv b n w s0 o p a R r2 (q_EB b n fl pf) := fun K0 σ f u hf ht hs hE => h K0 σ f u ⟨hf.1, hf.2.1, by have := hf.2.2.1; omega, bl_k hf.2.2.2 (kq_r σ f u 0) hR⟩ ht hs hE
theorem hd_first {b : Nat → Int} {n w P s0 s1 o p a r2 r2' p1 : Nat} {R R' : Int} {c : q_co} {E : q_KE} (hR : R ≤ R') (hr : r2' ≤ r2) (h : q_Lv b n w s0 o p a R' r2' (q_EG b n w P o s1 R' a p1 c)) (g : q_Hd b n w P s0 s1 o p1 a R r2 c E) : q_Lv b n w s0 o p a R r2 E :=
  fun K0 σ f u hf ht hs hE => h K0 σ f u ⟨hf.1, hf.2.1, by have := hf.2.2.1; omega, bl_k hf.2.2.2 (kq_r σ f u 0) hR⟩ ht hs (fun ρ u' m' ms k pa => g K0 σ ρ f u u' m' hf ht ms k (fun d r K h1 h2 h3 => pa d r K h1 (by omega) h3) hE)
theorem hd_end {b : Nat → Int} {n w P s0 s1 o a r2 p1 : Nat} {R : Int} {c : q_co} : q_Hd b n w P s0 s1 o p1 a R r2 c (q_EG b n w P o s1 R a p1 c) :=
  fun _ _ ρ _ _ u' m' _ _ ms k pa hE => hE ρ u' m' ms k pa
def q_sp1 (b : Nat → Int) (n w s0 s1 p1 : Nat) (op : Int) : Prop := ∀ (K0 : x_T → Int32 → Prop) (ρ : x_T) (o f u m : Nat), q_ms ρ b n w p1 o f u s1 m → 1 ≤ f → f ≤ 40 → (∀ v : Int32, v.toInt = op → x_CV (1997 + 1) mX12_waitsFor [.ref 345, .int v] ρ (fun t1 => ∀ t3, t3 = x_w1 t1 345 28 (nI s0) → q_lp K0 t3)) → q_lp K0 ρ
theorem hd_push {b : Nat → Int} {n w P s0 s1 o a r2 p1 f u u' m' : Nat} {R : Int} {op : Int} {c : q_co} {K0 : x_T → Int32 → Prop} {σ ρ : x_T} (hs0 : s0 ≤ 1) (ho : o ≤ 8) (hst : q_sp1 b n w s0 s1 p1 op) (hrk : q_rk op = R) (hf : q_fu s0 o R (r2 + 1) σ f u) (ms : q_ms ρ b n w p1 o f u' s1 m') (pa : q_pa R ρ (q_mG b n w P o f u s1 a p1 c σ)) (hK : ∀ σ2 : x_T, q_fu s0 o (R + 1) r2 σ2 f (u + 1) → q_ms σ2 b n w (p1 + 1) o f (u + 1) s0 (a + c.length) → q_kp σ σ2 f u a → q_cm σ2 P a c → (σ2.1 359 u).toInt = op → (σ2.1 360 u).toInt = f → q_lp K0 σ2) (ha : a + c.length ≤ 1000) : q_lp K0 ρ := by
  obtain ⟨f1, f2, f3, f4⟩ := hf
  have rb := rk_b op
  refine hst K0 ρ o f u' m' ms f1 (by omega) (fun v hv => ?_)
  refine mq_wait (d := 1995) (u := u) (Q := q_mG b n w P o f u s1 a p1 c σ) (by omega) (fun π h => h.1) (fun r K' hr hK' => pa _ r K' (by rw [hr, hv]; omega) (by rw [hr, hv]; omega) (fun π h => mq_stop h.1 (by omega) ?_ (hK' π h))) (fun σ' ρ2 h ms2 k2 e1 e2 t3 e3 => ?_)
  · rcases f4 with g | ⟨g0, g⟩
    · exact Or.inl g
    · obtain ⟨z1, z2⟩ := h.2.1.2.2.2.2.1 (u - 1) (by omega)
      refine Or.inr ⟨g0, ?_⟩
      rw [z1, z2, hr, hv]
      omega
  · obtain ⟨b3, k3⟩ := sq_28 ms2 e3 (s' := s0) (nI_toInt (by omega))
    have kk : q_kp σ σ' f u a := h.2.1
    have k4 : q_kp σ' t3 f u (a + c.length) := kq_t (kq_le k2 (by omega) (Nat.le_refl _) (by omega)) k3 (by omega) (by omega) (by omega)
    obtain ⟨z1, z2⟩ := k3.2.2.2.2.1 u (by omega)
    refine hK t3 ⟨f1, f2, by omega, Or.inr ⟨by omega, Or.inr ?_⟩⟩ b3 (kq_t kk k4 (Nat.le_refl _) (Nat.le_refl _) (by omega)) (cm_k h.2.2 k4 (Nat.le_refl _)) ?_ ?_
    · rw [Nat.add_sub_cancel, z1, z2, e1, hv]
      exact ⟨e2, by omega⟩
    · rw [z1, e1]; exact hv
    · rw [z2]; exact e2
theorem mB_k {b : Nat → Int} {n pf f u m : Nat} {fl : Int32} {σ ρ π : x_T} (k : q_kp σ ρ f u m) (h : q_mB b n fl pf ρ π) : q_mB b n fl pf σ π := ⟨kq_t (kq_le k (by omega) (by omega) (by omega)) h.1 (Nat.le_refl _) (Nat.le_refl _) (Nat.le_refl _), h.2.1, h.2.2⟩
theorem hd_bad2 {b : Nat → Int} {n w P s0 s1 o a r2 p1 pf : Nat} {fl : Int32} {R R' : Int} {op : Int} {c : q_co} (hs0 : s0 ≤ 1) (ho : o ≤ 8) (hst : q_sp1 b n w s0 s1 p1 op) (hrk : q_rk op = R) (hR : R + 1 ≤ R') (ha : a + c.length ≤ 1000) (h : q_Lv b n w s0 o (p1 + 1) (a + c.length) R' r2 (q_EB b n fl pf)) : q_Hd b n w P s0 s1 o p1 a R (r2 + 1) c (q_EB b n fl pf) := by
  intro K0 σ ρ f u u' m' hf ht ms k pa hE
  refine hd_push hs0 ho hst hrk hf ms pa (fun σ2 h1 h2 h3 h4 h5 h6 => h K0 σ2 f (u + 1) ⟨h1.1, h1.2.1, h1.2.2.1, bl_k h1.2.2.2 (kq_r σ2 f (u + 1) 0) hR⟩ (tc_k ht h3 hf.1) h2 (fun π e => hE π (mB_k h3 e))) ha
theorem hd_go {b : Nat → Int} {n w P s0 s1 o a r2 p1 p2 : Nat} {R R' : Int} {op : Int} {c c2 : q_co} {E : q_KE} (hs0 : s0 ≤ 1) (ho : o ≤ 8) (hst : q_sp1 b n w s0 s1 p1 op) (hrk : q_rk op = R) (hR : R + 1 ≤ R') (hz : q_gz op) (ha : a + c.length + c2.length < 400) (h : q_Lv b n w s0 o (p1 + 1) (a + c.length) R' r2 (q_EG b n w P o s1 R' (a + c.length) p2 c2)) (g : q_Hd b n w P s0 s1 o p2 a R (r2 + 1) (c ++ c2 ++ [(op, 0)]) E) : q_Hd b n w P s0 s1 o p1 a R (r2 + 1) c E := by
  intro K0 σ ρ f u u' m' hf ht ms k pa hE
  refine hd_push hs0 ho hst hrk hf ms pa (fun σ2 h1 h2 h3 h4 h5 h6 => h K0 σ2 f (u + 1) ⟨h1.1, h1.2.1, h1.2.2.1, bl_k h1.2.2.2 (kq_r σ2 f (u + 1) 0) hR⟩ (tc_k ht h3 hf.1) h2 (fun ρ3 u3 m3 ms3 k3 pa3 => g K0 σ ρ3 f u u3 m3 hf ht ms3 (kq_t h3 k3 (Nat.le_refl _) (by omega) (by omega)) (fun d r K r1 r2 hK => pa3 d r K r1 (by omega) (fun π e => ?_)) hE)) (by omega)
  have f3 := hf.2.2.1
  have f2 := hf.2.1
  obtain ⟨z1, z2⟩ := e.2.1.2.2.2.2.1 u (by omega)
  refine mq_pop e.1 (by omega) (by omega) (by rw [z2]; exact h6) (by rw [z1, h5, hrk]; exact r2) (fun π2 ms4 k4 e1 e2 => hK π2 ⟨?_, ?_, ?_⟩)
  · rw [show a + (c ++ c2 ++ [(op, (0 : Int))]).length = a + c.length + c2.length + 1 by simp only [List.length_append, List.length_cons, List.length_nil]; omega]; exact ms4
  · exact kq_t (kq_t h3 e.2.1 (Nat.le_refl _) (by omega) (by omega)) k4 (by omega) (by omega) (by omega)
  · have l : (c ++ c2).length = c.length + c2.length := List.length_append
    refine cm_ap (cm_ap (cm_k (cm_k h4 e.2.1 (Nat.le_refl _)) k4 (by omega)) (cm_k e.2.2 k4 (Nat.le_refl _))) (cm_1 ?_ ⟨fun z => ?_, fun z => ?_⟩)
    · rw [l, ← Nat.add_assoc, e1, z1]; exact h5
    · rcases z with z | z
      · exact absurd z hz.1
      · exact absurd z hz.2.1
    · rcases z with z | z
      · exact absurd z hz.2.2.1
      · exact absurd z hz.2.2.2
