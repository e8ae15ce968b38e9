/-! a turn of the model's machine -/
theorem lp_at {b : Nat → Int} {n w p o f u s m : Nat} {K0 : x_T → Int32 → Prop} {σ : x_T} (h : q_ms σ b n w p o f u s m) (hs : s ≤ 3) (h0 : s = 0 → x_CV (1998 + 1) mX12_asks [.ref 345] σ (fun t => q_lp K0 t)) (h1 : s = 1 → x_CV (1998 + 1) mX12_begins [.ref 345] σ (fun t => q_lp K0 t)) (h2 : s = 2 → x_CV (1998 + 1) mX12_goesOn [.ref 345] σ (fun t => q_lp K0 t)) (h3 : s = 3 → x_CV (1998 + 1) mX12_asksOn [.ref 345] σ (fun t => q_lp K0 t)) : q_lp K0 σ := by
  have t7 := h.2.2.2.2.2.2.1
  have e : ∀ v : Int32, σ.1 345 28 = v ↔ (s : Int) = v.toInt := fun v => by rw [z_eq, t7]
  refine k_X12_text_74 ⟨fun q => absurd h.2.2.1 q, fun _ => ⟨fun _ => k_X12_text_96 (fun y1 e1 => ?_), fun q => ?_⟩⟩
  · subst e1
    refine ⟨fun q => h0 ?_, fun q0 => ⟨fun q => h1 ?_, fun q1 => ⟨fun q => h2 ?_, fun q2 => ⟨fun q => h3 ?_, fun q3 => ?_⟩⟩⟩⟩
    · have := (e 0).mp q; simp only [Int32.reduceToInt] at this; omega
    · have := (e 1).mp q; simp only [Int32.reduceToInt] at this; omega
    · have := (e 2).mp q; simp only [Int32.reduceToInt] at this; omega
    · have := (e 3).mp q; simp only [Int32.reduceToInt] at this; omega
    · rw [e] at q0 q1 q2 q3; simp only [Int32.reduceToInt] at q0 q1 q2 q3; omega
  · have := (e 4).mp q; simp only [Int32.reduceToInt] at this; omega
theorem sg_t {b : Nat → Int} {n w p o f u s m c : Nat} {σ : x_T} (h : q_ms σ b n w p o f u s m) (hc : 32 ≤ c ∧ c < 45) (hk : q_K b n p = c) : σ.1 345 17 = 3 ∧ (σ.1 345 18).toInt = q_ft c := by
  have z := (tq_S h.2.1.2.2 (K_b b n p) hc).mpr hk
  exact ⟨z_eq.mpr z.1, z.2⟩
theorem st_sign {b : Nat → Int} {n w p1 c : Nat} (hc : 36 ≤ c ∧ c ≤ 39) (hk : q_K b n p1 = c) : q_sp1 b n w 1 2 p1 (q_ft c) := by
  intro K0 ρ o f u m ms f1 f2 h
  obtain ⟨f', rfl⟩ : ∃ f', f = f' + 1 := ⟨f - 1, by omega⟩
  obtain ⟨z1, z2⟩ := sg_t ms (by omega) hk
  refine lp_at ms (by omega) (fun q => by omega) (fun q => by omega) (fun _ => e_X12_goesOn (mq_top ms (by omega) ⟨fun q => absurd z1 q, fun _ => ?_⟩)) (fun q => by omega)
  have g : x_WV (1998 + 1) mX12_goesOn (fun t => q_lp K0 t) 49 [(0, .ref 345)] [] ρ := k_X12_goesOn_49 (h _ z2)
  refine ⟨fun _ => g, fun q1 => ⟨fun _ => g, fun q2 => ⟨fun _ => g, fun q3 => ⟨fun q4 => ?_, fun _ => g⟩⟩⟩⟩
  rw [z_eq, z2] at q1 q2 q3 q4
  exfalso
  have : c = 36 ∨ c = 37 ∨ c = 38 ∨ c = 39 := by omega
  rcases this with rfl | rfl | rfl | rfl
  · exact q1 (by decide)
  · exact q2 (by decide)
  · exact q3 (by decide)
  · exact q4 (by decide)
theorem st_or {b : Nat → Int} {n w p1 : Nat} (hk : q_K b n p1 = 20) : q_sp1 b n w 0 3 p1 407 := by
  intro K0 ρ o f u m ms f1 f2 h
  exact lp_at ms (by omega) (fun q => by omega) (fun q => by omega) (fun q => by omega) (fun _ => e_X12_asksOn (mq_isWord ms (c := 20) (by omega) (by decide) (fun _ => ⟨fun _ => k_X12_asksOn_18 (mq_isWord ms (c := 20) (by omega) (by decide) (fun _ => ⟨fun z => absurd z z_10, fun _ => k_X12_asksOn_37 (h _ (by decide))⟩) (fun z => absurd hk z)), fun z => absurd z z_10⟩) (fun z => absurd hk z)))
theorem st_and {b : Nat → Int} {n w p1 : Nat} (hk : q_K b n p1 = 21) : q_sp1 b n w 0 3 p1 406 := by
  intro K0 ρ o f u m ms f1 f2 h
  refine lp_at ms (by omega) (fun q => by omega) (fun q => by omega) (fun q => by omega) (fun _ => e_X12_asksOn (mq_isWord ms (c := 20) (by omega) (by decide) (fun z => absurd (hk.symm.trans z) (by decide)) (fun z => ⟨fun z => absurd rfl z, fun _ => mq_isWord ms (c := 21) (by omega) (by decide) (fun _ => ⟨fun z => absurd z z_10, fun _ => k_X12_asksOn_18 (mq_isWord ms (c := 20) (by omega) (by decide) (fun z => absurd (hk.symm.trans z) (by decide)) (fun _ => ⟨fun _ => k_X12_asksOn_37 (h _ (by decide)), fun z => absurd rfl z⟩))⟩) (fun z => absurd hk z)⟩)))
/-- where no sum goes on -/
theorem go_65 {b : Nat → Int} {n w p o f u m : Nat} {K0 : x_T → Int32 → Prop} {σ : x_T} (h : q_ms σ b n w p o (f + 1) u 2 m) (hf : f < 40) (hk : ¬ q_K b n p = 36 ∧ ¬ q_K b n p = 37 ∧ ¬ q_K b n p = 38 ∧ ¬ q_K b n p = 39) (g : x_WV (1998 + 1) mX12_goesOn (fun t => q_lp K0 t) 65 [(0, .ref 345), (1, .int (σ.1 357 f))] [] σ) : q_lp K0 σ := by
  have z := fun c hc => tq_S h.2.1.2.2 (K_b b n p) (c := c) hc
  refine lp_at h (by omega) (fun q => by omega) (fun q => by omega) (fun _ => e_X12_goesOn (mq_top h hf ⟨fun _ => g, fun q => ?_⟩)) (fun q => by omega)
  rw [z_eq] at q
  refine ⟨fun q1 => absurd ((z 36 (by omega)).mp ⟨q, ?_⟩) hk.1, fun q1 => ⟨fun q2 => absurd ((z 37 (by omega)).mp ⟨q, ?_⟩) hk.2.1, fun q2 => ⟨fun q3 => absurd ((z 38 (by omega)).mp ⟨q, ?_⟩) hk.2.2.1, fun q3 => ⟨fun _ => g, fun q4 => absurd ((z 39 (by omega)).mp ⟨q, ?_⟩) hk.2.2.2⟩⟩⟩⟩
  · rw [q1]; decide
  · rw [q2]; decide
  · rw [q3]; decide
  · rw [q4]; decide
/-! from one thing to a level -/
theorem lv_1B {b : Nat → Int} {n w s0 o p a pf : Nat} {fl : Int32} (h : q_Rw b n w s0 o p a (q_EB b n fl pf)) : q_Lv b n w s0 o p a 5 0 (q_EB b n fl pf) := fun K0 σ f u hf _ hs hE => h K0 σ f u hf hs hE
theorem lv_1G {b : Nat → Int} {n w P o p a p1 : Nat} {c : q_co} (ho : o ≤ 8) (ha : a + c.length ≤ 1000) (h : q_Rw b n w 1 o p a (q_EO b n w P o a p1 c)) : q_Lv b n w 1 o p a 5 0 (q_EG b n w P o 2 5 a p1 c) := by
  intro K0 σ f u hf ht hs hE
  refine h K0 σ f u hf hs (fun ρ s g => ?_)
  obtain ⟨f1, f2, f3, f4⟩ := hf
  obtain ⟨f', rfl⟩ : ∃ f', f = f' + 1 := ⟨f - 1, by omega⟩
  have tp : ρ.1 357 f' = σ.1 357 f' := g.2.1.2.2.1 f' (by omega)
  have tc := ht.1 rfl
  rw [Nat.add_sub_cancel, ← tp] at tc
  refine k_X12_oneIsOver_0 (mq_top g.1 (by omega) ⟨fun q => absurd (z_eq.mp q) tc.1, fun _ => mq_top g.1 (by omega) ⟨fun _ t5 e5 => ?_, fun q => absurd (z_eq.mp q) tc.2.2⟩⟩)
  obtain ⟨b5, k5⟩ := sq_28 g.1 e5 (s' := 2) (by decide)
  have kk : q_kp σ t5 (f' + 1) u a := kq_t g.2.1 k5 (by omega) (by omega) (by omega)
  have tp5 : t5.1 357 f' = ρ.1 357 f' := k5.2.2.1 f' (by omega)
  refine mq_top b5 (by omega) ⟨fun _ => hE t5 u _ b5 kk (fun d r K _ _ hK => hK t5 ⟨b5, kk, cm_k g.2.2 k5 ha⟩), fun q => absurd (by rw [← tp5]; exact z_eq.mp q) tc.2.1⟩
theorem lv_AG {b : Nat → Int} {n w P o p a p1 : Nat} {c : q_co} (ho : o ≤ 8) (ha : a + c.length ≤ 1000) (h : q_Rw b n w 0 o p a (q_EA b n w P o a p1 c)) : q_Lv b n w 0 o p a 5 0 (q_EG b n w P o 3 5 a p1 c) := by
  intro K0 σ f u hf ht hs hE
  refine h K0 σ f u hf hs (fun ρ s g => ?_)
  obtain ⟨f1, f2, f3, f4⟩ := hf
  obtain ⟨f', rfl⟩ : ∃ f', f = f' + 1 := ⟨f - 1, by omega⟩
  have tp : ρ.1 357 f' = σ.1 357 f' := g.2.1.2.2.1 f' (by omega)
  have tc := ht.2 rfl
  rw [Nat.add_sub_cancel, ← tp] at tc
  refine k_X12_askIsOver_0 (mq_top g.1 (by omega) ⟨fun _ t5 e5 => ?_, fun q => absurd (z_eq.mp q) tc⟩)
  obtain ⟨b5, k5⟩ := sq_28 g.1 e5 (s' := 3) (by decide)
  have kk : q_kp σ t5 (f' + 1) u a := kq_t g.2.1 k5 (by omega) (by omega) (by omega)
  exact hE t5 u _ b5 kk (fun d r K _ _ hK => hK t5 ⟨b5, kk, cm_k g.2.2 k5 ha⟩)
theorem bl_up {σ ρ : x_T} {R R' : Int} {f u f' m : Nat} (h : q_bl σ R f u) (g : q_kp σ ρ f' u m) : q_bl ρ R' (f + 1) u := by
  rcases h with h | ⟨h0, h⟩
  · exact Or.inl h
  · obtain ⟨g1, g2⟩ := g.2.2.2.2.1 (u - 1) (by omega)
    refine Or.inr ⟨h0, ?_⟩
    rw [g1, g2]
    omega
/-- frames and open go back by one -/
theorem sq_dn {σ ρ π : x_T} {b : Nat → Int} {n w p o f u s m : Nat} (h : q_ms σ b n w p (o + 1) (f + 1) u s m) (hf : f ≤ 1000) (ho : o ≤ 1000) (e : ρ = x_w1 σ 345 22 ((σ.1 345 22) - 1)) (e2 : π = x_w1 ρ 345 21 ((ρ.1 345 21) - 1)) : q_ms π b n w p o f u s m ∧ q_kp σ π 1000 1000 1000 := by
  have t5 := h.2.2.2.2.1
  have t4 := h.2.2.2.1
  obtain ⟨b1, k1⟩ := sq_22 h e (f' := f) (by rw [z_sub (by rw [t5]; simp only [Int32.reduceToInt]; omega), t5]; simp only [Int32.reduceToInt]; omega)
  have t4' := b1.2.2.2.1
  obtain ⟨b2, k2⟩ := sq_21 b1 e2 (o' := o) (by rw [z_sub (by rw [t4']; simp only [Int32.reduceToInt]; omega), t4']; simp only [Int32.reduceToInt]; omega)
  exact ⟨b2, kq_t k1 k2 (by omega) (by omega) (by omega)⟩
/-- a sign behind the code -/
theorem mG_1 {b : Nat → Int} {n w P o f u s a p o' f' : Nat} {c : q_co} {op : Int} {σ ρ π : x_T} (h : q_cm ρ P a c) (hz : q_gz op) (ms : q_ms π b n w p o f u s (a + c.length + 1)) (k0 : q_kp σ ρ f u a) (k : q_kp ρ π o' f' (a + c.length)) (hk : f ≤ o' ∧ u ≤ f') (e : (π.1 367 (a + c.length)).toInt = op) : q_mG b n w P o f u s a p (c ++ [(op, 0)]) σ π := by
  refine ⟨by rw [List.length_append, ← Nat.add_assoc]; exact ms, kq_t k0 k hk.1 hk.2 (by omega), cm_ap (cm_k h k (Nat.le_refl _)) (cm_1 e ⟨fun z => ?_, fun z => ?_⟩)⟩
  · rcases z with z | z
    · exact absurd z hz.1
    · exact absurd z hz.2.1
  · rcases z with z | z
    · exact absurd z hz.2.2.1
    · exact absurd z hz.2.2.2
theorem ov_pop {b : Nat → Int} {n w P o f u s a p : Nat} {c : q_co} {op : Int} {K0 : x_T → Int32 → Prop} {σ σ1 ρ : x_T} (hf : f < 40) (ho : o ≤ 8) (hu : u ≤ 1000) (ha : a + c.length < 400) (g : q_mG b n w P (o + 1) (f + 1) u s a p c σ1 ρ) (k : q_kp σ σ1 f u a) (ht : ((ρ.1 357 f).toInt = 7 ∧ op = 402) ∨ ((ρ.1 357 f).toInt = 11 ∧ op = 403)) (hE : ∀ π, q_mG b n w P o f u s a p (c ++ [(op, 0)]) σ π → q_ov K0 π) : q_ov K0 ρ := by
  have go : ∀ v : Int32, v.toInt = op → x_WV (1997 + 1) mX12_oneIsOver (fun t => q_lp K0 t) 37 [(0, .ref 345)] [.int v, .ref 345] ρ := fun v hv => k_X12_oneIsOver_37 (mq_emits g.1 ha (fun t1 b1 k1 e1 e2 t3 e3 t4 e4 => by
    obtain ⟨b4, k4⟩ := sq_dn b1 (by omega) (by omega) e3 e4
    refine hE t4 (mG_1 g.2.2 ?_ b4 (kq_t k g.2.1 (by omega) (Nat.le_refl _) (Nat.le_refl _)) (kq_t k1 k4 (Nat.le_refl _) (Nat.le_refl _) (by omega)) ⟨by omega, by omega⟩ ?_)
    · unfold q_gz; omega
    · rw [(k4.2.2.2.2.2 (a + c.length) (by omega)).1, e1]; exact hv))
  have g18 : x_WV (1997 + 1) mX12_oneIsOver (fun t => q_lp K0 t) 18 [(0, .ref 345)] [] ρ := by
    refine k_X12_oneIsOver_18 (mq_top g.1 hf ⟨fun q => go _ ?_, fun q => go _ ?_⟩)
    · rw [z_eq] at q; simp only [Int32.reduceToInt] at q ⊢; omega
    · rw [z_eq] at q; simp only [Int32.reduceToInt] at q ⊢; omega
  refine k_X12_oneIsOver_0 (mq_top g.1 hf ⟨fun _ => g18, fun q => mq_top g.1 hf ⟨fun q2 => ?_, fun _ => g18⟩⟩)
  rw [z_eq] at q q2; simp only [Int32.reduceToInt] at q q2; omega
theorem ao_pop {b : Nat → Int} {n w P o f u s a p : Nat} {c : q_co} {K0 : x_T → Int32 → Prop} {σ σ1 ρ : x_T} (hf : f < 40) (ho : o ≤ 8) (hu : u ≤ 1000) (ha : a + c.length < 400) (g : q_mG b n w P (o + 1) (f + 1) u s a p c σ1 ρ) (k : q_kp σ σ1 f u a) (ht : (ρ.1 357 f).toInt = 3) (hE : ∀ π, q_mG b n w P o f u s a p (c ++ [(405, 0)]) σ π → q_ao K0 π) : q_ao K0 ρ := by
  refine k_X12_askIsOver_0 (mq_top g.1 hf ⟨fun q => absurd (z_eq.mpr ht) q, fun _ t4 e4 t5 e5 => ?_⟩)
  obtain ⟨b4, k4⟩ := sq_dn g.1 (by omega) (by omega) e4 e5
  refine mq_emits b4 ha (fun t6 b6 k6 e1 e2 => hE t6 (mG_1 g.2.2 (by unfold q_gz; decide) b6 (kq_t k g.2.1 (by omega) (Nat.le_refl _) (Nat.le_refl _)) (kq_t (kq_le k4 (Nat.le_refl _) (Nat.le_refl _) (by omega)) k6 (Nat.le_refl _) (Nat.le_refl _) (Nat.le_refl _)) ⟨by omega, by omega⟩ (by rw [e1]; rfl)))
/-- the pending signs of a level are worked off -/
theorem pa_stop {b : Nat → Int} {n w P o f u s a p d : Nat} {c : q_co} {R : Int} {K : x_T → Prop} {σ ρ : x_T} {r : Int32} (hu : u ≤ 80) (pa : q_pa R ρ (q_mG b n w P o f u s a p c σ)) (hr : 1 ≤ r.toInt ∧ r.toInt ≤ R) (hb : q_bl σ r.toInt f u) (hK : ∀ π, q_mG b n w P o f u s a p c σ π → K π) : x_CV (d + 1) mX12_works [.ref 345, .int r] ρ K := by
  refine e_X12_works (pa d r K hr.1 hr.2 (fun π h => mq_stop h.1 hu ?_ (hK π h)))
  rcases hb with g | ⟨g0, g⟩
  · exact Or.inl g
  · obtain ⟨z1, z2⟩ := h.2.1.2.2.2.2.1 (u - 1) (by omega)
    refine Or.inr ⟨g0, ?_⟩
    rw [z1, z2]
    omega
