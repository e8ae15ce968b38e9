/-! the model's machine: what stands, what is kept -/
def q_sM (c : Nat) : Prop := c = 345 ∨ (357 ≤ c ∧ c ≤ 361) ∨ c = 367 ∨ c = 368
def q_cs (k : Nat) : Prop := (15 ≤ k ∧ k ≤ 22) ∨ k = 25 ∨ k = 28 ∨ k = 37
def q_kp (σ ρ : x_T) (f u m : Nat) : Prop := x_fr q_sM σ ρ ∧ (∀ k, ¬ q_cs k → ρ.1 345 k = σ.1 345 k) ∧ (∀ j, j < f → ρ.1 357 j = σ.1 357 j) ∧ (∀ j, j ≤ f → ρ.1 358 j = σ.1 358 j ∧ ρ.1 361 j = σ.1 361 j) ∧ (∀ j, j < u → ρ.1 359 j = σ.1 359 j ∧ ρ.1 360 j = σ.1 360 j) ∧ ∀ j, j < m → ρ.1 367 j = σ.1 367 j ∧ ρ.1 368 j = σ.1 368 j
theorem kq_r (σ : x_T) (f u m : Nat) : q_kp σ σ f u m := ⟨fr_r _ _, fun _ _ => rfl, fun _ _ => rfl, fun _ _ => ⟨rfl, rfl⟩, fun _ _ => ⟨rfl, rfl⟩, fun _ _ => ⟨rfl, rfl⟩⟩
theorem kq_t {σ ρ π : x_T} {f u m f' u' m' : Nat} (h : q_kp σ ρ f u m) (g : q_kp ρ π f' u' m') (hf : f ≤ f') (hu : u ≤ u') (hm : m ≤ m') : q_kp σ π f u m := by
  obtain ⟨h1, h2, h3, h4, h5, h6⟩ := h
  obtain ⟨g1, g2, g3, g4, g5, g6⟩ := g
  exact ⟨fr_t h1 g1, fun k a => (g2 k a).trans (h2 k a), fun j a => (g3 j (by omega)).trans (h3 j a), fun j a => ⟨(g4 j (by omega)).1.trans (h4 j a).1, (g4 j (by omega)).2.trans (h4 j a).2⟩, fun j a => ⟨(g5 j (by omega)).1.trans (h5 j a).1, (g5 j (by omega)).2.trans (h5 j a).2⟩, fun j a => ⟨(g6 j (by omega)).1.trans (h6 j a).1, (g6 j (by omega)).2.trans (h6 j a).2⟩⟩
theorem kq_le {σ ρ : x_T} {f u m f' u' m' : Nat} (g : q_kp σ ρ f' u' m') (hf : f ≤ f') (hu : u ≤ u') (hm : m ≤ m') : q_kp σ ρ f u m := kq_t (kq_r σ f u m) g hf hu hm
theorem kq_w {σ ρ : x_T} {f u m c k : Nat} (v : Int32) (h : q_kp σ ρ f u m) (hk : (c = 345 ∧ q_cs k) ∨ (c = 357 ∧ f ≤ k) ∨ ((c = 358 ∨ c = 361) ∧ f < k) ∨ ((c = 359 ∨ c = 360) ∧ u ≤ k) ∨ ((c = 367 ∨ c = 368) ∧ m ≤ k)) : q_kp σ (x_w1 ρ c k v) f u m := by
  obtain ⟨h1, h2, h3, h4, h5, h6⟩ := h
  refine ⟨fr_w h1 (by unfold q_sM; omega), fun j a => ?_, fun j a => ?_, fun j a => ⟨?_, ?_⟩, fun j a => ⟨?_, ?_⟩, fun j a => ⟨?_, ?_⟩⟩
  · rw [w1_at, if_neg (fun q => by unfold q_cs at a hk; omega)]; exact h2 j a
  · rw [w1_at, if_neg (by omega)]; exact h3 j a
  · rw [w1_at, if_neg (by omega)]; exact (h4 j a).1
  · rw [w1_at, if_neg (by omega)]; exact (h4 j a).2
  · rw [w1_at, if_neg (by omega)]; exact (h5 j a).1
  · rw [w1_at, if_neg (by omega)]; exact (h5 j a).2
  · rw [w1_at, if_neg (by omega)]; exact (h6 j a).1
  · rw [w1_at, if_neg (by omega)]; exact (h6 j a).2
theorem kq_s {σ ρ : x_T} {f u m k : Nat} (v : Int32) (h : q_kp σ ρ f u m) (hk : (15 ≤ k ∧ k ≤ 22) ∨ k = 25 ∨ k = 28 ∨ k = 37) : q_kp σ (x_w1 ρ 345 k v) f u m := kq_w v h (Or.inl ⟨rfl, hk⟩)
theorem kq_n {σ ρ : x_T} (g : q_fr σ ρ) (f u m : Nat) : q_kp σ ρ f u m := by
  refine ⟨fr_m (fun c hc => Or.inl hc) g.1, fun k a => g.2 k (fun q => a (by unfold q_cs; omega)) (fun q => a (by unfold q_cs; omega)) (fun q => a (by unfold q_cs; omega)) (fun q => a (by unfold q_cs; omega)), fun j _ => ?_, fun j _ => ⟨?_, ?_⟩, fun j _ => ⟨?_, ?_⟩, fun j _ => ⟨?_, ?_⟩⟩
  all_goals rw [g.1.1 _ (by omega)]
theorem kq_b {σ ρ : x_T} {f u m n : Nat} {b : Nat → Int} (h : q_kp σ ρ f u m) (hb : q_Mb σ b n) : q_Mb ρ b n := ⟨by rw [h.2.1 14 (by unfold q_cs; omega)]; exact hb.1, hb.2.1, fun k hk => by rw [h.1.1 348 (by unfold q_sM; omega)]; exact hb.2.2 k hk⟩
def q_ms (σ : x_T) (b : Nat → Int) (n w p o f u s m : Nat) : Prop := q_Mb σ b n ∧ q_T σ b n p ∧ σ.1 345 19 = 0 ∧ (σ.1 345 21).toInt = o ∧ (σ.1 345 22).toInt = f ∧ (σ.1 345 25).toInt = u ∧ (σ.1 345 28).toInt = s ∧ ((σ.1 345 31).toInt = w ∧ σ.1 345 20 = -1) ∧ (σ.1 345 37).toInt = m
theorem sq_mk {σ ρ : x_T} {b : Nat → Int} {n w p o f u s m o' f' u' s' m' a1 a2 a3 : Nat} (h : q_ms σ b n w p o f u s m) (k : q_kp σ ρ a1 a2 a3) (e : ∀ j, 15 ≤ j → j ≤ 20 → ρ.1 345 j = σ.1 345 j) (h21 : (ρ.1 345 21).toInt = o') (h22 : (ρ.1 345 22).toInt = f') (h25 : (ρ.1 345 25).toInt = u') (h28 : (ρ.1 345 28).toInt = s') (h37 : (ρ.1 345 37).toInt = m') : q_ms ρ b n w p o' f' u' s' m' := by
  obtain ⟨t1, t2, t3, t4, t5, t6, t7, t8, t9⟩ := h
  refine ⟨kq_b k t1, ⟨?_, ?_, ?_⟩, ?_, h21, h22, h25, h28, ?_, h37⟩
  · rw [e 15 (by omega) (by omega)]; exact t2.1
  · rw [e 16 (by omega) (by omega)]; exact t2.2.1
  · rw [e 17 (by omega) (by omega), e 18 (by omega) (by omega)]; exact t2.2.2
  · rw [e 19 (by omega) (by omega)]; exact t3
  · rw [k.2.1 31 (by unfold q_cs; omega), e 20 (by omega) (by omega)]; exact t8
theorem sq_21 {σ ρ : x_T} {b : Nat → Int} {n w p o f u s m o' : Nat} {v : Int32} (h : q_ms σ b n w p o f u s m) (e : ρ = x_w1 σ 345 21 v) (hv : v.toInt = o') : q_ms ρ b n w p o' f u s m ∧ q_kp σ ρ 1000 1000 1000 := by
  have k : q_kp σ ρ 1000 1000 1000 := by rw [e]; exact kq_s v (kq_r _ _ _ _) (by omega)
  refine ⟨sq_mk h k (fun j a c => by rw [e, w1_at, if_neg (by omega)]) ?_ ?_ ?_ ?_ ?_, k⟩
  · rw [e, w1_at, if_pos ⟨rfl, rfl⟩]; exact hv
  · rw [e, w1_at, if_neg (by omega)]; exact h.2.2.2.2.1
  · rw [e, w1_at, if_neg (by omega)]; exact h.2.2.2.2.2.1
  · rw [e, w1_at, if_neg (by omega)]; exact h.2.2.2.2.2.2.1
  · rw [e, w1_at, if_neg (by omega)]; exact h.2.2.2.2.2.2.2.2
theorem sq_22 {σ ρ : x_T} {b : Nat → Int} {n w p o f u s m f' : Nat} {v : Int32} (h : q_ms σ b n w p o f u s m) (e : ρ = x_w1 σ 345 22 v) (hv : v.toInt = f') : q_ms ρ b n w p o f' u s m ∧ q_kp σ ρ 1000 1000 1000 := by
  have k : q_kp σ ρ 1000 1000 1000 := by rw [e]; exact kq_s v (kq_r _ _ _ _) (by omega)
  refine ⟨sq_mk h k (fun j a c => by rw [e, w1_at, if_neg (by omega)]) ?_ ?_ ?_ ?_ ?_, k⟩
  · rw [e, w1_at, if_neg (by omega)]; exact h.2.2.2.1
  · rw [e, w1_at, if_pos ⟨rfl, rfl⟩]; exact hv
  · rw [e, w1_at, if_neg (by omega)]; exact h.2.2.2.2.2.1
  · rw [e, w1_at, if_neg (by omega)]; exact h.2.2.2.2.2.2.1
  · rw [e, w1_at, if_neg (by omega)]; exact h.2.2.2.2.2.2.2.2
theorem sq_25 {σ ρ : x_T} {b : Nat → Int} {n w p o f u s m u' : Nat} {v : Int32} (h : q_ms σ b n w p o f u s m) (e : ρ = x_w1 σ 345 25 v) (hv : v.toInt = u') : q_ms ρ b n w p o f u' s m ∧ q_kp σ ρ 1000 1000 1000 := by
  have k : q_kp σ ρ 1000 1000 1000 := by rw [e]; exact kq_s v (kq_r _ _ _ _) (by omega)
  refine ⟨sq_mk h k (fun j a c => by rw [e, w1_at, if_neg (by omega)]) ?_ ?_ ?_ ?_ ?_, k⟩
  · rw [e, w1_at, if_neg (by omega)]; exact h.2.2.2.1
  · rw [e, w1_at, if_neg (by omega)]; exact h.2.2.2.2.1
  · rw [e, w1_at, if_pos ⟨rfl, rfl⟩]; exact hv
  · rw [e, w1_at, if_neg (by omega)]; exact h.2.2.2.2.2.2.1
  · rw [e, w1_at, if_neg (by omega)]; exact h.2.2.2.2.2.2.2.2
theorem sq_28 {σ ρ : x_T} {b : Nat → Int} {n w p o f u s m s' : Nat} {v : Int32} (h : q_ms σ b n w p o f u s m) (e : ρ = x_w1 σ 345 28 v) (hv : v.toInt = s') : q_ms ρ b n w p o f u s' m ∧ q_kp σ ρ 1000 1000 1000 := by
  have k : q_kp σ ρ 1000 1000 1000 := by rw [e]; exact kq_s v (kq_r _ _ _ _) (by omega)
  refine ⟨sq_mk h k (fun j a c => by rw [e, w1_at, if_neg (by omega)]) ?_ ?_ ?_ ?_ ?_, k⟩
  · rw [e, w1_at, if_neg (by omega)]; exact h.2.2.2.1
  · rw [e, w1_at, if_neg (by omega)]; exact h.2.2.2.2.1
  · rw [e, w1_at, if_neg (by omega)]; exact h.2.2.2.2.2.1
  · rw [e, w1_at, if_pos ⟨rfl, rfl⟩]; exact hv
  · rw [e, w1_at, if_neg (by omega)]; exact h.2.2.2.2.2.2.2.2
theorem sq_37 {σ ρ : x_T} {b : Nat → Int} {n w p o f u s m m' : Nat} {v : Int32} (h : q_ms σ b n w p o f u s m) (e : ρ = x_w1 σ 345 37 v) (hv : v.toInt = m') : q_ms ρ b n w p o f u s m' ∧ q_kp σ ρ 1000 1000 1000 := by
  have k : q_kp σ ρ 1000 1000 1000 := by rw [e]; exact kq_s v (kq_r _ _ _ _) (by omega)
  refine ⟨sq_mk h k (fun j a c => by rw [e, w1_at, if_neg (by omega)]) ?_ ?_ ?_ ?_ ?_, k⟩
  · rw [e, w1_at, if_neg (by omega)]; exact h.2.2.2.1
  · rw [e, w1_at, if_neg (by omega)]; exact h.2.2.2.2.1
  · rw [e, w1_at, if_neg (by omega)]; exact h.2.2.2.2.2.1
  · rw [e, w1_at, if_neg (by omega)]; exact h.2.2.2.2.2.2.1
  · rw [e, w1_at, if_pos ⟨rfl, rfl⟩]; exact hv
/-- a cell that is not the machine's own -/
theorem sq_c {σ ρ : x_T} {b : Nat → Int} {n w p o f u s m c k a1 a2 a3 : Nat} {v : Int32} (h : q_ms σ b n w p o f u s m) (e : ρ = x_w1 σ c k v) (hk : (c = 357 ∧ a1 ≤ k) ∨ ((c = 358 ∨ c = 361) ∧ a1 < k) ∨ ((c = 359 ∨ c = 360) ∧ a2 ≤ k) ∨ ((c = 367 ∨ c = 368) ∧ a3 ≤ k)) : q_ms ρ b n w p o f u s m ∧ q_kp σ ρ a1 a2 a3 := by
  have k : q_kp σ ρ a1 a2 a3 := by rw [e]; exact kq_w v (kq_r _ _ _ _) (Or.inr hk)
  have g : ρ.1 345 = σ.1 345 := by rw [e]; exact w1_c (by omega)
  exact ⟨sq_mk h k (fun j _ _ => by rw [g]) (by rw [g]; exact h.2.2.2.1) (by rw [g]; exact h.2.2.2.2.1) (by rw [g]; exact h.2.2.2.2.2.1) (by rw [g]; exact h.2.2.2.2.2.2.1) (by rw [g]; exact h.2.2.2.2.2.2.2.2), k⟩
theorem mq_next {d n w p o f u s m : Nat} {σ : x_T} {b : Nat → Int} {K : x_T → Prop} (h : q_ms σ b n w p o f u s m) (hK : ∀ ρ : x_T, q_ms ρ b n w (p + 1) o f u s m → q_kp σ ρ 1000 1000 1000 → K ρ) : x_CV (d + 1 + 1) mX12_next [.ref 345] σ K := by
  obtain ⟨t1, t2, t3, t4, t5, t6, t7, t8, t9⟩ := h
  refine ml_next t1 t2.1 (fun ρ g t => hK ρ ⟨qf_b g t1, t, ?_, ?_, ?_, ?_, ?_, ?_, ?_⟩ (kq_n g _ _ _))
  case refine_6 => rw [g.2 31 (by omega) (by omega) (by omega) (by omega), g.2 20 (by omega) (by omega) (by omega) (by omega)]; exact t8
  all_goals rw [g.2 _ (by omega) (by omega) (by omega) (by omega)]; assumption
theorem mq_errs {d n w p o f u s m : Nat} {v : Int32} {σ : x_T} {b : Nat → Int} {K : x_T → Prop} (h : q_ms σ b n w p o f u s m) (hK : ∀ ρ : x_T, q_kp σ ρ 1000 1000 1000 → ρ.1 345 19 = v → (ρ.1 345 20).toInt = q_tp b n p → K ρ) : x_CV d mX12_errs [.ref 345, .int v] σ K := by
  obtain ⟨t1, t2, t3, t4, t5, t6, t7, t8, t9⟩ := h
  refine e_X12_errs ⟨fun q => absurd t3 q, fun _ s1 e1 s2 e2 => hK s2 ?_ ?_ ?_⟩
  · rw [e2, e1]; exact kq_s _ (kq_s _ (kq_r _ _ _ _) (by omega)) (by omega)
  · rw [e2, w1_at, if_neg (by omega), e1, w1_at, if_pos ⟨rfl, rfl⟩]
  · rw [e2, w1_at, if_pos ⟨rfl, rfl⟩, e1, w1_at, if_neg (by omega)]; exact t2.2.1
theorem mq_emits {d n w p o f u s m : Nat} {v1 v2 : Int32} {σ : x_T} {b : Nat → Int} {K : x_T → Prop} (h : q_ms σ b n w p o f u s m) (hm : m < 400) (hK : ∀ ρ : x_T, q_ms ρ b n w p o f u s (m + 1) → q_kp σ ρ 1000 1000 m → ρ.1 367 m = v1 → ρ.1 368 m = v2 → K ρ) : x_CV d mX12_emits [.ref 345, .int v1, .int v2] σ K := by
  have t9 := h.2.2.2.2.2.2.2.2
  have cm : (σ.1 345 37).toNatClampNeg = m := by rw [z_cl, t9]; omega
  refine e_X12_emits ⟨ix_n (by omega), fun s1 e1 => ?_⟩
  have a1 : s1.1 345 = σ.1 345 := by rw [e1]; exact w1_c (by omega)
  rw [a1, cm]
  rw [cm] at e1
  refine ⟨ix_n (by omega), fun s2 e2 s3 e3 => ?_⟩
  have a2 : s2.1 345 = σ.1 345 := by rw [e2, w1_c (by omega)]; exact a1
  rw [a2] at e3
  obtain ⟨b1, k1⟩ := sq_c h e1 (a1 := 1000) (a2 := 1000) (a3 := m) (by omega)
  obtain ⟨b2, k2⟩ := sq_c b1 e2 (a1 := 1000) (a2 := 1000) (a3 := m) (by omega)
  obtain ⟨b3, k3⟩ := sq_37 b2 e3 (m' := m + 1) (by rw [z_add (by rw [t9]; simp only [Int32.reduceToInt]; omega), t9]; simp only [Int32.reduceToInt]; omega)
  refine hK s3 b3 (kq_t (kq_t k1 k2 (by omega) (by omega) (by omega)) k3 (by omega) (by omega) (by omega)) ?_ ?_
  · rw [e3, w1_c (by omega), e2, w1_c (by omega), e1, w1_at, if_pos ⟨rfl, rfl⟩]
  · rw [e3, w1_c (by omega), e2, w1_at, if_pos ⟨rfl, rfl⟩]
theorem mq_open {d n w p o f u s m : Nat} {v1 : Int32} {σ : x_T} {b : Nat → Int} {K : x_T → Prop} (h : q_ms σ b n w p o f u s m) (hf : f < 40) (hK : ∀ ρ : x_T, q_ms ρ b n w p o (f + 1) u s m → q_kp σ ρ f 1000 1000 → ρ.1 357 f = v1 → K ρ) : x_CV d mX12_opensFrame [.ref 345, .int v1] σ K := by
  have t5 := h.2.2.2.2.1
  have cm : (σ.1 345 22).toNatClampNeg = f := by rw [z_cl, t5]; omega
  refine e_X12_opensFrame ⟨ix_n (by omega), fun s1 e1 s2 e2 => ?_⟩
  have a1 : s1.1 345 = σ.1 345 := by rw [e1]; exact w1_c (by omega)
  rw [cm] at e1
  rw [a1] at e2
  obtain ⟨b1, k1⟩ := sq_c h e1 (a1 := f) (a2 := 1000) (a3 := 1000) (by omega)
  obtain ⟨b2, k2⟩ := sq_22 b1 e2 (f' := f + 1) (by rw [z_add (by rw [t5]; simp only [Int32.reduceToInt]; omega), t5]; simp only [Int32.reduceToInt]; omega)
  refine hK s2 b2 (kq_t k1 k2 (by omega) (by omega) (by omega)) ?_
  rw [e2, w1_c (by omega), e1, w1_at, if_pos ⟨rfl, rfl⟩]
theorem mq_top {d n w p o f u s m : Nat} {σ : x_T} {b : Nat → Int} {K : x_T → Int32 → Prop} (h : q_ms σ b n w p o (f + 1) u s m) (hf : f < 40) (hK : K σ (σ.1 357 f)) : x_CI d mX12_top [.ref 345] σ K := by
  have t5 := h.2.2.2.2.1
  have e : ((σ.1 345 22) - 1).toInt = f := by rw [z_sub (by rw [t5]; simp only [Int32.reduceToInt]; omega), t5]; simp only [Int32.reduceToInt]; omega
  have cm : ((σ.1 345 22) - 1).toNatClampNeg = f := by rw [z_cl, e]; omega
  exact e_X12_top ⟨ix_n (by omega), by rw [cm]; exact hK⟩
theorem mq_sign {d n w p o f u s m : Nat} {v1 : Int32} {σ : x_T} {b : Nat → Int} {K : x_T → Int32 → Prop} (h : q_ms σ b n w p o f u s m) (ho : o < 8) (hf : f < 40) (hK : ∀ ρ : x_T, q_ms ρ b n w (p + 1) (o + 1) (f + 1) u s m → q_kp σ ρ f 1000 1000 → ρ.1 357 f = v1 → K ρ 1) : x_CI (d + 1 + 1 + 1) mX12_opensSign [.ref 345, .int v1] σ K := by
  have t4 := h.2.2.2.1
  refine e_X12_opensSign ⟨fun _ s1 e1 => ?_, fun q => ?_⟩
  · obtain ⟨b1, k1⟩ := sq_21 h e1 (o' := o + 1) (by rw [z_add (by rw [t4]; simp only [Int32.reduceToInt]; omega), t4]; simp only [Int32.reduceToInt]; omega)
    refine mq_open b1 hf (fun s2 b2 k2 g2 => mq_next b2 (fun s3 b3 k3 => hK s3 b3 (kq_t (kq_t (kq_le k1 (by omega) (by omega) (by omega)) k2 (by omega) (by omega) (by omega)) k3 (by omega) (by omega) (by omega)) ?_))
    rw [k3.2.2.1 f (by omega)]; exact g2
  · rw [z_eq, t4] at q; simp only [Int32.reduceToInt] at q; omega
theorem mq_sign8 {d n w p f u s m : Nat} {v1 : Int32} {σ : x_T} {b : Nat → Int} {K : x_T → Int32 → Prop} (h : q_ms σ b n w p 8 f u s m) (hK : ∀ ρ : x_T, q_kp σ ρ 1000 1000 1000 → ρ.1 345 19 = 3 → (ρ.1 345 20).toInt = q_tp b n p → K ρ 0) : x_CI (d + 1) mX12_opensSign [.ref 345, .int v1] σ K := by
  have t4 := h.2.2.2.1
  refine e_X12_opensSign ⟨fun q => absurd (z_eq.mpr (by rw [t4]; rfl)) q, fun _ => mq_errs h hK⟩
/-! pending signs -/
def q_rk (o : Int) : Int := if o = 407 then 1 else if o = 406 then 2 else if o = 43 ∨ o = 45 then 3 else 4
theorem mq_rank {d : Nat} {v : Int32} {σ : x_T} {K : x_T → Int32 → Prop} (hK : ∀ a : Int32, a.toInt = q_rk v.toInt → K σ a) : x_CI d mX12_rank [.int v] σ K := by
  refine e_X12_rank ⟨fun q1 => ⟨fun q2 => ⟨fun q3 => hK _ ?_, fun q3 => ⟨fun q4 => hK _ ?_, fun q4 => hK _ ?_⟩⟩, fun q2 => hK _ ?_⟩, fun q1 => hK _ ?_⟩
  all_goals (rw [z_eq] at *; simp only [Int32.reduceToInt] at *; unfold q_rk)
  · rw [if_neg q1, if_neg q2, if_pos (Or.inl q3)]
  · rw [if_neg q1, if_neg q2, if_neg (by omega)]
  · rw [if_neg q1, if_neg q2, if_pos (Or.inr q4)]
  · rw [if_neg q1, if_pos q2]
  · rw [if_pos q1]
def q_wo (d : Nat) (K : x_T → Prop) (r : Int32) (σ : x_T) : Prop := x_WV (d + 1) mX12_works K 0 [(0, .ref 345), (1, .int r)] [] σ
theorem mq_stop {d n w p o f u s m : Nat} {r : Int32} {σ : x_T} {b : Nat → Int} {K : x_T → Prop} (h : q_ms σ b n w p o f u s m) (hu : u ≤ 80) (hs : u = 0 ∨ (0 < u ∧ (¬ (σ.1 360 (u - 1)).toInt = f ∨ q_rk (σ.1 359 (u - 1)).toInt < r.toInt))) (hK : K σ) : q_wo d K r σ := by
  have t6 := h.2.2.2.2.2.1
  have t5 := h.2.2.2.2.1
  refine k_X12_works_0 ⟨fun _ => hK, fun q => ?_⟩
  rw [z_le, t6] at q
  simp only [Int32.reduceToInt] at q
  have e : ((σ.1 345 25) - 1).toInt = ((u - 1 : Nat) : Int) := by rw [z_sub (by rw [t6]; simp only [Int32.reduceToInt]; omega), t6]; simp only [Int32.reduceToInt]; omega
  have cm : ((σ.1 345 25) - 1).toNatClampNeg = u - 1 := by rw [z_cl, e]; omega
  rw [cm]
  refine ⟨ix_n (by omega), fun _ => hK, fun q2 => ⟨ix_n (by omega), mq_rank (fun a ha => ⟨fun _ => hK, fun q3 => ?_⟩)⟩⟩
  rw [z_eq, t5] at q2
  rw [z_lt, ha] at q3
  omega
theorem mq_pop {d n w p o f u s m : Nat} {r : Int32} {σ : x_T} {b : Nat → Int} {K : x_T → Prop} (h : q_ms σ b n w p o f (u + 1) s m) (hu : u < 80) (hm : m < 400) (h1 : (σ.1 360 u).toInt = f) (h2 : r.toInt ≤ q_rk (σ.1 359 u).toInt) (hK : ∀ ρ : x_T, q_ms ρ b n w p o f u s (m + 1) → q_kp σ ρ 1000 1000 m → ρ.1 367 m = σ.1 359 u → ρ.1 368 m = 0 → q_wo d K r ρ) : q_wo d K r σ := by
  have t6 := h.2.2.2.2.2.1
  have t5 := h.2.2.2.2.1
  refine k_X12_works_0 ⟨fun q => ?_, fun q => ?_⟩
  · rw [z_le, t6] at q; simp only [Int32.reduceToInt] at q; omega
  have e : ((σ.1 345 25) - 1).toInt = (u : Int) := by rw [z_sub (by rw [t6]; simp only [Int32.reduceToInt]; omega), t6]; simp only [Int32.reduceToInt]; omega
  have cm : ((σ.1 345 25) - 1).toNatClampNeg = u := by rw [z_cl, e]; omega
  rw [cm]
  refine ⟨ix_n (by omega), fun q2 => absurd (z_eq.mpr (by rw [h1, t5])) q2, fun _ => ⟨ix_n (by omega), mq_rank (fun a ha => ⟨fun q3 => ?_, fun _ s3 e3 => ?_⟩)⟩⟩
  · rw [z_lt, ha] at q3; omega
  obtain ⟨b3, k3⟩ := sq_25 h e3 e
  have t6' := b3.2.2.2.2.2.1
  have cm' : (s3.1 345 25).toNatClampNeg = u := by rw [z_cl, t6']; omega
  rw [cm', (k3.2.2.2.2.1 u (by omega)).1]
  exact ⟨ix_n (by omega), mq_emits b3 hm (fun s4 b4 k4 g1 g2 => hK s4 b4 (kq_t (kq_le k3 (by omega) (by omega) (by omega)) k4 (by omega) (by omega) (by omega)) g1 g2)⟩
theorem mq_wait {d n w p o f u s m : Nat} {v : Int32} {σ : x_T} {b : Nat → Int} {Q K : x_T → Prop} (hu : u < 80) (hQ : ∀ ρ, Q ρ → q_ms ρ b n w p o f u s m) (hw : ∀ (r : Int32) (K' : x_T → Prop), r.toInt = q_rk v.toInt → (∀ ρ, Q ρ → K' ρ) → q_wo (d + 1) K' r σ) (hK : ∀ σ' ρ : x_T, Q σ' → q_ms ρ b n w (p + 1) o f (u + 1) s m → q_kp σ' ρ 1000 u 1000 → ρ.1 359 u = v → (ρ.1 360 u).toInt = f → K ρ) : x_CV (d + 1 + 1 + 1) mX12_waitsFor [.ref 345, .int v] σ K := by
  refine e_X12_waitsFor (mq_rank (fun a ha => e_X12_works (hw a _ ha (fun t3 q3 => ?_))))
  have b3 := hQ t3 q3
  have t6 := b3.2.2.2.2.2.1
  have t5 := b3.2.2.2.2.1
  have cm : (t3.1 345 25).toNatClampNeg = u := by rw [z_cl, t6]; omega
  refine ⟨ix_n (by omega), fun s1 e1 => ?_⟩
  rw [cm] at e1
  obtain ⟨b4, k4⟩ := sq_c b3 e1 (a1 := 1000) (a2 := u) (a3 := 1000) (by omega)
  have a1 : s1.1 345 = t3.1 345 := by rw [e1]; exact w1_c (by omega)
  rw [a1, cm]
  refine ⟨ix_n (by omega), fun s2 e2 s3 e3 => ?_⟩
  obtain ⟨b5, k5⟩ := sq_c b4 e2 (a1 := 1000) (a2 := u) (a3 := 1000) (by omega)
  have a2 : s2.1 345 = t3.1 345 := by rw [e2, w1_c (by omega)]; exact a1
  rw [a2] at e3
  obtain ⟨b6, k6⟩ := sq_25 b5 e3 (u' := u + 1) (by rw [z_add (by rw [t6]; simp only [Int32.reduceToInt]; omega), t6]; simp only [Int32.reduceToInt]; omega)
  refine mq_next b6 (fun s4 b7 k7 => hK t3 s4 q3 b7 (kq_t (kq_t (kq_t k4 k5 (by omega) (by omega) (by omega)) k6 (by omega) (by omega) (by omega)) k7 (by omega) (by omega) (by omega)) ?_ ?_)
  · rw [(k7.2.2.2.2.1 u (by omega)).1, e3, w1_c (by omega), e2, w1_c (by omega), e1, w1_at, if_pos ⟨rfl, rfl⟩]
  · rw [(k7.2.2.2.2.1 u (by omega)).2, e3, w1_c (by omega), e2, w1_at, if_pos ⟨rfl, rfl⟩]; exact t5
