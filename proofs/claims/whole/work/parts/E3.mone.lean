/-! the model begins: one thing -/
theorem fu_b {s0 o r2 f u : Nat} {R : Int} {σ : x_T} (h : q_fu s0 o R r2 σ f u) (ho : o ≤ 8) (hs : s0 ≤ 1) : 1 ≤ f ∧ f ≤ 17 ∧ u ≤ 34 ∧ f ≤ 2 * o + s0 ∧ u + r2 ≤ 2 * f := by
  obtain ⟨h1, h2, h3, _⟩ := h
  omega
theorem mO_num {b : Nat → Int} {n w P o p a : Nat} (ho : o ≤ 8) (ha : a < 400) (hk : q_K b n p = 45) (hv : 0 ≤ q_V b n p ∧ q_V b n p ≤ 9999) : q_Rw b n w 1 o p a (q_EO b n w P o a (p + 1) [(400, q_V b n p)]) := by
  intro K0 σ f u hf hs hE
  have fb := fu_b hf ho (by omega)
  have z := hs.2.1.2.2.2.1 hk
  have e17 : σ.1 345 17 = 2 := z_eq.mpr z.1
  have e18 : (σ.1 345 18).toInt = q_V b n p := by omega
  refine lp_at hs (by omega) (fun q => by omega) (fun _ => e_X12_begins ?_) (fun q => by omega) (fun q => by omega)
  have g : ∀ a2 : Int32, (σ.1 345 18 ≤ 9999 → x_CV 1998 mX12_emits [.ref 345, .int 400, .int (σ.1 345 18)] σ (fun t26 => x_CV 1998 mX12_next [.ref 345] t26 (fun t28 => x_CV 1998 mX12_oneIsOver [.ref 345] t28 (fun t30 => q_lp K0 t30)))) ∧ (¬ σ.1 345 18 ≤ 9999 → x_CV 1998 mX12_errs [.ref 345, .int 2] σ (fun t32 => q_lp K0 t32)) := by
    intro a2
    refine ⟨fun _ => mq_emits hs ha (fun t1 b1 k1 e1 e2 => mq_next (d := 1996) b1 (fun t2 b2 k2 => e_X12_oneIsOver (d := 1997) (hE t2 1 ⟨b2, kq_t (kq_le k1 (by omega) (by omega) (Nat.le_refl _)) k2 (by omega) (by omega) (by omega), cm_1 ?_ ⟨fun _ => ?_, fun q => absurd q (by decide)⟩⟩))), fun q => ?_⟩
    · rw [(k2.2.2.2.2.2 a (by omega)).1, e1]; rfl
    · rw [(k2.2.2.2.2.2 a (by omega)).2, e2]; exact e18
    · rw [z_le, e18] at q; exact absurd hv.2 q
  exact mq_name hs (fun j a2 _ _ _ => ⟨fun q => absurd e17 q, fun _ => g a2⟩) (fun _ => ⟨fun q => absurd e17 q, fun _ => g 0⟩)
theorem mB_e {b : Nat → Int} {n p : Nat} {fl : Int32} {σ ρ : x_T} (k : q_kp σ ρ 1000 1000 1000) (e1 : ρ.1 345 19 = fl) (e2 : (ρ.1 345 20).toInt = q_tp b n p) : q_mB b n fl p σ ρ := ⟨kq_le k (by omega) (by omega) (by omega), e1, e2⟩
theorem mO_num2 {b : Nat → Int} {n w o p a : Nat} (hk : q_K b n p = 45) (hv : ¬ (0 ≤ q_V b n p ∧ q_V b n p ≤ 9999)) : q_Rw b n w 1 o p a (q_EB b n 2 p) := by
  intro K0 σ f u hf hs hE
  have z := hs.2.1.2.2.2.1 hk
  have e17 : σ.1 345 17 = 2 := z_eq.mpr z.1
  refine lp_at hs (by omega) (fun q => by omega) (fun _ => e_X12_begins ?_) (fun q => by omega) (fun q => by omega)
  have g : (σ.1 345 18 ≤ 9999 → x_CV 1998 mX12_emits [.ref 345, .int 400, .int (σ.1 345 18)] σ (fun t26 => x_CV 1998 mX12_next [.ref 345] t26 (fun t28 => x_CV 1998 mX12_oneIsOver [.ref 345] t28 (fun t30 => q_lp K0 t30)))) ∧ (¬ σ.1 345 18 ≤ 9999 → x_CV 1998 mX12_errs [.ref 345, .int 2] σ (fun t32 => q_lp K0 t32)) := by
    refine ⟨fun q => ?_, fun _ => mq_errs hs (fun ρ k e1 e2 => hE ρ (mB_e k e1 e2))⟩
    rw [z_le] at q; simp only [Int32.reduceToInt] at q; omega
  exact mq_name hs (fun j a2 _ _ _ => ⟨fun q => absurd e17 q, fun _ => g⟩) (fun _ => ⟨fun q => absurd e17 q, fun _ => g⟩)
theorem mO_nw {b : Nat → Int} {n w p o f u s m : Nat} {σ : x_T} (h : q_ms σ b n w p o f u s m) (hk : ¬ q_K b n p = 45) : ¬ σ.1 345 17 = 2 := fun q => hk ((tq_N h.2.1.2.2 (K_b b n p)).mp (z_eq.mp q))
theorem mO_nj {b : Nat → Int} {n w o p a j f u : Nat} {K0 : x_T → Int32 → Prop} {σ : x_T} (hw4 : w < 4) (hj : j < 12) (hk : q_K b n p = x_wd j) (hs : q_ms σ b n w p o f u 1 a) (h1 : x_al w j → ∀ a2 : Int32, a2.toInt = j → x_CV 1998 mX12_emits [.ref 345, .int 401, .int a2] σ (fun t18 => x_CV 1998 mX12_next [.ref 345] t18 (fun t20 => x_CV 1998 mX12_oneIsOver [.ref 345] t20 (fun t22 => q_lp K0 t22)))) (h0 : ¬ x_al w j → x_CV 1998 mX12_errs [.ref 345, .int 5] σ (fun t24 => q_lp K0 t24)) : q_lp K0 σ := by
  have wk := wd_k j hj
  have nw : ¬ σ.1 345 17 = 2 := mO_nw hs (by omega)
  refine lp_at hs (by omega) (fun q => by omega) (fun _ => e_X12_begins (mq_name hs (fun j' a2 hj' hk' ha2 => ⟨fun _ => ⟨fun q => ?_, fun _ => mq_may ha2 hs.2.2.2.2.2.2.2.1.1 hj' hw4 (fun q => ⟨fun _ => ?_, fun z => absurd z z_10⟩) (fun q => ⟨fun z => absurd rfl z, fun _ => ?_⟩)⟩, fun q => absurd q nw⟩) (fun z => absurd hk (z j hj)))) (fun q => by omega) (fun q => by omega)
  · rw [z_eq, ha2] at q; simp only [Int32.reduceToInt] at q; omega
  · have e : j' = j := by
      have : ∀ i, i < 12 → ∀ j, j < 12 → x_wd i = x_wd j → i = j := by decide +kernel
      exact this j' hj' j hj (by omega)
    subst e
    exact h1 q a2 ha2
  · have e : j' = j := by
      have : ∀ i, i < 12 → ∀ j, j < 12 → x_wd i = x_wd j → i = j := by decide +kernel
      exact this j' hj' j hj (by omega)
    subst e
    exact h0 q
theorem mO_nameG {b : Nat → Int} {n w P o p a j : Nat} (ho : o ≤ 8) (ha : a < 400) (hw4 : w < 4) (hj : j < 12) (hk : q_K b n p = x_wd j) (hal : x_al w j) : q_Rw b n w 1 o p a (q_EO b n w P o a (p + 1) [(401, (j : Int))]) := by
  intro K0 σ f u hf hs hE
  have fb := fu_b hf ho (by omega)
  refine mO_nj hw4 hj hk hs (fun _ a2 ha2 => mq_emits hs ha (fun t1 b1 k1 e1 e2 => mq_next (d := 1996) b1 (fun t2 b2 k2 => e_X12_oneIsOver (d := 1997) (hE t2 1 ⟨b2, kq_t (kq_le k1 (by omega) (by omega) (Nat.le_refl _)) k2 (by omega) (by omega) (by omega), cm_1 ?_ ⟨fun _ => ?_, fun q => absurd q (by decide)⟩⟩)))) (fun z => absurd hal z)
  · rw [(k2.2.2.2.2.2 a (by omega)).1, e1]; rfl
  · rw [(k2.2.2.2.2.2 a (by omega)).2, e2]; exact ha2
theorem mO_name5 {b : Nat → Int} {n w o p a j : Nat} (hw4 : w < 4) (hj : j < 12) (hk : q_K b n p = x_wd j) (hal : ¬ x_al w j) : q_Rw b n w 1 o p a (q_EB b n 5 p) := by
  intro K0 σ f u hf hs hE
  exact mO_nj hw4 hj hk hs (fun z => absurd z hal) (fun _ => mq_errs hs (fun ρ k e1 e2 => hE ρ (mB_e k e1 e2)))
theorem mO_at {b : Nat → Int} {n w o p a f u : Nat} {K0 : x_T → Int32 → Prop} {σ : x_T} (hj : ∀ j, j < 12 → ¬ q_K b n p = x_wd j) (h45 : ¬ q_K b n p = 45) (hs : q_ms σ b n w p o f u 1 a) (h15 : q_K b n p = 15 → x_CI 1998 mX12_opensSign [.ref 345, .int 2] σ (fun t13 a14 => (a14 = 0 → q_lp K0 t13) ∧ (¬ a14 = 0 → ∀ t15, t15 = x_w1 t13 345 28 0 → q_lp K0 t15))) (h40 : q_K b n p = 40 → x_CI 1998 mX12_opensSign [.ref 345, .int 6] σ (fun t1 _ => q_lp K0 t1)) (h37 : q_K b n p = 37 → x_CI 1998 mX12_opensSign [.ref 345, .int 7] σ (fun t1 _ => q_lp K0 t1)) (h14 : q_K b n p = 14 → x_CI 1998 mX12_opensSign [.ref 345, .int 10] σ (fun t1 _ => q_lp K0 t1)) (h0 : ¬ q_K b n p = 15 → ¬ q_K b n p = 40 → ¬ q_K b n p = 37 → ¬ q_K b n p = 14 → x_CV 1998 mX12_errs [.ref 345, .int 1] σ (fun t11 => q_lp K0 t11)) : q_lp K0 σ := by
  have nw : ¬ σ.1 345 17 = 2 := mO_nw hs h45
  have g144 : (q_K b n p = 40 ∨ q_K b n p = 37 ∨ q_K b n p = 14) → x_WV (1998 + 1) mX12_begins (fun t => q_lp K0 t) 144 [(0, .ref 345)] [] σ := by
    intro hk
    refine k_X12_begins_144 (mq_isSign hs (c := 40) (by omega) (by decide) (fun q => ⟨fun z => absurd z z_10, fun _ => k_X12_begins_175 (h40 q)⟩) (fun q1 => ⟨fun _ => mq_isSign hs (c := 37) (by omega) (by decide) (fun q => ⟨fun z => absurd z z_10, fun _ => k_X12_begins_175 (h37 q)⟩) (fun q2 => ⟨fun _ => k_X12_begins_175 (h14 (by omega)), fun z => absurd rfl z⟩), fun z => absurd rfl z⟩))
  refine lp_at hs (by omega) (fun q => by omega) (fun _ => e_X12_begins (mq_name hs (fun j' a2 hj' hk' ha2 => absurd hk' (hj j' hj')) (fun _ => ⟨fun _ => ⟨fun _ => mq_isWord hs (c := 15) (by omega) (by decide) (fun q => ⟨fun z => absurd z z_10, fun _ => h15 q⟩) (fun q1 => ⟨fun _ => mq_isSign hs (c := 40) (by omega) (by decide) (fun q => ⟨fun _ => g144 (Or.inl q), fun z => absurd z z_10⟩) (fun q2 => ⟨fun z => absurd rfl z, fun _ => mq_isSign hs (c := 37) (by omega) (by decide) (fun q => ⟨fun _ => g144 (Or.inr (Or.inl q)), fun z => absurd z z_10⟩) (fun q3 => ⟨fun z => absurd rfl z, fun _ => mq_isWord hs (c := 14) (by omega) (by decide) (fun q => ⟨fun z => absurd z z_10, fun _ => g144 (Or.inr (Or.inr q))⟩) (fun q4 => ⟨fun _ => h0 q1 q2 q3 q4, fun z => absurd rfl z⟩)⟩)⟩), fun z => absurd rfl z⟩), fun z => absurd rfl z⟩, fun q => absurd q nw⟩))) (fun q => by omega) (fun q => by omega)
theorem mO_name1 {b : Nat → Int} {n w o p a : Nat} (hj : ∀ j, j < 12 → ¬ q_K b n p = x_wd j) (hk : ¬ q_K b n p = 14 ∧ ¬ q_K b n p = 15 ∧ ¬ q_K b n p = 37 ∧ ¬ q_K b n p = 40 ∧ ¬ q_K b n p = 45) : q_Rw b n w 1 o p a (q_EB b n 1 p) := by
  intro K0 σ f u hf hs hE
  exact mO_at hj hk.2.2.2.2 hs (fun q => absurd q hk.2.1) (fun q => absurd q hk.2.2.2.1) (fun q => absurd q hk.2.2.1) (fun q => absurd q hk.1) (fun _ _ _ _ => mq_errs hs (fun ρ k e1 e2 => hE ρ (mB_e k e1 e2)))
theorem wd_n {k : Int} (hk : k = 14 ∨ k = 15 ∨ k = 37 ∨ k = 40) : ∀ j, j < 12 → ¬ k = x_wd j := by
  intro j hj
  have := wd_k j hj
  omega
theorem mO_8 {b : Nat → Int} {n w p a : Nat} (hk : q_K b n p = 14 ∨ q_K b n p = 15 ∨ q_K b n p = 37 ∨ q_K b n p = 40) : q_Rw b n w 1 8 p a (q_EB b n 3 p) := by
  intro K0 σ f u hf hs hE
  refine mO_at (wd_n hk) (by omega) hs (fun q => mq_sign8 (d := 1997) hs (fun ρ k e1 e2 => ⟨fun _ => hE ρ (mB_e k e1 e2), fun z => absurd rfl z⟩)) (fun q => mq_sign8 (d := 1997) hs (fun ρ k e1 e2 => hE ρ (mB_e k e1 e2))) (fun q => mq_sign8 (d := 1997) hs (fun ρ k e1 e2 => hE ρ (mB_e k e1 e2))) (fun q => mq_sign8 (d := 1997) hs (fun ρ k e1 e2 => hE ρ (mB_e k e1 e2))) (fun _ _ _ _ => by omega)
/-- something opens, and its frame with it -/
theorem mO_op {b : Nat → Int} {n w o p a f u : Nat} {K0 : x_T → Int32 → Prop} {σ : x_T} {fr : Int} (ho : o < 8) (hf : q_fu 1 o 5 0 σ f u) (hs : q_ms σ b n w p o f u 1 a) (hk : (q_K b n p = 40 ∧ fr = 6) ∨ (q_K b n p = 37 ∧ fr = 7) ∨ (q_K b n p = 14 ∧ fr = 10)) (hK : ∀ σ1 : x_T, q_ms σ1 b n w (p + 1) (o + 1) (f + 1) u 1 a → q_kp σ σ1 f 1000 1000 → (σ1.1 357 f).toInt = fr → q_lp K0 σ1) : q_lp K0 σ := by
  have fb := fu_b hf (by omega) (by omega)
  refine mO_at (wd_n (by omega)) (by omega) hs (fun q => by omega) (fun q => mq_sign (d := 1995) hs ho (by omega) (fun ρ ms k e => hK ρ ms k (by rw [e]; simp only [Int32.reduceToInt]; omega))) (fun q => mq_sign (d := 1995) hs ho (by omega) (fun ρ ms k e => hK ρ ms k (by rw [e]; simp only [Int32.reduceToInt]; omega))) (fun q => mq_sign (d := 1995) hs ho (by omega) (fun ρ ms k e => hK ρ ms k (by rw [e]; simp only [Int32.reduceToInt]; omega))) (fun _ _ _ _ => by omega)
theorem fu_up {o f u : Nat} {σ σ1 : x_T} {m : Nat} (hf : q_fu 1 o 5 0 σ f u) (k : q_kp σ σ1 f 1000 m) (ho : o ≤ 8) : q_fu 1 (o + 1) 5 0 σ1 (f + 1) u ∧ q_fu 1 (o + 1) 3 2 σ1 (f + 1) u ∧ q_fu 0 (o + 1) 1 2 σ1 (f + 1) u := by
  have fb := fu_b hf ho (by omega)
  have k' : q_kp σ σ1 f u 0 := kq_le k (Nat.le_refl _) (by omega) (by omega)
  exact ⟨⟨by omega, by omega, by omega, bl_up hf.2.2.2 k'⟩, ⟨by omega, by omega, by omega, bl_up hf.2.2.2 k'⟩, ⟨by omega, by omega, by omega, bl_up hf.2.2.2 k'⟩⟩
theorem mO_minB {b : Nat → Int} {n w o p a pf : Nat} {fl : Int32} (ho : o < 8) (hk : q_K b n p = 37) (h : q_Rw b n w 1 (o + 1) (p + 1) a (q_EB b n fl pf)) : q_Rw b n w 1 o p a (q_EB b n fl pf) := by
  intro K0 σ f u hf hs hE
  exact mO_op ho hf hs (Or.inr (Or.inl ⟨hk, rfl⟩)) (fun σ1 ms k e => h K0 σ1 (f + 1) u (fu_up hf k (by omega)).1 ms (fun π g => hE π (mB_k k g)))
theorem mO_minG {b : Nat → Int} {n w P o p a p1 : Nat} {c : q_co} (ho : o < 8) (ha : a + c.length < 400) (hk : q_K b n p = 37) (h : q_Rw b n w 1 (o + 1) (p + 1) a (q_EO b n w P (o + 1) a p1 c)) : q_Rw b n w 1 o p a (q_EO b n w P o a p1 (c ++ [(402, 0)])) := by
  intro K0 σ f u hf hs hE
  have fb := fu_b hf (by omega) (by omega)
  exact mO_op ho hf hs (Or.inr (Or.inl ⟨hk, rfl⟩)) (fun σ1 ms k e => h K0 σ1 (f + 1) u (fu_up hf k (by omega)).1 ms (fun ρ s g => ov_pop (by omega) (by omega) (by omega) ha g (kq_le k (Nat.le_refl _) (by omega) (by omega)) (Or.inl ⟨by rw [g.2.1.2.2.1 f (by omega)]; exact e, rfl⟩) (fun π g' => hE π s g')))
theorem mO_parB {b : Nat → Int} {n w o p a pf : Nat} {fl : Int32} (ho : o < 8) (hk : q_K b n p = 40) (h : q_Lv b n w 1 (o + 1) (p + 1) a 3 2 (q_EB b n fl pf)) : q_Rw b n w 1 o p a (q_EB b n fl pf) := by
  intro K0 σ f u hf hs hE
  exact mO_op ho hf hs (Or.inl ⟨hk, rfl⟩) (fun σ1 ms k e => h K0 σ1 (f + 1) u (fu_up hf k (by omega)).2.1 ⟨fun _ => by rw [Nat.add_sub_cancel, e]; omega, fun z => by omega⟩ ms (fun π g => hE π (mB_k k g)))
theorem mO_par {b : Nat → Int} {n w P o p a p1 : Nat} {c : q_co} {E : q_KE} (ho : o < 8) (ha : a + c.length < 400) (hk : q_K b n p = 40) (hk1 : ¬ q_K b n p1 = 36 ∧ ¬ q_K b n p1 = 37 ∧ ¬ q_K b n p1 = 38 ∧ ¬ q_K b n p1 = 39) (h : q_Lv b n w 1 (o + 1) (p + 1) a 3 2 (q_EG b n w P (o + 1) 2 3 a p1 c)) (h1 : q_K b n p1 = 41 → E = q_EO b n w P o a (p1 + 1) c) (h0 : ¬ q_K b n p1 = 41 → E = q_EB b n 1 p1) : q_Rw b n w 1 o p a E := by
  intro K0 σ f u hf hs hE
  have fb := fu_b hf (by omega) (by omega)
  refine mO_op ho hf hs (Or.inl ⟨hk, rfl⟩) (fun σ1 ms k e => ?_)
  have fu := (fu_up hf k (by omega)).2.1
  refine h K0 σ1 (f + 1) u fu ⟨fun _ => by rw [Nat.add_sub_cancel, e]; omega, fun z => by omega⟩ ms (fun ρ u' m' ms1 k1 pa => go_65 ms1 (by omega) hk1 ?_)
  have e6 : (ρ.1 357 f).toInt = 6 := by rw [k1.2.2.1 f (by omega)]; exact e
  refine k_X12_goesOn_65 ⟨fun q => absurd (z_eq.mpr e6) q, fun _ => mq_isSign ms1 (c := 41) (by omega) (by decide) (fun q => ⟨fun z => absurd z z_10, fun _ => ?_⟩) (fun q => ⟨fun _ => ?_, fun z => absurd rfl z⟩)⟩
  · rw [h1 q] at hE
    refine pa_stop (d := 1997) (by omega) pa (by decide) fu.2.2.2 (fun π g t5 e5 t6 e6 => ?_)
    obtain ⟨b6, k6⟩ := sq_dn g.1 (by omega) (by omega) e5 e6
    refine mq_next (d := 1996) b6 (fun t7 b7 k7 => e_X12_oneIsOver (d := 1997) (hE t7 2 ⟨b7, ?_, ?_⟩))
    · exact kq_t (kq_t (kq_t (kq_le k (Nat.le_refl _) (by omega) (by omega)) g.2.1 (by omega) (Nat.le_refl _) (Nat.le_refl _)) k6 (by omega) (by omega) (by omega)) k7 (by omega) (by omega) (by omega)
    · exact cm_k (cm_k g.2.2 k6 (by omega)) k7 (by omega)
  · rw [h0 q] at hE
    have ne : ∀ v : Int32, ¬ v.toInt = 6 → ¬ ρ.1 357 f = v := fun v hv z => hv (by rw [← z]; exact e6)
    refine k_X12_goesOn_116 ⟨fun _ => k_X12_goesOn_148 ⟨fun _ => k_X12_goesOn_217 ⟨fun _ => k_X12_goesOn_282 ⟨fun _ => ⟨fun _ => k_X12_goesOn_346 (mq_errs ms1 (fun π k2 e1 e2 => hE π (mB_k (f := 0) (u := 0) (m := 0) ?_ (mB_e k2 e1 e2)))), fun z => absurd z (ne 1 (by decide))⟩, fun z => absurd z (ne 5 (by decide))⟩, fun z => absurd z (ne 4 (by decide))⟩, fun z => absurd z (ne 9 (by decide))⟩, fun z => absurd z (ne 8 (by decide))⟩
    exact kq_t (kq_le k (by omega) (by omega) (by omega)) k1 (by omega) (by omega) (by omega)
