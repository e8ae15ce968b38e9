/-! the model: far -/
theorem far_core {b : Nat → Int} {n w P o p a p1 : Nat} {c : q_co} {E : q_KE} (ho : o < 8) (ha : a + c.length < 400) (hk : q_K b n p = 14) (h : q_Rw b n w 1 (o + 1) (p + 1) a (q_EO b n w P (o + 1) a p1 c)) (h0 : ¬ q_K b n p1 = 11 → E = q_EB b n 1 p1) (h1 : q_K b n p1 = 11 → ∀ (K0 : x_T → Int32 → Prop) (σ σ2 : x_T) (f u : Nat), q_fu 1 o 5 0 σ f u → E K0 σ f u → q_ms σ2 b n w (p1 + 1) (o + 1) (f + 1) u 1 (a + c.length) → q_kp σ σ2 f u a → q_fu 1 (o + 1) 5 0 σ2 (f + 1) u → (σ2.1 357 f).toInt = 11 → q_cm σ2 P a c → q_lp K0 σ2) : q_Rw b n w 1 o p a E := by
  intro K0 σ f u hf hs hE
  have fb := fu_b hf (by omega) (by omega)
  refine mO_op ho hf hs (Or.inr (Or.inr ⟨hk, rfl⟩)) (fun σ1 ms k e => ?_)
  have fu := (fu_up hf k (by omega)).1
  have k' : q_kp σ σ1 f u a := kq_le k (Nat.le_refl _) (by omega) (by omega)
  refine h K0 σ1 (f + 1) u fu ms (fun ρ s g => ?_)
  have e10 : (ρ.1 357 f).toInt = 10 := by rw [g.2.1.2.2.1 f (by omega)]; exact e
  refine k_X12_oneIsOver_0 (mq_top g.1 (by omega) ⟨fun q => ?_, fun _ => mq_top g.1 (by omega) ⟨fun _ t5 e5 => ?_, fun q => ?_⟩⟩)
  · rw [z_eq, e10] at q; exact absurd q (by decide)
  · obtain ⟨b5, k5⟩ := sq_28 g.1 e5 (s' := 2) (by decide)
    have e5' : (t5.1 357 f).toInt = 10 := by rw [k5.2.2.1 f (by omega)]; exact e10
    refine mq_top b5 (by omega) ⟨fun q => absurd (z_eq.mpr e5') q, fun _ => e_X12_bySecond (d := 1996) (mq_isWord b5 (c := 11) (by omega) (by decide) (fun q => ⟨fun _ => ?_, fun z => absurd z z_10⟩) (fun q => ⟨fun z => absurd rfl z, fun _ => ?_⟩))⟩
    · have t22 := b5.2.2.2.2.1
      have ei : ((t5.1 345 22) - 1).toInt = f := by rw [z_sub (by rw [t22]; simp only [Int32.reduceToInt]; omega), t22]; simp only [Int32.reduceToInt]; omega
      have cm : ((t5.1 345 22) - 1).toNatClampNeg = f := by rw [z_cl, ei]; omega
      rw [cm]
      refine ⟨ix_n (by omega), fun t6 e6 => ?_⟩
      obtain ⟨b6, k6⟩ := sq_c b5 e6 (a1 := f) (a2 := 1000) (a3 := 1000) (by omega)
      refine mq_next (d := 1994) b6 (fun t7 b7 k7 t8 e8 => ?_)
      obtain ⟨b8, k8⟩ := sq_28 b7 e8 (s' := 1) (by decide)
      have k58 : q_kp t5 t8 f 1000 1000 := kq_t (kq_t k6 k7 (by omega) (by omega) (by omega)) k8 (by omega) (by omega) (by omega)
      have kk : q_kp ρ t8 f 1000 1000 := kq_t (kq_le k5 (by omega) (by omega) (by omega)) k58 (by omega) (by omega) (by omega)
      have k1 : q_kp σ1 t8 f u a := kq_t (kq_le g.2.1 (by omega) (Nat.le_refl _) (Nat.le_refl _)) kk (by omega) (by omega) (by omega)
      refine h1 q K0 σ t8 f u hf hE b8 (kq_t k' k1 (by omega) (by omega) (by omega)) ⟨by omega, by omega, by omega, bl_k fu.2.2.2 (kq_le k1 (Nat.le_refl _) (Nat.le_refl _) (Nat.le_refl _)) (by omega)⟩ ?_ (cm_k g.2.2 kk (by omega))
      rw [k8.2.2.1 f (by omega), k7.2.2.1 f (by omega), e6, w1_at, if_pos ⟨rfl, rfl⟩]; rfl
    · rw [h0 q] at hE
      exact mq_errs b5 (fun π k2 e1 e2 => hE π (mB_k (kq_t (kq_t (kq_le k' (f := 0) (u := 0) (m := 0) (by omega) (by omega) (by omega)) g.2.1 (by omega) (by omega) (by omega)) k5 (by omega) (by omega) (by omega)) (mB_e k2 e1 e2)))
  · rw [z_eq, e10] at q; exact absurd q (by decide)
theorem mO_farB1 {b : Nat → Int} {n w o p a pf : Nat} {fl : Int32} (ho : o < 8) (hk : q_K b n p = 14) (h : q_Rw b n w 1 (o + 1) (p + 1) a (q_EB b n fl pf)) : q_Rw b n w 1 o p a (q_EB b n fl pf) := by
  intro K0 σ f u hf hs hE
  exact mO_op ho hf hs (Or.inr (Or.inr ⟨hk, rfl⟩)) (fun σ1 ms k e => h K0 σ1 (f + 1) u (fu_up hf k (by omega)).1 ms (fun π g => hE π (mB_k k g)))
theorem mO_farT {b : Nat → Int} {n w P o p a p1 : Nat} {c : q_co} (ho : o < 8) (ha : a + c.length < 400) (hk : q_K b n p = 14) (hk1 : ¬ q_K b n p1 = 11) (h : q_Rw b n w 1 (o + 1) (p + 1) a (q_EO b n w P (o + 1) a p1 c)) : q_Rw b n w 1 o p a (q_EB b n 1 p1) := far_core ho ha hk h (fun _ => rfl) (fun q => absurd q hk1)
theorem mO_farB2 {b : Nat → Int} {n w P o p a p1 pf : Nat} {fl : Int32} {c : q_co} (ho : o < 8) (ha : a + c.length < 400) (hk : q_K b n p = 14) (hk1 : q_K b n p1 = 11) (h : q_Rw b n w 1 (o + 1) (p + 1) a (q_EO b n w P (o + 1) a p1 c)) (h2 : q_Rw b n w 1 (o + 1) (p1 + 1) (a + c.length) (q_EB b n fl pf)) : q_Rw b n w 1 o p a (q_EB b n fl pf) :=
  far_core ho ha hk h (fun q => absurd hk1 q) (fun _ K0 σ σ2 f u hf hE ms k fu e cm => h2 K0 σ2 (f + 1) u fu ms (fun π g => hE π (mB_k k g)))
theorem mO_farG {b : Nat → Int} {n w P o p a p1 p2 : Nat} {c c2 : q_co} (ho : o < 8) (ha : a + c.length + c2.length < 400) (hk : q_K b n p = 14) (hk1 : q_K b n p1 = 11) (h : q_Rw b n w 1 (o + 1) (p + 1) a (q_EO b n w P (o + 1) a p1 c)) (h2 : q_Rw b n w 1 (o + 1) (p1 + 1) (a + c.length) (q_EO b n w P (o + 1) (a + c.length) p2 c2)) : q_Rw b n w 1 o p a (q_EO b n w P o a p2 (c ++ c2 ++ [(403, 0)])) := by
  refine far_core ho (by omega) hk h (fun q => absurd hk1 q) (fun _ K0 σ σ2 f u hf hE ms k fu e cm => h2 K0 σ2 (f + 1) u fu ms (fun ρ s g => ?_))
  have fb := fu_b hf (by omega) (by omega)
  have l : (c ++ c2).length = c.length + c2.length := List.length_append
  have G : q_mG b n w P (o + 1) (f + 1) u s a p2 (c ++ c2) σ2 ρ := ⟨by rw [l, ← Nat.add_assoc]; exact g.1, kq_le g.2.1 (Nat.le_refl _) (Nat.le_refl _) (by omega), cm_ap (cm_k cm g.2.1 (Nat.le_refl _)) g.2.2⟩
  exact ov_pop (by omega) (by omega) (by omega) (by rw [l]; omega) G k (Or.inr ⟨by rw [g.2.1.2.2.1 f (by omega)]; exact e, rfl⟩) (fun π g' => hE π s g')
/-! the model: what is asked -/
theorem mA_at {b : Nat → Int} {n w o p a f u : Nat} {K0 : x_T → Int32 → Prop} {σ : x_T} (hs : q_ms σ b n w p o f u 0 a) (h1 : q_K b n p = 19 → x_CI 1998 mX12_opensSign [.ref 345, .int 3] σ (fun t _ => q_lp K0 t)) (h0 : ¬ q_K b n p = 19 → x_CV 1998 mX12_opensFrame [.ref 345, .int 4] σ (fun t3 => ∀ t5, t5 = x_w1 t3 345 28 1 → q_lp K0 t5)) : q_lp K0 σ :=
  lp_at hs (by omega) (fun _ => e_X12_asks (mq_isWord hs (c := 19) (by omega) (by decide) (fun q => ⟨fun z => absurd z z_10, fun _ => h1 q⟩) (fun q => ⟨fun _ => h0 q, fun z => absurd rfl z⟩))) (fun q => by omega) (fun q => by omega) (fun q => by omega)
theorem mA_8 {b : Nat → Int} {n w p a : Nat} (hk : q_K b n p = 19) : q_Rw b n w 0 8 p a (q_EB b n 3 p) := by
  intro K0 σ f u hf hs hE
  exact mA_at hs (fun _ => mq_sign8 (d := 1997) hs (fun ρ k e1 e2 => hE ρ (mB_e k e1 e2))) (fun q => absurd hk q)
theorem fu_n {o f u : Nat} {σ σ1 : x_T} {m : Nat} (hf : q_fu 0 o 5 0 σ f u) (k : q_kp σ σ1 f 1000 m) (ho : o ≤ 8) : q_fu 0 (o + 1) 5 0 σ1 (f + 1) u ∧ q_fu 1 o 3 2 σ1 (f + 1) u := by
  have fb := fu_b hf ho (by omega)
  have k' : q_kp σ σ1 f u 0 := kq_le k (Nat.le_refl _) (by omega) (by omega)
  exact ⟨⟨by omega, by omega, by omega, bl_up hf.2.2.2 k'⟩, ⟨by omega, by omega, by omega, bl_up hf.2.2.2 k'⟩⟩
theorem mA_notB {b : Nat → Int} {n w o p a pf : Nat} {fl : Int32} (ho : o < 8) (hk : q_K b n p = 19) (h : q_Rw b n w 0 (o + 1) (p + 1) a (q_EB b n fl pf)) : q_Rw b n w 0 o p a (q_EB b n fl pf) := by
  intro K0 σ f u hf hs hE
  have fb := fu_b hf (by omega) (by omega)
  exact mA_at hs (fun _ => mq_sign (d := 1995) hs ho (by omega) (fun σ1 ms k e => h K0 σ1 (f + 1) u (fu_n hf k (by omega)).1 ms (fun π g => hE π (mB_k k g)))) (fun q => absurd hk q)
theorem mA_notG {b : Nat → Int} {n w P o p a p1 : Nat} {c : q_co} (ho : o < 8) (ha : a + c.length < 400) (hk : q_K b n p = 19) (h : q_Rw b n w 0 (o + 1) (p + 1) a (q_EA b n w P (o + 1) a p1 c)) : q_Rw b n w 0 o p a (q_EA b n w P o a p1 (c ++ [(405, 0)])) := by
  intro K0 σ f u hf hs hE
  have fb := fu_b hf (by omega) (by omega)
  exact mA_at hs (fun _ => mq_sign (d := 1995) hs ho (by omega) (fun σ1 ms k e => h K0 σ1 (f + 1) u (fu_n hf k (by omega)).1 ms (fun ρ s g => ao_pop (by omega) (by omega) (by omega) ha g (kq_le k (Nat.le_refl _) (by omega) (by omega)) (by rw [g.2.1.2.2.1 f (by omega), e]; rfl) (fun π g' => hE π s g')))) (fun q => absurd hk q)
theorem mA_op {b : Nat → Int} {n w o p a f u : Nat} {K0 : x_T → Int32 → Prop} {σ : x_T} (ho : o ≤ 8) (hf : q_fu 0 o 5 0 σ f u) (hk : ¬ q_K b n p = 19) (hs : q_ms σ b n w p o f u 0 a) (hK : ∀ σ1 : x_T, q_ms σ1 b n w p o (f + 1) u 1 a → q_kp σ σ1 f 1000 1000 → (σ1.1 357 f).toInt = 4 → q_lp K0 σ1) : q_lp K0 σ := by
  have fb := fu_b hf (by omega) (by omega)
  refine mA_at hs (fun q => absurd q hk) (fun _ => mq_open hs (by omega) (fun t3 ms k e t5 e5 => ?_))
  obtain ⟨b5, k5⟩ := sq_28 ms e5 (s' := 1) (by decide)
  exact hK t5 b5 (kq_t k k5 (by omega) (by omega) (by omega)) (by rw [k5.2.2.1 f (by omega), e]; rfl)
theorem mA_B1 {b : Nat → Int} {n w o p a pf : Nat} {fl : Int32} (ho : o ≤ 8) (hk : ¬ q_K b n p = 19) (h : q_Lv b n w 1 o p a 3 2 (q_EB b n fl pf)) : q_Rw b n w 0 o p a (q_EB b n fl pf) := by
  intro K0 σ f u hf hs hE
  exact mA_op ho hf hk hs (fun σ1 ms k e => h K0 σ1 (f + 1) u (fu_n hf k ho).2 ⟨fun _ => by rw [Nat.add_sub_cancel, e]; omega, fun z => by omega⟩ ms (fun π g => hE π (mB_k k g)))
theorem as_d : ∀ c, c < 45 → 32 ≤ c → ((q_ft c = 60 ∨ q_ft c = 62 ∨ q_ft c = 61 ∨ q_ft c = 35 ∨ q_ft c = 300 ∨ q_ft c = 301) ↔ ((32 ≤ c ∧ c ≤ 35) ∨ c = 43 ∨ c = 44)) := by decide +kernel
theorem mq_asking {d n w p o f u s m : Nat} {σ : x_T} {b : Nat → Int} {K : x_T → Int32 → Prop} (h : q_ms σ b n w p o f u s m) (h3 : σ.1 345 17 = 3) (h1 : q_cp (q_K b n p) → K σ 1) (h0 : ¬ q_cp (q_K b n p) → K σ 0) : x_CI d mX12_isAsking [.int (σ.1 345 18)] σ K := by
  have hb := K_b b n p
  have z := fun c hc => tq_S h.2.1.2.2 hb (c := c) hc
  have s3 : (σ.1 345 17).toInt = 3 := z_eq.mp h3
  unfold q_cp at h1 h0
  have y : ∀ c : Nat, 32 ≤ c ∧ c < 45 → ∀ v : Int32, v.toInt = q_ft c → σ.1 345 18 = v → q_K b n p = c := fun c hc v hv e => (z c hc).mp ⟨s3, by rw [e]; exact hv⟩
  refine e_X12_isAsking ⟨fun q => h1 ?_, fun n1 => ⟨fun q => h1 ?_, fun n2 => ⟨fun q => h1 ?_, fun n3 => ⟨fun q => h1 ?_, fun n4 => ⟨fun q => h1 ?_, fun n5 => ⟨fun n6 => h0 (fun g => ?_), fun q => h1 ?_⟩⟩⟩⟩⟩⟩
  · have := y 32 (by omega) 60 (by decide) q; omega
  · have := y 33 (by omega) 62 (by decide) q; omega
  · have := y 34 (by omega) 61 (by decide) q; omega
  · have := y 35 (by omega) 35 (by decide) q; omega
  · have := y 43 (by omega) 300 (by decide) q; omega
  · have e2 := (h.2.1.2.2.1 (by omega)).2
    rw [z_eq, e2] at n1 n2 n3 n4 n5 n6
    have := (as_d (q_K b n p).toNat (by omega) (by omega)).mpr (by omega)
    simp only [Int32.reduceToInt] at n1 n2 n3 n4 n5 n6
    omega
  · have := y 44 (by omega) 301 (by decide) q; omega
theorem cp_3 {b : Nat → Int} {n w p o f u s m : Nat} {σ : x_T} (h : q_ms σ b n w p o f u s m) (hk : q_cp (q_K b n p)) : σ.1 345 17 = 3 ∧ (σ.1 345 18).toInt = q_ft (q_K b n p).toNat := by
  have hb := K_b b n p
  unfold q_cp at hk
  exact sg_t h (c := (q_K b n p).toNat) (by omega) (by omega)
theorem mA_C {b : Nat → Int} {n w P o p a p1 : Nat} {c : q_co} (ho : o ≤ 8) (ha : a + c.length < 400) (hk : ¬ q_K b n p = 19) (hk1 : ¬ q_K b n p1 = 36 ∧ ¬ q_K b n p1 = 37 ∧ ¬ q_K b n p1 = 38 ∧ ¬ q_K b n p1 = 39) (hc : ¬ q_cp (q_K b n p1)) (h : q_Lv b n w 1 o p a 3 2 (q_EG b n w P o 2 3 a p1 c)) : q_Rw b n w 0 o p a (q_EB b n 1 p1) := by
  intro K0 σ f u hf hs hE
  have fb := fu_b hf (by omega) (by omega)
  refine mA_op ho hf hk hs (fun σ1 ms k e => h K0 σ1 (f + 1) u (fu_n hf k ho).2 ⟨fun _ => by rw [Nat.add_sub_cancel, e]; omega, fun z => by omega⟩ ms (fun ρ u' m' ms1 k1 pa => go_65 ms1 (by omega) hk1 ?_))
  have e4 : (ρ.1 357 f).toInt = 4 := by rw [k1.2.2.1 f (by omega)]; exact e
  have ne : ∀ v : Int32, ¬ v.toInt = 4 → ¬ ρ.1 357 f = v := fun v hv z => hv (by rw [← z]; exact e4)
  have g282 : x_WV (1998 + 1) mX12_goesOn (fun t => q_lp K0 t) 282 [(0, .ref 345), (1, .int (ρ.1 357 f))] [] ρ := by
    refine k_X12_goesOn_282 ⟨fun _ => ⟨fun _ => k_X12_goesOn_346 (mq_errs ms1 (fun π k2 e1 e2 => hE π (mB_k (f := 0) (u := 0) (m := 0) ?_ (mB_e k2 e1 e2)))), fun z => absurd z (ne 1 (by decide))⟩, fun z => absurd z (ne 5 (by decide))⟩
    exact kq_t (kq_le k (by omega) (by omega) (by omega)) k1 (by omega) (by omega) (by omega)
  exact k_X12_goesOn_65 ⟨fun _ => k_X12_goesOn_116 ⟨fun _ => k_X12_goesOn_148 ⟨fun _ => k_X12_goesOn_217 ⟨fun _ => g282, fun _ => ⟨fun _ => g282, fun q => mq_asking ms1 q (fun z => absurd z hc) (fun _ => ⟨fun _ => g282, fun z => absurd rfl z⟩)⟩⟩, fun z => absurd z (ne 9 (by decide))⟩, fun z => absurd z (ne 8 (by decide))⟩, fun z => absurd z (ne 6 (by decide))⟩
/-- from the sign that compares on -/
theorem mA_2 {b : Nat → Int} {n w P o p a p1 : Nat} {c : q_co} {E : q_KE} (ho : o ≤ 8) (ha : a + c.length < 400) (hk : ¬ q_K b n p = 19) (hk1 : ¬ q_K b n p1 = 36 ∧ ¬ q_K b n p1 = 37 ∧ ¬ q_K b n p1 = 38 ∧ ¬ q_K b n p1 = 39) (hc : q_cp (q_K b n p1)) (h : q_Lv b n w 1 o p a 3 2 (q_EG b n w P o 2 3 a p1 c)) (h1 : ∀ (K0 : x_T → Int32 → Prop) (σ σ2 : x_T) (f u : Nat), q_fu 0 o 5 0 σ f u → E K0 σ f u → q_ms σ2 b n w (p1 + 1) o (f + 1) u 1 (a + c.length) → q_kp σ σ2 f u a → q_fu 1 o 3 2 σ2 (f + 1) u → (σ2.1 357 f).toInt = 5 → (σ2.1 358 (f + 1)).toInt = q_ft (q_K b n p1).toNat → q_cm σ2 P a c → q_lp K0 σ2) : q_Rw b n w 0 o p a E := by
  intro K0 σ f u hf hs hE
  have fb := fu_b hf (by omega) (by omega)
  refine mA_op ho hf hk hs (fun σ1 ms k e => h K0 σ1 (f + 1) u (fu_n hf k ho).2 ⟨fun _ => by rw [Nat.add_sub_cancel, e]; omega, fun z => by omega⟩ ms (fun ρ u' m' ms1 k1 pa => go_65 ms1 (by omega) hk1 ?_))
  have fu := (fu_n hf k ho).2
  have e4 : (ρ.1 357 f).toInt = 4 := by rw [k1.2.2.1 f (by omega)]; exact e
  have ne : ∀ v : Int32, ¬ v.toInt = 4 → ¬ ρ.1 357 f = v := fun v hv z => hv (by rw [← z]; exact e4)
  obtain ⟨c3, _⟩ := cp_3 ms1 hc
  refine k_X12_goesOn_65 ⟨fun _ => k_X12_goesOn_116 ⟨fun _ => k_X12_goesOn_148 ⟨fun _ => k_X12_goesOn_217 ⟨fun q => absurd (z_eq.mpr e4) q, fun _ => ⟨fun q => absurd c3 q, fun q => mq_asking ms1 q (fun _ => ⟨fun z => absurd z z_10, fun _ => pa_stop (d := 1997) (by omega) pa (by decide) fu.2.2.2 (fun π g => ?_)⟩) (fun z => absurd hc z)⟩⟩, fun z => absurd z (ne 9 (by decide))⟩, fun z => absurd z (ne 8 (by decide))⟩, fun z => absurd z (ne 6 (by decide))⟩
  have t22 := g.1.2.2.2.2.1
  have c22 : (π.1 345 22).toNatClampNeg = f + 1 := by rw [z_cl, t22]; omega
  rw [c22]
  refine ⟨ix_n (by omega), fun t5 e5 => ?_⟩
  obtain ⟨b5, k5⟩ := sq_c g.1 e5 (a1 := f) (a2 := 1000) (a3 := 1000) (by omega)
  have t22' := b5.2.2.2.2.1
  have ei : ((t5.1 345 22) - 1).toInt = f := by rw [z_sub (by rw [t22']; simp only [Int32.reduceToInt]; omega), t22']; simp only [Int32.reduceToInt]; omega
  have cm : ((t5.1 345 22) - 1).toNatClampNeg = f := by rw [z_cl, ei]; omega
  rw [cm]
  refine ⟨ix_n (by omega), fun t6 e6 => ?_⟩
  obtain ⟨b6, k6⟩ := sq_c b5 e6 (a1 := f) (a2 := 1000) (a3 := 1000) (by omega)
  refine mq_next (d := 1996) b6 (fun t7 b7 k7 t9 e9 => ?_)
  obtain ⟨b9, k9⟩ := sq_28 b7 e9 (s' := 1) (by decide)
  have k69 : q_kp t6 t9 1000 1000 1000 := kq_t k7 k9 (by omega) (by omega) (by omega)
  have kk : q_kp π t9 f 1000 1000 := kq_t (kq_t k5 k6 (by omega) (by omega) (by omega)) k69 (by omega) (by omega) (by omega)
  have ks : q_kp σ1 t9 f u a := kq_t (kq_le g.2.1 (by omega) (Nat.le_refl _) (Nat.le_refl _)) kk (by omega) (by omega) (by omega)
  refine h1 K0 σ t9 f u hf hE b9 (kq_t (kq_le k (Nat.le_refl _) (by omega) (by omega)) ks (Nat.le_refl _) (Nat.le_refl _) (Nat.le_refl _)) ⟨by omega, by omega, by omega, bl_k fu.2.2.2 ks (by omega)⟩ ?_ ?_ (cm_k g.2.2 kk (by omega))
  · rw [k69.2.2.1 f (by omega), e6, w1_at, if_pos ⟨rfl, rfl⟩]; rfl
  · rw [(k69.2.2.2.1 (f + 1) (by omega)).1, e6, w1_c (by omega), e5, w1_at, if_pos ⟨rfl, rfl⟩]
    exact (cp_3 g.1 hc).2
theorem mA_B2 {b : Nat → Int} {n w P o p a p1 pf : Nat} {fl : Int32} {c : q_co} (ho : o ≤ 8) (ha : a + c.length < 400) (hk : ¬ q_K b n p = 19) (hk1 : ¬ q_K b n p1 = 36 ∧ ¬ q_K b n p1 = 37 ∧ ¬ q_K b n p1 = 38 ∧ ¬ q_K b n p1 = 39) (hc : q_cp (q_K b n p1)) (h : q_Lv b n w 1 o p a 3 2 (q_EG b n w P o 2 3 a p1 c)) (h2 : q_Lv b n w 1 o (p1 + 1) (a + c.length) 3 2 (q_EB b n fl pf)) : q_Rw b n w 0 o p a (q_EB b n fl pf) :=
  mA_2 ho ha hk hk1 hc h (fun K0 σ σ2 f u hf hE ms k fu e _ cm => h2 K0 σ2 (f + 1) u fu ⟨fun _ => by rw [Nat.add_sub_cancel, e]; omega, fun z => by omega⟩ ms (fun π g => hE π (mB_k k g)))
theorem mA_G {b : Nat → Int} {n w P o p a p1 p2 : Nat} {c c2 : q_co} (ho : o ≤ 8) (ha : a + c.length + c2.length < 400) (hk : ¬ q_K b n p = 19) (hk1 : ¬ q_K b n p1 = 36 ∧ ¬ q_K b n p1 = 37 ∧ ¬ q_K b n p1 = 38 ∧ ¬ q_K b n p1 = 39) (hc : q_cp (q_K b n p1)) (hk2 : ¬ q_K b n p2 = 36 ∧ ¬ q_K b n p2 = 37 ∧ ¬ q_K b n p2 = 38 ∧ ¬ q_K b n p2 = 39) (h : q_Lv b n w 1 o p a 3 2 (q_EG b n w P o 2 3 a p1 c)) (h2 : q_Lv b n w 1 o (p1 + 1) (a + c.length) 3 2 (q_EG b n w P o 2 3 (a + c.length) p2 c2)) (hz : q_gz (q_ft (q_K b n p1).toNat)) : q_Rw b n w 0 o p a (q_EA b n w P o a p2 (c ++ c2 ++ [(q_ft (q_K b n p1).toNat, 0)])) := by
  refine mA_2 ho (by omega) hk hk1 hc h (fun K0 σ σ2 f u hf hE ms k fu e ec cm => h2 K0 σ2 (f + 1) u fu ⟨fun _ => by rw [Nat.add_sub_cancel, e]; omega, fun z => by omega⟩ ms (fun ρ u' m' ms1 k1 pa => go_65 ms1 (by have := fu_b hf (by omega) (by omega); omega) hk2 ?_))
  have fb := fu_b hf (by omega) (by omega)
  have e5 : (ρ.1 357 f).toInt = 5 := by rw [k1.2.2.1 f (by omega)]; exact e
  have ne : ∀ v : Int32, ¬ v.toInt = 5 → ¬ ρ.1 357 f = v := fun v hv z => hv (by rw [← z]; exact e5)
  refine k_X12_goesOn_65 ⟨fun _ => k_X12_goesOn_116 ⟨fun _ => k_X12_goesOn_148 ⟨fun _ => k_X12_goesOn_217 ⟨fun _ => k_X12_goesOn_282 ⟨fun q => absurd (z_eq.mpr e5) q, fun _ => pa_stop (d := 1997) (by omega) pa (by decide) fu.2.2.2 (fun π g => ?_)⟩, fun z => absurd z (ne 4 (by decide))⟩, fun z => absurd z (ne 9 (by decide))⟩, fun z => absurd z (ne 8 (by decide))⟩, fun z => absurd z (ne 6 (by decide))⟩
  have t22 := g.1.2.2.2.2.1
  have c22 : (π.1 345 22).toNatClampNeg = f + 1 := by rw [z_cl, t22]; omega
  rw [c22]
  refine ⟨ix_n (by omega), fun y7 e7 t8 e8 => ?_⟩
  obtain ⟨b8, k8⟩ := sq_22 g.1 e8 (f' := f) (by rw [z_sub (by rw [t22]; simp only [Int32.reduceToInt]; omega), t22]; simp only [Int32.reduceToInt]; omega)
  have l : (c ++ c2).length = c.length + c2.length := List.length_append
  refine mq_emits b8 (by omega) (fun t9 b9 k9 d1 d2 => e_X12_askIsOver (d := 1997) (hE t9 2 ?_))
  have cmm : q_cm π P a (c ++ c2) := cm_ap (cm_k cm g.2.1 (Nat.le_refl _)) g.2.2
  have kk : q_kp π t9 1000 1000 (a + (c ++ c2).length) := kq_t (kq_le k8 (by omega) (by omega) (by rw [l]; omega)) k9 (by omega) (by omega) (by rw [l]; omega)
  refine mG_1 cmm hz (by rw [l, ← Nat.add_assoc]; exact b9) (kq_t k g.2.1 (by omega) (Nat.le_refl _) (by omega)) kk ⟨by omega, by omega⟩ ?_
  rw [l, ← Nat.add_assoc, d1, e7, (g.2.1.2.2.2.1 (f + 1) (by omega)).1]
  exact ec
