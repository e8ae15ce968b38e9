/-! the model: if -/
theorem cm_sm {σ ρ : x_T} {P a : Nat} {c : q_co} (h : q_cm σ P a c) (e : ∀ j, a ≤ j → j < a + c.length → ρ.1 367 j = σ.1 367 j ∧ ρ.1 368 j = σ.1 368 j) : q_cm ρ P a c := by
  intro i x hx
  have hi := co_lt hx
  obtain ⟨g1, g2⟩ := e (a + i) (by omega) (by omega)
  rw [g1, g2]
  exact h i x hx
theorem tn_46 {d n w p o f u s m : Nat} {v1 : Int32} {σ : x_T} {b : Nat → Int} {K : x_T → Prop} (h : q_ms σ b n w p o (f + 1) u s m) (hf : f < 40) (hK : ∀ ρ : x_T, q_ms ρ b n w (p + 1) o (f + 1) u 1 m → q_kp σ ρ f 1000 1000 → ρ.1 357 f = v1 → ρ.1 361 = σ.1 361 → ρ.1 368 = σ.1 368 → ρ.1 367 = σ.1 367 → K ρ) : x_WV (d + 1 + 1 + 1) mX12_turnsTo K 46 [(0, .ref 345), (1, .int v1)] [] σ := by
  have t22 := h.2.2.2.2.1
  have ei : ((σ.1 345 22) - 1).toInt = f := by rw [z_sub (by rw [t22]; simp only [Int32.reduceToInt]; omega), t22]; simp only [Int32.reduceToInt]; omega
  have cm : ((σ.1 345 22) - 1).toNatClampNeg = f := by rw [z_cl, ei]; omega
  refine k_X12_turnsTo_46 ⟨ix_n (by omega), fun t1 e1 => ?_⟩
  rw [cm] at e1
  obtain ⟨b1, k1⟩ := sq_c h e1 (a1 := f) (a2 := 1000) (a3 := 1000) (by omega)
  refine ml_next b1.1 b1.2.1.1 (fun t2 g t => ?_)
  intro t4 e4
  have b2 : q_ms t2 b n w (p + 1) o (f + 1) u s m := by
    obtain ⟨c1, c2, c3, c4, c5, c6, c7, c8, c9⟩ := b1
    refine ⟨qf_b g c1, t, ?_, ?_, ?_, ?_, ?_, ?_, ?_⟩
    case refine_6 => rw [g.2 31 (by omega) (by omega) (by omega) (by omega), g.2 20 (by omega) (by omega) (by omega) (by omega)]; exact c8
    all_goals rw [g.2 _ (by omega) (by omega) (by omega) (by omega)]; assumption
  obtain ⟨b4, k4⟩ := sq_28 b2 e4 (s' := 1) (by decide)
  refine hK t4 b4 (kq_t (kq_t k1 (kq_n g f 1000 1000) (Nat.le_refl _) (Nat.le_refl _) (Nat.le_refl _)) k4 (by omega) (by omega) (by omega)) ?_ ?_ ?_ ?_
  · rw [e4, w1_c (by omega), g.1.1 357 (by omega), e1, w1_at, if_pos ⟨rfl, rfl⟩]
  · rw [e4, w1_c (by omega), g.1.1 361 (by omega), e1, w1_c (by omega)]
  · rw [e4, w1_c (by omega), g.1.1 368 (by omega), e1, w1_c (by omega)]
  · rw [e4, w1_c (by omega), g.1.1 367 (by omega), e1, w1_c (by omega)]
theorem mq_turn1 {d n w p o f u s m : Nat} {v1 : Int32} {σ : x_T} {b : Nat → Int} {K : x_T → Prop} (h : q_ms σ b n w p o (f + 1) u s m) (hf : f < 40) (hm : m < 400) (hK : ∀ ρ : x_T, q_ms ρ b n w (p + 1) o (f + 1) u 1 (m + 1) → q_kp σ ρ f 1000 m → ρ.1 357 f = v1 → (ρ.1 361 (f + 1)).toInt = m → (ρ.1 367 m).toInt = 404 → K ρ) : x_CV (d + 1 + 1 + 1) mX12_turnsTo [.ref 345, .int v1, .int 404] σ K := by
  have t22 := h.2.2.2.2.1
  have t37 := h.2.2.2.2.2.2.2.2
  have cm : (σ.1 345 22).toNatClampNeg = f + 1 := by rw [z_cl, t22]; omega
  refine e_X12_turnsTo ⟨ix_n (by omega), fun y1 e1 => ⟨ix_n (by omega), fun t2 e2 => ?_⟩⟩
  rw [cm] at e2
  obtain ⟨b2, k2⟩ := sq_c h e2 (a1 := f) (a2 := 1000) (a3 := 1000) (by omega)
  refine mq_emits b2 hm (fun t3 b3 k3 d1 d2 => ⟨fun _ => tn_46 b3 hf (fun ρ b4 k4 e4 e5 e6 e7 => hK ρ b4 ?_ e4 ?_ ?_), fun q => absurd q (by decide)⟩)
  · exact kq_t (kq_t (kq_le k2 (Nat.le_refl _) (by omega) (by omega)) k3 (by omega) (by omega) (Nat.le_refl _)) k4 (by omega) (by omega) (by omega)
  · rw [e5, (k3.2.2.2.1 (f + 1) (by omega)).2, e2, w1_at, if_pos ⟨rfl, rfl⟩]; exact t37
  · rw [e7, d1]; rfl
theorem mq_turn2 {d n w p o f u s m i : Nat} {v1 : Int32} {σ : x_T} {b : Nat → Int} {K : x_T → Prop} (h : q_ms σ b n w p o (f + 1) u s m) (hf : f < 40) (hm : m < 400) (hi : (σ.1 361 (f + 1)).toInt = i) (him : i < m) (hK : ∀ ρ : x_T, q_ms ρ b n w (p + 1) o (f + 1) u 1 (m + 1) → q_kp σ ρ f 1000 i → ρ.1 357 f = v1 → (ρ.1 361 (f + 1)).toInt = m → (ρ.1 367 m).toInt = 409 → (ρ.1 368 i).toInt = (m + 1 : Nat) → (∀ j, j < m → ρ.1 367 j = σ.1 367 j) → (∀ j, j < m → ¬ j = i → ρ.1 368 j = σ.1 368 j) → K ρ) : x_CV (d + 1 + 1 + 1) mX12_turnsTo [.ref 345, .int v1, .int 409] σ K := by
  have t22 := h.2.2.2.2.1
  have t37 := h.2.2.2.2.2.2.2.2
  have cm : (σ.1 345 22).toNatClampNeg = f + 1 := by rw [z_cl, t22]; omega
  refine e_X12_turnsTo ⟨ix_n (by omega), fun y1 e1 => ⟨ix_n (by omega), fun t2 e2 => ?_⟩⟩
  rw [cm] at e1 e2
  have hy : y1.toInt = i := by rw [e1]; exact hi
  have cy : y1.toNatClampNeg = i := by rw [z_cl, hy]; omega
  obtain ⟨b2, k2⟩ := sq_c h e2 (a1 := f) (a2 := 1000) (a3 := 1000) (by omega)
  refine mq_emits b2 hm (fun t3 b3 k3 d1 d2 => ⟨fun q => absurd rfl q, fun _ => ⟨ix_n (by omega), fun t5 e5 => ?_⟩⟩)
  rw [cy] at e5
  obtain ⟨b5, k5⟩ := sq_c b3 e5 (a1 := 1000) (a2 := 1000) (a3 := i) (by omega)
  refine tn_46 b5 hf (fun ρ b4 k4 g4 g5 g6 g7 => hK ρ b4 ?_ g4 ?_ ?_ ?_ (fun j hj => ?_) (fun j hj hji => ?_))
  · exact kq_t (kq_t (kq_t (kq_le k2 (Nat.le_refl _) (by omega) (by omega)) k3 (by omega) (by omega) (by omega)) k5 (by omega) (by omega) (Nat.le_refl _)) k4 (by omega) (by omega) (by omega)
  · rw [g5, e5, w1_c (by omega), (k3.2.2.2.1 (f + 1) (by omega)).2, e2, w1_at, if_pos ⟨rfl, rfl⟩]; exact t37
  · rw [g7, e5, w1_c (by omega), d1]; rfl
  · rw [g6, e5, w1_at, if_pos ⟨rfl, rfl⟩]; exact b3.2.2.2.2.2.2.2.2
  · rw [g7, e5, w1_c (by omega), (k3.2.2.2.2.2 j hj).1, e2, w1_c (by omega)]
  · rw [g6, e5, w1_at, if_neg (by omega), (k3.2.2.2.2.2 j hj).2, e2, w1_c (by omega)]
theorem mI_op {b : Nat → Int} {n w o p a f u : Nat} {K0 : x_T → Int32 → Prop} {σ : x_T} (ho : o < 8) (hf : q_fu 1 o 5 0 σ f u) (hs : q_ms σ b n w p o f u 1 a) (hk : q_K b n p = 15) (hK : ∀ σ1 : x_T, q_ms σ1 b n w (p + 1) (o + 1) (f + 1) u 0 a → q_kp σ σ1 f 1000 1000 → (σ1.1 357 f).toInt = 2 → q_lp K0 σ1) : q_lp K0 σ := by
  have fb := fu_b hf (by omega) (by omega)
  refine mO_at (wd_n (by omega)) (by omega) hs (fun q => mq_sign (d := 1995) hs ho (by omega) (fun ρ ms k e => ⟨fun z => absurd z z_10, fun _ t15 e15 => ?_⟩)) (fun q => by omega) (fun q => by omega) (fun q => by omega) (fun q => absurd hk q)
  obtain ⟨b5, k5⟩ := sq_28 ms e15 (s' := 0) (by decide)
  exact hK t15 b5 (kq_t k k5 (by omega) (by omega) (by omega)) (by rw [k5.2.2.1 f (by omega), e]; rfl)
theorem mI_B1 {b : Nat → Int} {n w o p a pf : Nat} {fl : Int32} (ho : o < 8) (hk : q_K b n p = 15) (h : q_Lv b n w 0 (o + 1) (p + 1) a 1 2 (q_EB b n fl pf)) : q_Rw b n w 1 o p a (q_EB b n fl pf) := by
  intro K0 σ f u hf hs hE
  exact mI_op ho hf hs hk (fun σ1 ms k e => h K0 σ1 (f + 1) u (fu_up hf k (by omega)).2.2 ⟨fun z => by omega, fun _ => by rw [Nat.add_sub_cancel, e]; omega⟩ ms (fun π g => hE π (mB_k k g)))
/-- from `if` to `then` -/
theorem mI_1 {b : Nat → Int} {n w P o p a p1 : Nat} {c : q_co} {E : q_KE} (ho : o < 8) (ha : a + c.length < 400) (hk : q_K b n p = 15) (hk1 : ¬ q_K b n p1 = 20 ∧ ¬ q_K b n p1 = 21) (h : q_Lv b n w 0 (o + 1) (p + 1) a 1 2 (q_EG b n w P (o + 1) 3 1 a p1 c)) (h0 : ¬ q_K b n p1 = 16 → E = q_EB b n 1 p1) (h1 : q_K b n p1 = 16 → ∀ (K0 : x_T → Int32 → Prop) (σ σ2 : x_T) (f u : Nat), q_fu 1 o 5 0 σ f u → E K0 σ f u → q_ms σ2 b n w (p1 + 1) (o + 1) (f + 1) u 1 (a + c.length + 1) → q_kp σ σ2 f u a → q_fu 1 (o + 1) 3 2 σ2 (f + 1) u → (σ2.1 357 f).toInt = 8 → (σ2.1 361 (f + 1)).toInt = (a + c.length : Nat) → (σ2.1 367 (a + c.length)).toInt = 404 → q_cm σ2 P a c → q_lp K0 σ2) : q_Rw b n w 1 o p a E := by
  intro K0 σ f u hf hs hE
  have fb := fu_b hf (by omega) (by omega)
  refine mI_op ho hf hs hk (fun σ1 ms k e => ?_)
  have fu := (fu_up hf k (by omega)).2.2
  have k' : q_kp σ σ1 f u a := kq_le k (Nat.le_refl _) (by omega) (by omega)
  refine h K0 σ1 (f + 1) u fu ⟨fun z => by omega, fun _ => by rw [Nat.add_sub_cancel, e]; omega⟩ ms (fun ρ u' m' ms1 k1 pa => ?_)
  have e2 : (ρ.1 357 f).toInt = 2 := by rw [k1.2.2.1 f (by omega)]; exact e
  refine lp_at ms1 (by omega) (fun q => by omega) (fun q => by omega) (fun q => by omega) (fun _ => e_X12_asksOn (mq_isWord ms1 (c := 20) (by omega) (by decide) (fun q => absurd q hk1.1) (fun _ => ⟨fun z => absurd rfl z, fun _ => mq_isWord ms1 (c := 21) (by omega) (by decide) (fun q => absurd q hk1.2) (fun _ => ⟨fun _ => mq_top ms1 (by omega) ⟨fun q => absurd (z_eq.mpr e2) q, fun _ => mq_isWord ms1 (c := 16) (by omega) (by decide) (fun q => ⟨fun z => absurd z z_10, fun _ => pa_stop (d := 1997) (by omega) pa (by decide) fu.2.2.2 (fun π g => ?_)⟩) (fun q => ⟨fun _ => ?_, fun z => absurd rfl z⟩)⟩, fun z => absurd rfl z⟩)⟩)))
  · refine mq_turn1 (d := 1995) g.1 (by omega) ha (fun ρ2 b2 k2 g1 g2 g3 => ?_)
    have ks : q_kp σ1 ρ2 f u a := kq_t (kq_le g.2.1 (by omega) (Nat.le_refl _) (Nat.le_refl _)) k2 (Nat.le_refl _) (by omega) (by omega)
    refine h1 q K0 σ ρ2 f u hf hE b2 (kq_t k' ks (Nat.le_refl _) (Nat.le_refl _) (Nat.le_refl _)) ⟨by omega, by omega, by omega, bl_k fu.2.2.2 ks (by omega)⟩ (by rw [g1]; rfl) g2 g3 (cm_k g.2.2 k2 (Nat.le_refl _))
  · rw [h0 q] at hE
    refine k_X12_asksOn_82 (mq_errs ms1 (fun π k2 e1 e2 => hE π (mB_k (f := 0) (u := 0) (m := 0) ?_ (mB_e k2 e1 e2))))
    exact kq_t (kq_le k' (by omega) (by omega) (by omega)) k1 (by omega) (by omega) (by omega)
theorem mI_T {b : Nat → Int} {n w P o p a p1 : Nat} {c : q_co} (ho : o < 8) (ha : a + c.length < 400) (hk : q_K b n p = 15) (hk1 : ¬ q_K b n p1 = 20 ∧ ¬ q_K b n p1 = 21) (hT : ¬ q_K b n p1 = 16) (h : q_Lv b n w 0 (o + 1) (p + 1) a 1 2 (q_EG b n w P (o + 1) 3 1 a p1 c)) : q_Rw b n w 1 o p a (q_EB b n 1 p1) := mI_1 ho ha hk hk1 h (fun _ => rfl) (fun q => absurd q hT)
theorem mI_B2 {b : Nat → Int} {n w P o p a p1 pf : Nat} {fl : Int32} {c : q_co} (ho : o < 8) (ha : a + c.length < 400) (hk : q_K b n p = 15) (hk1 : ¬ q_K b n p1 = 20 ∧ ¬ q_K b n p1 = 21) (hT : q_K b n p1 = 16) (h : q_Lv b n w 0 (o + 1) (p + 1) a 1 2 (q_EG b n w P (o + 1) 3 1 a p1 c)) (h2 : q_Lv b n w 1 (o + 1) (p1 + 1) (a + c.length + 1) 3 2 (q_EB b n fl pf)) : q_Rw b n w 1 o p a (q_EB b n fl pf) :=
  mI_1 ho ha hk hk1 h (fun q => absurd hT q) (fun _ K0 σ σ2 f u hf hE ms k fu e _ _ _ => h2 K0 σ2 (f + 1) u fu ⟨fun _ => by rw [Nat.add_sub_cancel, e]; omega, fun z => by omega⟩ ms (fun π g => hE π (mB_k k g)))
/-- from `if` to `else` -/
theorem mI_2 {b : Nat → Int} {n w P o p a k0 p1 p2 : Nat} {c c2 : q_co} {E : q_KE} (ho : o < 8) (haP : a = P + k0) (ha : a + c.length + 1 + c2.length < 400) (hk : q_K b n p = 15) (hk1 : ¬ q_K b n p1 = 20 ∧ ¬ q_K b n p1 = 21) (hT : q_K b n p1 = 16) (hk2 : ¬ q_K b n p2 = 36 ∧ ¬ q_K b n p2 = 37 ∧ ¬ q_K b n p2 = 38 ∧ ¬ q_K b n p2 = 39) (h : q_Lv b n w 0 (o + 1) (p + 1) a 1 2 (q_EG b n w P (o + 1) 3 1 a p1 c)) (h2 : q_Lv b n w 1 (o + 1) (p1 + 1) (a + c.length + 1) 3 2 (q_EG b n w P (o + 1) 2 3 (a + c.length + 1) p2 c2)) (h0 : ¬ q_K b n p2 = 17 → E = q_EB b n 1 p2)
    (h1 : q_K b n p2 = 17 → ∀ (K0 : x_T → Int32 → Prop) (σ σ2 : x_T) (f u : Nat), q_fu 1 o 5 0 σ f u → E K0 σ f u → q_ms σ2 b n w (p2 + 1) (o + 1) (f + 1) u 1 (a + c.length + 1 + c2.length + 1) → q_kp σ σ2 f u a → q_fu 1 (o + 1) 3 2 σ2 (f + 1) u → (σ2.1 357 f).toInt = 9 → (σ2.1 361 (f + 1)).toInt = (a + c.length + 1 + c2.length : Nat) → (σ2.1 367 (a + c.length + 1 + c2.length)).toInt = 409 → q_cm σ2 P a (c ++ [(404, ((k0 + c.length + 1 + c2.length + 1 : Nat) : Int))] ++ c2) → q_lp K0 σ2) : q_Rw b n w 1 o p a E := by
  refine mI_1 ho (by omega) hk hk1 h (fun q => absurd hT q) (fun _ K0 σ σ2 f u hf hE ms k fu e ei e4 cm => h2 K0 σ2 (f + 1) u fu ⟨fun _ => by rw [Nat.add_sub_cancel, e]; omega, fun z => by omega⟩ ms (fun ρ u' m' ms1 k1 pa => go_65 ms1 (by have := fu_b hf (by omega) (by omega); omega) hk2 ?_))
  have fb := fu_b hf (by omega) (by omega)
  have e8 : (ρ.1 357 f).toInt = 8 := by rw [k1.2.2.1 f (by omega)]; exact e
  have ne : ∀ v : Int32, ¬ v.toInt = 8 → ¬ ρ.1 357 f = v := fun v hv z => hv (by rw [← z]; exact e8)
  refine k_X12_goesOn_65 ⟨fun _ => k_X12_goesOn_116 ⟨fun q => absurd (z_eq.mpr e8) q, fun _ => mq_isWord ms1 (c := 17) (by omega) (by decide) (fun q => ⟨fun z => absurd z z_10, fun _ => pa_stop (d := 1997) (by omega) pa (by decide) fu.2.2.2 (fun π g => ?_)⟩) (fun q => ⟨fun _ => ?_, fun z => absurd rfl z⟩)⟩, fun z => absurd z (ne 6 (by decide))⟩
  · refine mq_turn2 (d := 1995) (i := a + c.length) g.1 (by omega) (by omega) (by rw [(g.2.1.2.2.2.1 (f + 1) (by omega)).2]; exact ei) (by omega) (fun ρ2 b2 k2 g1 g2 g3 g4 g5 g6 => ?_)
    have k2' : q_kp σ2 ρ2 f u a := kq_t (kq_le g.2.1 (by omega) (Nat.le_refl _) (by omega)) k2 (Nat.le_refl _) (by omega) (by omega)
    refine h1 q K0 σ ρ2 f u hf hE b2 (kq_t k k2' (Nat.le_refl _) (Nat.le_refl _) (Nat.le_refl _)) ⟨by omega, by omega, by omega, bl_k fu.2.2.2 k2' (by omega)⟩ (by rw [g1]; rfl) g2 g3 ?_
    have l1 : (c ++ [(404, ((k0 + c.length + 1 + c2.length + 1 : Nat) : Int))]).length = c.length + 1 := by simp only [List.length_append, List.length_cons, List.length_nil]
    refine cm_ap (cm_ap ?_ (cm_1 ?_ ⟨fun z => absurd z (by decide), fun _ => ?_⟩)) ?_
    · exact cm_k (cm_k cm g.2.1 (by omega)) k2 (Nat.le_refl _)
    · rw [g5 _ (by omega), (g.2.1.2.2.2.2.2 (a + c.length) (by omega)).1]; exact e4
    · rw [g4]; omega
    · rw [l1, ← Nat.add_assoc]
      exact cm_sm g.2.2 (fun j j1 j2 => ⟨g5 j (by omega), g6 j (by omega) (by omega)⟩)
  · rw [h0 q] at hE
    refine k_X12_goesOn_148 ⟨fun _ => k_X12_goesOn_217 ⟨fun _ => k_X12_goesOn_282 ⟨fun _ => ⟨fun _ => k_X12_goesOn_346 (mq_errs ms1 (fun π k2 e1 e2 => hE π (mB_k (f := 0) (u := 0) (m := 0) ?_ (mB_e k2 e1 e2)))), fun z => absurd z (ne 1 (by decide))⟩, fun z => absurd z (ne 5 (by decide))⟩, fun z => absurd z (ne 4 (by decide))⟩, fun z => absurd z (ne 9 (by decide))⟩
    exact kq_t (kq_le k (by omega) (by omega) (by omega)) k1 (by omega) (by omega) (by omega)
theorem mI_L {b : Nat → Int} {n w P o p a k0 p1 p2 : Nat} {c c2 : q_co} (ho : o < 8) (haP : a = P + k0) (ha : a + c.length + 1 + c2.length < 400) (hk : q_K b n p = 15) (hk1 : ¬ q_K b n p1 = 20 ∧ ¬ q_K b n p1 = 21) (hT : q_K b n p1 = 16) (hk2 : ¬ q_K b n p2 = 36 ∧ ¬ q_K b n p2 = 37 ∧ ¬ q_K b n p2 = 38 ∧ ¬ q_K b n p2 = 39) (hL : ¬ q_K b n p2 = 17) (h : q_Lv b n w 0 (o + 1) (p + 1) a 1 2 (q_EG b n w P (o + 1) 3 1 a p1 c)) (h2 : q_Lv b n w 1 (o + 1) (p1 + 1) (a + c.length + 1) 3 2 (q_EG b n w P (o + 1) 2 3 (a + c.length + 1) p2 c2)) : q_Rw b n w 1 o p a (q_EB b n 1 p2) := mI_2 ho haP ha hk hk1 hT hk2 h h2 (fun _ => rfl) (fun q => absurd q hL)
theorem mI_B3 {b : Nat → Int} {n w P o p a k0 p1 p2 pf : Nat} {fl : Int32} {c c2 : q_co} (ho : o < 8) (haP : a = P + k0) (ha : a + c.length + 1 + c2.length < 400) (hk : q_K b n p = 15) (hk1 : ¬ q_K b n p1 = 20 ∧ ¬ q_K b n p1 = 21) (hT : q_K b n p1 = 16) (hk2 : ¬ q_K b n p2 = 36 ∧ ¬ q_K b n p2 = 37 ∧ ¬ q_K b n p2 = 38 ∧ ¬ q_K b n p2 = 39) (hL : q_K b n p2 = 17) (h : q_Lv b n w 0 (o + 1) (p + 1) a 1 2 (q_EG b n w P (o + 1) 3 1 a p1 c)) (h2 : q_Lv b n w 1 (o + 1) (p1 + 1) (a + c.length + 1) 3 2 (q_EG b n w P (o + 1) 2 3 (a + c.length + 1) p2 c2)) (h3 : q_Lv b n w 1 (o + 1) (p2 + 1) (a + c.length + 1 + c2.length + 1) 3 2 (q_EB b n fl pf)) : q_Rw b n w 1 o p a (q_EB b n fl pf) :=
  mI_2 ho haP ha hk hk1 hT hk2 h h2 (fun q => absurd hL q) (fun _ K0 σ σ2 f u hf hE ms k fu e _ _ _ => h3 K0 σ2 (f + 1) u fu ⟨fun _ => by rw [Nat.add_sub_cancel, e]; omega, fun z => by omega⟩ ms (fun π g => hE π (mB_k k g)))
/-- to `end` -/
theorem mI_3 {b : Nat → Int} {n w P o p a k0 p1 p2 p3 : Nat} {c c2 c3 : q_co} {E : q_KE} (ho : o < 8) (haP : a = P + k0) (ha : a + c.length + 1 + c2.length + 1 + c3.length ≤ 400) (hk : q_K b n p = 15) (hk1 : ¬ q_K b n p1 = 20 ∧ ¬ q_K b n p1 = 21) (hT : q_K b n p1 = 16) (hk2 : ¬ q_K b n p2 = 36 ∧ ¬ q_K b n p2 = 37 ∧ ¬ q_K b n p2 = 38 ∧ ¬ q_K b n p2 = 39) (hL : q_K b n p2 = 17) (hk3 : ¬ q_K b n p3 = 36 ∧ ¬ q_K b n p3 = 37 ∧ ¬ q_K b n p3 = 38 ∧ ¬ q_K b n p3 = 39) (h : q_Lv b n w 0 (o + 1) (p + 1) a 1 2 (q_EG b n w P (o + 1) 3 1 a p1 c)) (h2 : q_Lv b n w 1 (o + 1) (p1 + 1) (a + c.length + 1) 3 2 (q_EG b n w P (o + 1) 2 3 (a + c.length + 1) p2 c2)) (h3 : q_Lv b n w 1 (o + 1) (p2 + 1) (a + c.length + 1 + c2.length + 1) 3 2 (q_EG b n w P (o + 1) 2 3 (a + c.length + 1 + c2.length + 1) p3 c3)) (h0 : ¬ q_K b n p3 = 18 → E = q_EB b n 1 p3)
    (h1 : q_K b n p3 = 18 → E = q_EO b n w P o a (p3 + 1) (c ++ [(404, ((k0 + c.length + 1 + c2.length + 1 : Nat) : Int))] ++ c2 ++ [(409, ((k0 + c.length + 1 + c2.length + 1 + c3.length : Nat) : Int))] ++ c3)) : q_Rw b n w 1 o p a E := by
  refine mI_2 ho haP (by omega) hk hk1 hT hk2 h h2 (fun q => absurd hL q) (fun _ K0 σ σ2 f u hf hE ms k fu e ei e4 cm => h3 K0 σ2 (f + 1) u fu ⟨fun _ => by rw [Nat.add_sub_cancel, e]; omega, fun z => by omega⟩ ms (fun ρ u' m' ms1 k1 pa => go_65 ms1 (by have := fu_b hf (by omega) (by omega); omega) hk3 ?_))
  have fb := fu_b hf (by omega) (by omega)
  have e9 : (ρ.1 357 f).toInt = 9 := by rw [k1.2.2.1 f (by omega)]; exact e
  have ne : ∀ v : Int32, ¬ v.toInt = 9 → ¬ ρ.1 357 f = v := fun v hv z => hv (by rw [← z]; exact e9)
  refine k_X12_goesOn_65 ⟨fun _ => k_X12_goesOn_116 ⟨fun _ => k_X12_goesOn_148 ⟨fun q => absurd (z_eq.mpr e9) q, fun _ => mq_isWord ms1 (c := 18) (by omega) (by decide) (fun q => ⟨fun z => absurd z z_10, fun _ => pa_stop (d := 1997) (by omega) pa (by decide) fu.2.2.2 (fun π g => ?_)⟩) (fun q => ⟨fun _ => ?_, fun z => absurd rfl z⟩)⟩, fun z => absurd z (ne 8 (by decide))⟩, fun z => absurd z (ne 6 (by decide))⟩
  · rw [h1 q] at hE
    have t22 := g.1.2.2.2.2.1
    have t37 := g.1.2.2.2.2.2.2.2.2
    have c22 : (π.1 345 22).toNatClampNeg = f + 1 := by rw [z_cl, t22]; omega
    have e61 : (π.1 361 (f + 1)).toInt = (a + c.length + 1 + c2.length : Nat) := by rw [(g.2.1.2.2.2.1 (f + 1) (by omega)).2]; exact ei
    have c61 : (π.1 361 (f + 1)).toNatClampNeg = a + c.length + 1 + c2.length := by rw [z_cl, e61]; omega
    rw [c22, c61]
    refine ⟨ix_n (by omega), ix_n (by omega), fun t5 e5 t6 e6 t7 e7 => ?_⟩
    obtain ⟨b5, k5⟩ := sq_c g.1 e5 (a1 := 1000) (a2 := 1000) (a3 := a + c.length + 1 + c2.length) (by omega)
    obtain ⟨b7, k7⟩ := sq_dn b5 (by omega) (by omega) e6 e7
    refine mq_next (d := 1996) b7 (fun t8 b8 k8 => e_X12_oneIsOver (d := 1997) (hE t8 2 ?_))
    have k58 : q_kp t5 t8 1000 1000 1000 := kq_t k7 k8 (by omega) (by omega) (by omega)
    have kp8 : q_kp π t8 1000 1000 (a + c.length + 1 + c2.length) := kq_t k5 k58 (by omega) (by omega) (by omega)
    have l1 : (c ++ [(404, ((k0 + c.length + 1 + c2.length + 1 : Nat) : Int))] ++ c2).length = c.length + 1 + c2.length := by simp only [List.length_append, List.length_cons, List.length_nil]
    have v67 : ∀ j, j < 1000 → t8.1 367 j = π.1 367 j := fun j hj => by rw [(k58.2.2.2.2.2 j hj).1, e5, w1_c (by omega)]
    have v68 : ∀ j, j < 1000 → ¬ j = a + c.length + 1 + c2.length → t8.1 368 j = π.1 368 j := fun j hj hn => by rw [(k58.2.2.2.2.2 j hj).2, e5, w1_at, if_neg (by omega)]
    have w68 : (t8.1 368 (a + c.length + 1 + c2.length)).toInt = (a + c.length + 1 + c2.length + 1 + c3.length : Nat) := by rw [(k58.2.2.2.2.2 _ (by omega)).2, e5, w1_at, if_pos ⟨rfl, rfl⟩]; exact t37
    refine ⟨?_, ?_, cm_ap (cm_ap ?_ (cm_1 ?_ ⟨fun z => absurd z (by decide), fun _ => ?_⟩)) ?_⟩
    · refine Eq.mp (congrArg (q_ms t8 b n w (p3 + 1) o f u 2) ?_) b8
      simp only [List.length_append, List.length_cons, List.length_nil]; omega
    · exact kq_t (kq_t k g.2.1 (by omega) (Nat.le_refl _) (by omega)) kp8 (by omega) (by omega) (by omega)
    · exact cm_k (cm_k cm g.2.1 (by rw [l1]; omega)) kp8 (by rw [l1]; omega)
    · rw [l1, show a + (c.length + 1 + c2.length) = a + c.length + 1 + c2.length by omega, v67 _ (by omega), (g.2.1.2.2.2.2.2 _ (by omega)).1]; exact e4
    · rw [l1, show a + (c.length + 1 + c2.length) = a + c.length + 1 + c2.length by omega, w68]; omega
    · refine Eq.mp (congrArg (fun z => q_cm t8 P z c3) ?_) (cm_sm g.2.2 (fun j j1 j2 => ⟨v67 j (by omega), v68 j (by omega) (by omega)⟩))
      simp only [List.length_append, List.length_cons, List.length_nil]; omega
  · rw [h0 q] at hE
    refine k_X12_goesOn_217 ⟨fun _ => k_X12_goesOn_282 ⟨fun _ => ⟨fun _ => k_X12_goesOn_346 (mq_errs ms1 (fun π k2 e1 e2 => hE π (mB_k (f := 0) (u := 0) (m := 0) ?_ (mB_e k2 e1 e2)))), fun z => absurd z (ne 1 (by decide))⟩, fun z => absurd z (ne 5 (by decide))⟩, fun z => absurd z (ne 4 (by decide))⟩
    exact kq_t (kq_le k (by omega) (by omega) (by omega)) k1 (by omega) (by omega) (by omega)
