/-! the model: a clause -/
abbrev q_KF : Type := (x_T → Int32 → Prop) → x_T → Prop
/-- standing ahead of a clause; of which kind the last one was, nobody asks -/
def q_m0 (σ : x_T) (b : Nat → Int) (n p m : Nat) : Prop := q_Mb σ b n ∧ q_T σ b n p ∧ σ.1 345 19 = 0 ∧ (σ.1 345 21).toInt = (0 : Nat) ∧ (σ.1 345 22).toInt = (0 : Nat) ∧ (σ.1 345 25).toInt = (0 : Nat) ∧ (σ.1 345 28).toInt = (4 : Nat) ∧ (True ∧ σ.1 345 20 = -1) ∧ (σ.1 345 37).toInt = m
theorem m0_of {σ : x_T} {b : Nat → Int} {n w p m : Nat} (h : q_ms σ b n w p 0 0 0 4 m) : q_m0 σ b n p m := ⟨h.1, h.2.1, h.2.2.1, h.2.2.2.1, h.2.2.2.2.1, h.2.2.2.2.2.1, h.2.2.2.2.2.2.1, ⟨trivial, h.2.2.2.2.2.2.2.1.2⟩, h.2.2.2.2.2.2.2.2⟩
def q_mC (b : Nat → Int) (n p m : Nat) (S : List q_se) (E : q_KF) : Prop := ∀ (K0 : x_T → Int32 → Prop) (σ : x_T) (w0 : Nat), q_m0 σ b n p m → q_mS σ S → E K0 σ → q_lp K0 σ
def q_FB (b : Nat → Int) (n : Nat) (fl : Int32) (pf : Nat) : q_KF := fun K0 σ => ∀ ρ, q_kM σ ρ 0 0 → ρ.1 345 19 = fl → (ρ.1 345 20).toInt = q_tp b n pf → q_lp K0 ρ
def q_FG (b : Nat → Int) (n p m : Nat) (S : List q_se) : q_KF := fun K0 σ => ∀ (ρ : x_T) (w0 : Nat), q_ms ρ b n w0 p 0 0 0 4 m → q_mS ρ S → q_kM σ ρ 0 0 → q_lp K0 ρ
theorem kM_le {σ ρ : x_T} {j m j' m' : Nat} (h : q_kM σ ρ j m) (hj : j' ≤ j) (hm : m' ≤ m) : q_kM σ ρ j' m' := ⟨h.1, h.2.1, fun i hi c a b => h.2.2.1 i (by omega) c a b, fun i hi => h.2.2.2 i (by omega)⟩
theorem lp_4 {b : Nat → Int} {n p m : Nat} {K0 : x_T → Int32 → Prop} {σ : x_T} (h : q_m0 σ b n p m) (hk : ¬ q_K b n p = 46) (g : x_CV (1998 + 1) mX12_clause [.ref 345] σ (fun t => q_lp K0 t)) : q_lp K0 σ := by
  have t7 := h.2.2.2.2.2.2.1
  have e : ∀ v : Int32, σ.1 345 28 = v ↔ ((4 : Nat) : Int) = v.toInt := fun v => by rw [z_eq, t7]
  have g96 : x_WI (1999 + 1) mX12_text K0 96 [(0, .ref 345)] [] σ := by
    refine k_X12_text_96 (fun y1 e1 => ?_)
    subst e1
    refine ⟨fun q => ?_, fun q0 => ⟨fun q => ?_, fun q1 => ⟨fun q => ?_, fun q2 => ⟨fun q => ?_, fun q3 => g⟩⟩⟩⟩
    · have := (e 0).mp q; exact absurd this (by decide)
    · have := (e 1).mp q; exact absurd this (by decide)
    · have := (e 2).mp q; exact absurd this (by decide)
    · have := (e 3).mp q; exact absurd this (by decide)
  exact k_X12_text_74 ⟨fun q => absurd h.2.2.1 q, fun _ => ⟨fun _ => g96, fun _ => ⟨fun q => absurd ((tq_E h.2.1.2.2 (K_b b n p)).mp (z_eq.mp q)) hk, fun _ => g96⟩⟩⟩
theorem mw_10 : ∀ k, k < 32 → (q_ft k ≤ 10 ↔ k ≤ 10) ∧ (k ≤ 10 → q_ft k = k) := by decide +kernel
theorem mC_1 {b : Nat → Int} {n p m : Nat} {S : List q_se} (h46 : ¬ q_K b n p = 46) (hk : ¬ q_K b n p ≤ 10) : q_mC b n p m S (q_FB b n 1 p) := by
  intro K0 σ w0 hs hS hE
  have er : x_CV 1998 mX12_errs [.ref 345, .int 1] σ (fun t1 => q_lp K0 t1) := by
    refine e_X12_errs ⟨fun q => absurd hs.2.2.1 q, fun _ s1 e1 s2 e2 => hE s2 ?_ ?_ ?_⟩
    · rw [e2, e1]; exact kM_p (kq_s _ (kq_s _ (kq_r σ 1000 1000 1000) (by omega)) (by omega)) (by omega)
    · rw [e2, w1_at, if_neg (by omega), e1, w1_at, if_pos ⟨rfl, rfl⟩]
    · rw [e2, w1_at, if_pos ⟨rfl, rfl⟩, e1, w1_at, if_neg (by omega)]; exact hs.2.1.2.1
  have hb := K_b b n p
  refine lp_4 hs h46 (e_X12_clause ⟨fun _ => k_X12_clause_17 er, fun q => ⟨fun q2 => ?_, fun _ => k_X12_clause_17 er⟩⟩)
  have lt := (tq_w hs.2.1.2.2 hb).mp (z_eq.mp q)
  have e2 := (hs.2.1.2.2.1 (by omega)).2
  rw [z_le, e2] at q2
  have := ((mw_10 (q_K b n p).toNat (by omega)).1).mp q2
  omega
theorem ms_31 {σ ρ : x_T} {b : Nat → Int} {n w p m : Nat} {v : Int32} (h : q_m0 σ b n p m) (e : ρ = x_w1 σ 345 31 v) (hv : v.toInt = w) : q_ms ρ b n w p 0 0 0 4 m := by
  obtain ⟨t1, t2, t3, t4, t5, t6, t7, t8, t9⟩ := h
  have g : ∀ k, ¬ k = 31 → ρ.1 345 k = σ.1 345 k := fun k hk => by rw [e, w1_at, if_neg (by omega)]
  refine ⟨⟨by rw [g 14 (by omega)]; exact t1.1, t1.2.1, fun k hk => by rw [e, w1_c (by omega)]; exact t1.2.2 k hk⟩, ⟨by rw [g 15 (by omega)]; exact t2.1, by rw [g 16 (by omega)]; exact t2.2.1, by rw [g 17 (by omega), g 18 (by omega)]; exact t2.2.2⟩, by rw [g 19 (by omega)]; exact t3, by rw [g 21 (by omega)]; exact t4, by rw [g 22 (by omega)]; exact t5, by rw [g 25 (by omega)]; exact t6, by rw [g 28 (by omega)]; exact t7, ?_, by rw [g 37 (by omega)]; exact t9⟩
  refine ⟨?_, by rw [g 20 (by omega)]; exact t8.2⟩
  rw [e, w1_at, if_pos ⟨rfl, rfl⟩]; exact hv
theorem ms_M {σ ρ : x_T} {b : Nat → Int} {n w p o f u s m : Nat} (h : q_ms σ b n w p o f u s m) (g : ∀ k, ¬ k = 30 → ρ.1 345 k = σ.1 345 k) (g2 : ρ.1 348 = σ.1 348) : q_ms ρ b n w p o f u s m := by
  obtain ⟨t1, t2, t3, t4, t5, t6, t7, t8, t9⟩ := h
  exact ⟨⟨by rw [g 14 (by omega)]; exact t1.1, t1.2.1, fun k hk => by rw [g2]; exact t1.2.2 k hk⟩, ⟨by rw [g 15 (by omega)]; exact t2.1, by rw [g 16 (by omega)]; exact t2.2.1, by rw [g 17 (by omega), g 18 (by omega)]; exact t2.2.2⟩, by rw [g 19 (by omega)]; exact t3, by rw [g 21 (by omega)]; exact t4, by rw [g 22 (by omega)]; exact t5, by rw [g 25 (by omega)]; exact t6, by rw [g 28 (by omega)]; exact t7, by rw [g 31 (by omega), g 20 (by omega)]; exact t8, by rw [g 37 (by omega)]; exact t9⟩
theorem ms_w {σ ρ : x_T} {b : Nat → Int} {n w p o f u s m c k : Nat} {v : Int32} (h : q_ms σ b n w p o f u s m) (e : ρ = x_w1 σ c k v) (hc : 362 ≤ c ∧ c ≤ 366) : q_ms ρ b n w p o f u s m := ms_M h (fun k _ => by rw [e, w1_c (by omega)]) (by rw [e, w1_c (by omega)])
/-- a clause that begins well -/
theorem mC_at {b : Nat → Int} {n p m w : Nat} {S : List q_se} {K0 : x_T → Int32 → Prop} {σ : x_T} (hk : q_K b n p = w) (hw : w ≤ 10) (h24 : S.length ≤ 24) (hs : q_m0 σ b n p m) (hS : q_mS σ S) (h4 : w < 4 → (∃ (k : Nat) (e : q_se), S[k]? = some e ∧ e.1 = w) → ∀ ρ, q_kM σ ρ 0 0 → ρ.1 345 19 = 4 → (ρ.1 345 20).toInt = q_tp b n p → q_lp K0 ρ) (h1 : (w < 4 → ∀ (k : Nat) (e : q_se), S[k]? = some e → ¬ e.1 = w) → ∀ t1 : x_T, q_ms t1 b n w p 0 0 0 4 m → q_kM σ t1 S.length m → t1.1 345 30 = σ.1 345 30 → x_WV (1998 + 1) mX12_clause (fun t => q_lp K0 t) 58 [(0, .ref 345)] [] t1) : q_lp K0 σ := by
  have e := hs.2.1.2.2.1 (by omega)
  have tw := tq_W hs.2.1.2.2 (K_b b n p) (c := w) (by omega)
  obtain ⟨z1, z2⟩ := tw.mpr hk
  have e18 : (σ.1 345 18).toInt = w := by rw [z2]; exact (mw_10 w (by omega)).2 hw
  refine lp_4 hs (by omega) (e_X12_clause ⟨fun q => absurd (z_eq.mpr z1) q, fun _ => ⟨fun _ t1 e1 => ?_, fun q => ?_⟩⟩)
  · have m1 : q_ms t1 b n w p 0 0 0 4 m := ms_31 hs e1 e18
    have k1 : q_kM σ t1 S.length m := by rw [e1]; exact kM_w _ (kM_r _ _ _) (by omega)
    have e30 : t1.1 345 30 = σ.1 345 30 := by rw [e1, w1_at, if_neg (by omega)]
    have e31 := m1.2.2.2.2.2.2.2.1.1
    have S1 : q_mS t1 S := ⟨by rw [e30]; exact hS.1, fun k e he => by
      obtain ⟨c1, c2, c3, c4, c5, c6⟩ := hS.2 k e he
      have g : ∀ c, ¬ c = 345 → t1.1 c = σ.1 c := fun c hc => by rw [e1, w1_c hc]
      unfold q_m1 q_cm at *
      rw [g 362 (by omega), g 363 (by omega), g 364 (by omega), g 365 (by omega), g 366 (by omega), g 367 (by omega), g 368 (by omega)]
      exact ⟨c1, c2, c3, c4, c5, c6⟩⟩
    refine ⟨fun q => h1 (fun z => ?_) t1 m1 k1 e30, fun q => mq_told S1 h24 e31 (fun ex => ⟨fun z => absurd z z_10, fun _ => mq_errs m1 (fun ρ k2 d1 d2 => k_X12_clause_73 ⟨fun q2 => ?_, fun _ => h4 ?_ ex ρ (kM_t (kM_le k1 (by omega) (by omega)) (kM_p k2 (by omega))) d1 d2⟩)⟩) (fun no => ⟨fun _ => h1 (fun _ => no) t1 m1 k1 e30, fun z => absurd rfl z⟩)⟩
    · rw [z_lt, e31] at q; simp only [Int32.reduceToInt] at q; omega
    · rw [d1] at q2; exact absurd q2 (by decide)
    · rw [z_lt, e31] at q; simp only [Int32.reduceToInt] at q; omega
  · rw [z_le, e18] at q; simp only [Int32.reduceToInt] at q; omega
theorem mC_4 {b : Nat → Int} {n p m w k : Nat} {S : List q_se} {e : q_se} (hk : q_K b n p = w) (hw : w < 4) (h24 : S.length ≤ 24) (he : S[k]? = some e) (hew : e.1 = w) : q_mC b n p m S (q_FB b n 4 p) := by
  intro K0 σ w0 hs hS hE
  exact mC_at hk (by omega) h24 hs hS (fun _ _ ρ k1 d1 d2 => hE ρ k1 d1 d2) (fun no => absurd hew (no hw k e he))
theorem mC_6 {b : Nat → Int} {n p m w : Nat} {S : List q_se} (hk : q_K b n p = w) (hw : w ≤ 10) (h24 : S.length ≤ 24) (hno : w < 4 → ∀ (k : Nat) (e : q_se), S[k]? = some e → ¬ e.1 = w) (h6 : ¬ S.length < 24) : q_mC b n p m S (q_FB b n 6 p) := by
  intro K0 σ w0 hs hS hE
  refine mC_at hk hw h24 hs hS (fun z ex => ?_) (fun _ t1 m1 k1 e30 => k_X12_clause_58 ⟨fun q => ?_, fun _ => mq_errs m1 (fun ρ k2 d1 d2 => k_X12_clause_73 ⟨fun q2 => ?_, fun _ => hE ρ (kM_t (kM_le k1 (by omega) (by omega)) (kM_p k2 (by omega))) d1 d2⟩)⟩)
  · obtain ⟨k, e, h1, h2⟩ := ex
    exact absurd h2 (hno z k e h1)
  · exact absurd (z_eq.mpr (by rw [e30, hS.1]; simp only [Int32.reduceToInt]; omega)) q
  · rw [d1] at q2; exact absurd q2 (by decide)
/-- a clause that may be read -/
theorem mC_go {b : Nat → Int} {n p m w : Nat} {S : List q_se} {K0 : x_T → Int32 → Prop} {σ : x_T} (hm : m ≤ 1000) (hk : q_K b n p = w) (hw : w ≤ 10) (h24 : S.length < 24) (hno : w < 4 → ∀ (k : Nat) (e : q_se), S[k]? = some e → ¬ e.1 = w) (hs : q_m0 σ b n p m) (hS : q_mS σ S) (h : ∀ t3 : x_T, q_ms t3 b n w (p + 1) 0 0 0 4 m → q_kM σ t3 S.length m → (t3.1 345 30).toInt = S.length → (t3.1 362 S.length).toInt = w → (t3.1 363 S.length).toInt = m → ((3 < t3.1 345 31 → x_CV 1998 mX12_doing [.ref 345] t3 (fun t5 => (¬ t5.1 345 19 = 0 → x_WV (1998 + 1) mX12_clause (fun t => q_lp K0 t) 155 [(0, .ref 345)] [] t5) ∧ (t5.1 345 19 = 0 → x_CI 1998 mX12_isSign [.ref 345, .int 59] t5 (fun t7 a8 => (¬ a8 = 0 → x_WV (1998 + 1) mX12_clause (fun t => q_lp K0 t) 155 [(0, .ref 345)] [] t7) ∧ (a8 = 0 → x_CV 1998 mX12_errs [.ref 345, .int 1] t7 (fun t9 => x_WV (1998 + 1) mX12_clause (fun t => q_lp K0 t) 155 [(0, .ref 345)] [] t9)))))) ∧ (¬ 3 < t3.1 345 31 → x_CV 1998 mX12_opensFrame [.ref 345, .int 1] t3 (fun t11 => ∀ t13, t13 = x_w1 t11 345 28 1 → q_lp K0 t13)))) : q_lp K0 σ := by
  refine mC_at hk hw (by omega) hs hS (fun z ex => ?_) (fun _ t1 m1 k1 e30 => k_X12_clause_58 ⟨fun _ => k_X12_clause_73 ⟨fun _ => ?_, fun q => ?_⟩, fun q => ?_⟩)
  · obtain ⟨k, e, h1, h2⟩ := ex
    exact absurd h2 (hno z k e h1)
  · have hj : (t1.1 345 30).toInt = S.length := by rw [e30]; exact hS.1
    have cj : (t1.1 345 30).toNatClampNeg = S.length := by rw [z_cl, hj]; omega
    refine ⟨ix_n (by omega), fun t2 e2 => ?_⟩
    rw [cj] at e2
    have m2 := ms_w m1 e2 (by omega)
    have a2 : t2.1 345 = t1.1 345 := by rw [e2, w1_c (by omega)]
    rw [a2, cj]
    refine ⟨ix_n (by omega), fun t4 e4 => ?_⟩
    have m4 := ms_w m2 e4 (by omega)
    have k4 : q_kM σ t4 S.length m := by rw [e4, e2]; exact kM_w _ (kM_w _ k1 (by omega)) (by omega)
    refine mq_next (d := 1996) m4 (fun t3 m3 k3 => h t3 m3 (kM_t k4 (kM_p k3 hm)) ?_ ?_ ?_)
    · rw [k3.2.1 30 (by unfold q_cs; omega), e4, w1_c (by omega), e2, w1_c (by omega)]; exact hj
    · rw [k3.1.1 362 (by unfold q_sM; omega), e4, w1_c (by omega), e2, w1_at, if_pos ⟨rfl, rfl⟩]; exact m1.2.2.2.2.2.2.2.1.1
    · rw [k3.1.1 363 (by unfold q_sM; omega), e4, w1_at, if_pos ⟨rfl, rfl⟩]; exact m1.2.2.2.2.2.2.2.2
  · rw [m1.2.2.1] at q; exact absurd (by decide) q
  · rw [z_eq, e30, hS.1] at q; simp only [Int32.reduceToInt] at q; omega
/-- the end of a clause -/
theorem mq_over {b : Nat → Int} {n w p o f u s m j d : Nat} {σ : x_T} {K : x_T → Prop} (hm : m < 400) (hj : j ≤ 24) (hs : q_ms σ b n w p o f u s m) (hn : (σ.1 345 30).toInt = j) {Q : x_T → Prop} (hw : x_CV (d + 1 + 1) mX12_works [.ref 345, .int 1] σ Q) (hQ : Q = fun t1 => ∀ t3, t3 = x_w1 t1 345 22 0 → (x_CV (d + 1 + 1) mX12_emits [.ref 345, .int 408, .int 0] t3 (fun t4 => ∀ t6, t6 = x_w1 t4 345 30 ((t4.1 345 30) + 1) → (x_CV (d + 1 + 1) mX12_next [.ref 345] t6 (fun t7 => ∀ t9, t9 = x_w1 t7 345 28 4 → (K t9)))))) : x_CV (d + 1 + 1 + 1) mX12_clauseIsOver [.ref 345] σ K := by
  subst hQ
  exact e_X12_clauseIsOver hw
theorem over_t {b : Nat → Int} {n w p o f u s m j d : Nat} {t1 : x_T} {K : x_T → Prop} (hm : m < 400) (hj : j ≤ 24) (hs : q_ms t1 b n w p o f u s m) (hn : (t1.1 345 30).toInt = j) (hK : ∀ ρ : x_T, q_ms ρ b n w (p + 1) o 0 u 4 (m + 1) → q_kM t1 ρ 1000 m → (ρ.1 345 30).toInt = (j + 1 : Nat) → (ρ.1 367 m).toInt = 408 → K ρ) : ∀ t3, t3 = x_w1 t1 345 22 0 → (x_CV (d + 1 + 1) mX12_emits [.ref 345, .int 408, .int 0] t3 (fun t4 => ∀ t6, t6 = x_w1 t4 345 30 ((t4.1 345 30) + 1) → (x_CV (d + 1 + 1) mX12_next [.ref 345] t6 (fun t7 => ∀ t9, t9 = x_w1 t7 345 28 4 → (K t9))))) := by
  intro t3 e3
  obtain ⟨b3, k3⟩ := sq_22 hs e3 (f' := 0) (by decide)
  refine mq_emits b3 hm (fun t4 b4 k4 d1 d2 t6 e6 => ?_)
  have n4 : (t4.1 345 30).toInt = j := by rw [k4.2.1 30 (by unfold q_cs; omega), k3.2.1 30 (by unfold q_cs; omega)]; exact hn
  have b6 : q_ms t6 b n w p o 0 u s (m + 1) := ms_M b4 (fun k hk => by rw [e6, w1_at, if_neg (by omega)]) (by rw [e6, w1_c (by omega)])
  have k6 : q_kM t1 t6 1000 m := by rw [e6]; exact kM_w _ (kM_t (kM_p k3 (by omega)) (kM_p k4 (Nat.le_refl _))) (by omega)
  refine mq_next b6 (fun t7 b7 k7 t9 e9 => ?_)
  obtain ⟨b9, k9⟩ := sq_28 b7 e9 (s' := 4) (by decide)
  refine hK t9 b9 (kM_t k6 (kM_t (kM_p k7 (by omega)) (kM_p k9 (by omega)))) ?_ ?_
  · rw [k9.2.1 30 (by unfold q_cs; omega), k7.2.1 30 (by unfold q_cs; omega), e6, w1_at, if_pos ⟨rfl, rfl⟩, z_add (by rw [n4]; simp only [Int32.reduceToInt]; omega), n4]; simp only [Int32.reduceToInt]; omega
  · rw [(k9.2.2.2.2.2 m (by omega)).1, (k7.2.2.2.2.2 m (by omega)).1, e6, w1_c (by omega), d1]; rfl
theorem mC_open {b : Nat → Int} {n p m w : Nat} {S : List q_se} {K0 : x_T → Int32 → Prop} {σ : x_T} (hm : m ≤ 400) (hk : q_K b n p = w) (hw : w < 4) (h24 : S.length < 24) (hno : ∀ (k : Nat) (e : q_se), S[k]? = some e → ¬ e.1 = w) (hs : q_m0 σ b n p m) (hS : q_mS σ S) (h : ∀ t4 : x_T, q_ms t4 b n w (p + 1) 0 1 0 1 m → q_kM σ t4 S.length m → (t4.1 345 30).toInt = S.length → (t4.1 362 S.length).toInt = w → (t4.1 363 S.length).toInt = m → (t4.1 357 0).toInt = 1 → q_lp K0 t4) : q_lp K0 σ := by
  refine mC_go (by omega) hk (by omega) h24 (fun _ => hno) hs hS (fun t3 m3 k3 e30 e62 e63 => ⟨fun q => ?_, fun _ => mq_open m3 (by omega) (fun t11 m11 k11 e11 t13 e13 => ?_)⟩)
  · rw [z_lt, m3.2.2.2.2.2.2.2.1.1] at q; simp only [Int32.reduceToInt] at q; omega
  · obtain ⟨b13, k13⟩ := sq_28 m11 e13 (s' := 1) (by decide)
    have kp : q_kp t3 t13 0 1000 1000 := kq_t k11 k13 (by omega) (by omega) (by omega)
    refine h t13 b13 (kM_t k3 (kM_p kp (by omega))) ?_ ?_ ?_ ?_
    · rw [kp.2.1 30 (by unfold q_cs; omega)]; exact e30
    · rw [kp.1.1 362 (by unfold q_sM; omega)]; exact e62
    · rw [kp.1.1 363 (by unfold q_sM; omega)]; exact e63
    · rw [k13.2.2.1 0 (by omega), e11]; rfl
theorem mC_lawB {b : Nat → Int} {n p m w pf : Nat} {fl : Int32} {S : List q_se} (hm : m ≤ 400) (hk : q_K b n p = w) (hw : w < 4) (h24 : S.length < 24) (hno : ∀ (k : Nat) (e : q_se), S[k]? = some e → ¬ e.1 = w) (h : q_Lv b n w 1 0 (p + 1) m 3 2 (q_EB b n fl pf)) : q_mC b n p m S (q_FB b n fl pf) := by
  intro K0 σ w0 hs hS hE
  refine mC_open hm hk hw h24 hno hs hS (fun t4 m4 k4 e30 e62 e63 e57 => h K0 t4 1 0 ⟨by omega, by omega, by omega, Or.inl rfl⟩ ⟨fun _ => by rw [e57]; decide, fun z => by omega⟩ m4 (fun ρ g => hE ρ (kM_t (kM_le k4 (by omega) (by omega)) (kM_p g.1 (by omega))) g.2.1 g.2.2))
theorem mC_law {b : Nat → Int} {n p m w p1 L : Nat} {c : q_co} {S : List q_se} {E : q_KF} (hmc : m + c.length < 400) (hv : q_vS S L m) (hk : q_K b n p = w) (hw : w < 4) (h24 : S.length < 24) (hno : ∀ (k : Nat) (e : q_se), S[k]? = some e → ¬ e.1 = w) (hk1 : ¬ q_K b n p1 = 36 ∧ ¬ q_K b n p1 = 37 ∧ ¬ q_K b n p1 = 38 ∧ ¬ q_K b n p1 = 39) (h : q_Lv b n w 1 0 (p + 1) m 3 2 (q_EG b n w m 0 2 3 m p1 c)) (h1 : q_K b n p1 = 42 → E = q_FG b n (p1 + 1) (m + c.length + 1) (S ++ [(w, L, m, c, 0, 0, 0)])) (h0 : ¬ q_K b n p1 = 42 → E = q_FB b n 1 p1) : q_mC b n p m S E := by
  intro K0 σ w0 hs hS hE
  refine mC_open (by omega) hk hw h24 hno hs hS (fun t4 m4 k4 e30 e62 e63 e57 => h K0 t4 1 0 ⟨by omega, by omega, by omega, Or.inl rfl⟩ ⟨fun _ => by rw [e57]; decide, fun z => by omega⟩ m4 (fun ρ u' m' ms1 k1 pa => go_65 (f := 0) ms1 (by omega) hk1 ?_))
  have e1 : (ρ.1 357 0).toInt = 1 := by rw [k1.2.2.1 0 (by omega)]; exact e57
  have ne : ∀ v : Int32, ¬ v.toInt = 1 → ¬ ρ.1 357 0 = v := fun v hv z => hv (by rw [← z]; exact e1)
  refine k_X12_goesOn_65 ⟨fun _ => k_X12_goesOn_116 ⟨fun _ => k_X12_goesOn_148 ⟨fun _ => k_X12_goesOn_217 ⟨fun _ => k_X12_goesOn_282 ⟨fun _ => ⟨fun z => absurd (z_eq.mpr e1) z, fun _ => mq_isSign ms1 (c := 42) (by omega) (by decide) (fun q => ⟨fun z => absurd z z_10, fun _ => ?_⟩) (fun q => ⟨fun _ => ?_, fun z => absurd rfl z⟩)⟩, fun z => absurd z (ne 5 (by decide))⟩, fun z => absurd z (ne 4 (by decide))⟩, fun z => absurd z (ne 9 (by decide))⟩, fun z => absurd z (ne 8 (by decide))⟩, fun z => absurd z (ne 6 (by decide))⟩
  · rw [h1 q] at hE
    refine e_X12_clauseIsOver (d := 1997) (pa_stop (d := 1996) (by omega) pa (by decide) (Or.inl rfl) (fun π g => ?_))
    have kp : q_kM σ π S.length m := kM_t k4 (kM_p g.2.1 (Nat.le_refl _))
    have n30 : (π.1 345 30).toInt = S.length := by rw [g.2.1.2.1 30 (by unfold q_cs; omega)]; exact e30
    refine over_t (d := 1995) hmc (by omega) g.1 n30 (fun ρ2 b2 k2 n2 e8 => hE ρ2 w b2 ?_ (kM_t (kM_le kp (by omega) (by omega)) (kM_le k2 (by omega) (by omega))))
    refine mS_ap hS hv (kM_t kp (kM_le k2 (by omega) (by omega))) n2 ⟨?_, ?_, fun z => ?_, fun z => ?_, fun z => ?_, fun _ => ⟨cm_M g.2.2 k2 (Nat.le_refl _), e8⟩⟩
    · rw [k2.2.2.1 _ (by omega) 362 (by omega) (by omega), g.2.1.1.1 362 (by unfold q_sM; omega)]; exact e62
    · rw [k2.2.2.1 _ (by omega) 363 (by omega) (by omega), g.2.1.1.1 363 (by unfold q_sM; omega)]; exact e63
    · exfalso; have z : w = 4 ∨ w = 5 ∨ w = 6 ∨ w = 7 ∨ w = 10 := z; omega
    · exfalso; have z : w = 5 ∨ w = 7 := z; omega
    · exfalso; have z : w = 5 := z; omega
  · rw [h0 q] at hE
    exact k_X12_goesOn_346 (mq_errs ms1 (fun π k2 d1 d2 => hE π (kM_t (kM_t (kM_le k4 (by omega) (by omega)) (kM_p k1 (by omega))) (kM_p k2 (by omega))) d1 d2))
