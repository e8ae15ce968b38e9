/-! indices -/
theorem ix_n {v : Int32} {m : Nat} (h : 0 ≤ v.toInt ∧ v.toInt < m) : vp_in v m := z_in.mpr h
theorem ix_8 {v w : Int32} (hv : 0 ≤ v.toInt ∧ v.toInt < 8) (hw : 0 ≤ w.toInt ∧ w.toInt < 8) : (v * 8 + w).toNatClampNeg = 8 * v.toInt.toNat + w.toInt.toNat ∧ vp_in (v * 8 + w) 64 := by
  have h8 : (v * 8).toInt = v.toInt * 8 := z_mul (by simp only [Int32.reduceToInt]; omega)
  have h9 : (v * 8 + w).toInt = v.toInt * 8 + w.toInt := by rw [z_add (by omega), h8]
  rw [z_in, z_cl, h9]
  omega
theorem ix_8' {v w : Int32} (hv : 0 ≤ v.toInt ∧ v.toInt < 8) (hw : 0 ≤ w.toInt ∧ w.toInt < 8) : (8 * v + w).toNatClampNeg = 8 * v.toInt.toNat + w.toInt.toNat ∧ vp_in (8 * v + w) 64 := by
  have h8 : (8 * v).toInt = 8 * v.toInt := z_mul (by simp only [Int32.reduceToInt]; omega)
  have h9 : (8 * v + w).toInt = 8 * v.toInt + w.toInt := by rw [z_add (by omega), h8]
  rw [z_in, z_cl, h9]
  omega
theorem ix_30 {v w : Int32} (hv : 0 ≤ v.toInt ∧ v.toInt < 8) (hw : 0 ≤ w.toInt ∧ w.toInt < 8) : (30 + 8 * v + w).toNatClampNeg = 30 + (8 * v.toInt.toNat + w.toInt.toNat) ∧ vp_in (30 + 8 * v + w) 3670 := by
  have h8 : (8 * v).toInt = 8 * v.toInt := z_mul (by simp only [Int32.reduceToInt]; omega)
  have h7 : (30 + 8 * v).toInt = 30 + 8 * v.toInt := by rw [z_add (by simp only [Int32.reduceToInt]; omega), h8]; rfl
  have h9 : (30 + 8 * v + w).toInt = 30 + 8 * v.toInt + w.toInt := by rw [z_add (by omega), h7]
  rw [z_in, z_cl, h9]
  omega
theorem ix_c (c : Nat) (hc : c < 4000) (m : Nat) {v : Int32} (hv : 0 ≤ v.toInt ∧ c + v.toInt < m) (hm : m < 4000) : (nI c + v).toNatClampNeg = c + v.toInt.toNat ∧ vp_in (nI c + v) m := by
  have h9 : (nI c + v).toInt = c + v.toInt := by rw [z_add (by rw [z_n (by omega)]; omega), z_n (by omega)]
  rw [z_in, z_cl, h9]
  omega
/-! the class's land, asked -/
theorem cl_isHouse {d : Nat} {a : Int32} {τ : x_T} {A : Nat → Int} {K : x_T → Int32 → Prop} (hc : x_cl 1 τ A) (wA : w_A A) (h1 : 0 ≤ a.toInt → a.toInt < A 0 → K τ 1) (h0 : ¬ (0 ≤ a.toInt ∧ a.toInt < A 0) → K τ 0) : x_CI d mX3_isHouse [.ref 1, .int a] τ K := by
  have e1 := hc.1
  have e2 := wA.1
  refine e_X3_isHouse ⟨fun q => h0 ?_, fun q => ⟨fun r => h0 ?_, fun r => ⟨fun s => h0 ?_, fun s => h1 ?_ ?_⟩⟩⟩
  · simp (disch := first | omega | (simp only [Int32.reduceToInt]; omega)) only [z_lt, z_le, z_eq, z_in, z_add, z_sub, z_mul, z_n, z_neg, Int32.reduceToInt] at q; omega
  · simp (disch := first | omega | (simp only [Int32.reduceToInt]; omega)) only [z_lt, z_le, z_eq, z_in, z_add, z_sub, z_mul, z_n, z_neg, Int32.reduceToInt] at q r; omega
  · simp (disch := first | omega | (simp only [Int32.reduceToInt]; omega)) only [z_lt, z_le, z_eq, z_in, z_add, z_sub, z_mul, z_n, z_neg, Int32.reduceToInt] at q r s; omega
  · simp (disch := first | omega | (simp only [Int32.reduceToInt]; omega)) only [z_lt, z_le, z_eq, z_in, z_add, z_sub, z_mul, z_n, z_neg, Int32.reduceToInt] at q r s; omega
  · simp (disch := first | omega | (simp only [Int32.reduceToInt]; omega)) only [z_lt, z_le, z_eq, z_in, z_add, z_sub, z_mul, z_n, z_neg, Int32.reduceToInt] at q r s; omega
theorem cl_isPusher {d : Nat} {a : Int32} {τ : x_T} {A : Nat → Int} {K : x_T → Int32 → Prop} (hc : x_cl 1 τ A) (wA : w_A A) (h1 : 0 ≤ a.toInt → a.toInt < A 1 → K τ 1) (h0 : ¬ (0 ≤ a.toInt ∧ a.toInt < A 1) → K τ 0) : x_CI d mX3_isPusher [.ref 1, .int a] τ K := by
  have e1 := hc.2.1
  have e2 := wA.1
  refine e_X3_isPusher ⟨fun q => h0 ?_, fun q => ⟨fun r => h0 ?_, fun r => ⟨fun s => h0 ?_, fun s => h1 ?_ ?_⟩⟩⟩
  · simp (disch := first | omega | (simp only [Int32.reduceToInt]; omega)) only [z_lt, z_le, z_eq, z_in, z_add, z_sub, z_mul, z_n, z_neg, Int32.reduceToInt] at q; omega
  · simp (disch := first | omega | (simp only [Int32.reduceToInt]; omega)) only [z_lt, z_le, z_eq, z_in, z_add, z_sub, z_mul, z_n, z_neg, Int32.reduceToInt] at q r; omega
  · simp (disch := first | omega | (simp only [Int32.reduceToInt]; omega)) only [z_lt, z_le, z_eq, z_in, z_add, z_sub, z_mul, z_n, z_neg, Int32.reduceToInt] at q r s; omega
  · simp (disch := first | omega | (simp only [Int32.reduceToInt]; omega)) only [z_lt, z_le, z_eq, z_in, z_add, z_sub, z_mul, z_n, z_neg, Int32.reduceToInt] at q r s; omega
  · simp (disch := first | omega | (simp only [Int32.reduceToInt]; omega)) only [z_lt, z_le, z_eq, z_in, z_add, z_sub, z_mul, z_n, z_neg, Int32.reduceToInt] at q r s; omega
theorem z_10 : ¬ (1 : Int32) = 0 := by decide
theorem cl_hillOf {d : Nat} {a : Int32} {τ : x_T} {A : Nat → Int} {K : x_T → Int32 → Prop} (hc : x_cl 1 τ A) (wA : w_A A) (h : ∀ u : Int32, u.toInt = z_hl A a.toInt → K τ u) : x_CI (d + 1) mX3_hillOf [.ref 1, .int a] τ K := by
  have e2 := wA.1
  refine e_X3_hillOf (cl_isHouse hc wA (fun p1 p2 => ⟨fun q => absurd q z_10, fun _ => ⟨ix_n (by omega), h _ ?_⟩⟩) (fun p => ⟨fun _ => h _ ?_, fun q => absurd rfl q⟩))
  · rw [z_cl, hc.2.2.1 _ (by omega), z_hl, if_pos ⟨p1, p2⟩]
  · rw [z_hl, if_neg p]; rfl
theorem cl_strengthOf {d : Nat} {a : Int32} {τ : x_T} {A : Nat → Int} {K : x_T → Int32 → Prop} (hc : x_cl 1 τ A) (wA : w_A A) (h : ∀ u : Int32, u.toInt = z_sg A a.toInt → K τ u) : x_CI (d + 1) mX3_strengthOf [.ref 1, .int a] τ K := by
  have e2 := wA.1
  refine e_X3_strengthOf (cl_isPusher hc wA (fun p1 p2 => ⟨fun q => absurd q z_10, fun _ => ⟨ix_n (by omega), h _ ?_⟩⟩) (fun p => ⟨fun _ => h _ ?_, fun q => absurd rfl q⟩))
  · rw [z_cl, hc.2.2.2.2.1 _ (by omega), z_sg, if_pos ⟨p1, p2⟩]
  · rw [z_sg, if_neg p]; rfl
theorem cl_laneBetween {d : Nat} {a b : Int32} {τ : x_T} {A : Nat → Int} {K : x_T → Int32 → Prop} (hc : x_cl 1 τ A) (wA : w_A A) (h : ∀ u : Int32, u.toInt = z_ln A a.toInt b.toInt → K τ u) : x_CI (d + 1) mX3_laneBetween [.ref 1, .int a, .int b] τ K := by
  have e2 := wA.1
  refine e_X3_laneBetween (cl_isHouse hc wA (fun p1 p2 => ⟨fun q => absurd q z_10, fun _ => cl_isHouse hc wA (fun r1 r2 => ⟨fun q => absurd q z_10, fun _ => ?_⟩) (fun p => ⟨fun _ => h _ ?_, fun q => absurd rfl q⟩)⟩) (fun p => ⟨fun _ => h _ ?_, fun q => absurd rfl q⟩))
  · have hk := ix_8 (v := a) (w := b) (by omega) (by omega)
    refine ⟨hk.2, h _ ?_⟩
    rw [hk.1, hc.2.2.2.2.2.1 _ (by omega), z_ln, if_pos ⟨p1, p2, r1, r2⟩]
  · rw [z_ln, if_neg (by omega)]; rfl
  · rw [z_ln, if_neg (by omega)]; rfl
theorem cl_wayBetween {d : Nat} {a b : Int32} {τ : x_T} {A : Nat → Int} {K : x_T → Int32 → Prop} (hc : x_cl 1 τ A) (wA : w_A A) (h : ∀ u : Int32, u.toInt = z_far A a.toInt b.toInt → K τ u) : x_CI d mX3_wayBetween [.ref 1, .int a, .int b] τ K := by
  have e1 := hc.1
  have e2 := wA.1
  have no : ¬ (0 ≤ a.toInt ∧ a.toInt < A 0 ∧ 0 ≤ b.toInt ∧ b.toInt < A 0) → K τ 99 := fun p => h _ (by rw [z_far, if_neg p]; rfl)
  refine e_X3_wayBetween ⟨fun q => no ?_, fun q1 => ⟨fun q => no ?_, fun q2 => ⟨fun q => no ?_, fun q3 => ⟨fun q => no ?_, fun q4 => ⟨fun q => no ?_, fun q5 => ⟨fun q6 => ?_, fun q => no ?_⟩⟩⟩⟩⟩⟩
  · simp (disch := first | omega | (simp only [Int32.reduceToInt]; omega)) only [z_lt, z_le, z_eq, z_in, z_add, z_sub, z_mul, z_n, z_neg, Int32.reduceToInt] at q; omega
  · simp (disch := first | omega | (simp only [Int32.reduceToInt]; omega)) only [z_lt, z_le, z_eq, z_in, z_add, z_sub, z_mul, z_n, z_neg, Int32.reduceToInt] at q; omega
  · simp (disch := first | omega | (simp only [Int32.reduceToInt]; omega)) only [z_lt, z_le, z_eq, z_in, z_add, z_sub, z_mul, z_n, z_neg, Int32.reduceToInt] at q; omega
  · simp (disch := first | omega | (simp only [Int32.reduceToInt]; omega)) only [z_lt, z_le, z_eq, z_in, z_add, z_sub, z_mul, z_n, z_neg, Int32.reduceToInt] at q; omega
  · simp (disch := first | omega | (simp only [Int32.reduceToInt]; omega)) only [z_lt, z_le, z_eq, z_in, z_add, z_sub, z_mul, z_n, z_neg, Int32.reduceToInt] at q; omega
  · simp (disch := first | omega | (simp only [Int32.reduceToInt]; omega)) only [z_lt, z_le, z_eq, z_in, z_add, z_sub, z_mul, z_n, z_neg, Int32.reduceToInt] at q1 q2 q3 q4 q5 q6
    have hk := ix_8 (v := a) (w := b) (by omega) (by omega)
    refine ⟨hk.2, h _ ?_⟩
    rw [hk.1, hc.2.2.2.2.2.2.1 (by omega) _ (by omega), z_far, if_pos (by omega)]
    congr 1 <;> omega
  · simp (disch := first | omega | (simp only [Int32.reduceToInt]; omega)) only [z_lt, z_le, z_eq, z_in, z_add, z_sub, z_mul, z_n, z_neg, Int32.reduceToInt] at q; omega
theorem cl_hourBy {d : Nat} {a b : Int32} {τ : x_T} {A : Nat → Int} {K : x_T → Int32 → Prop} (hc : x_cl 1 τ A) (wA : w_A A) (h : ∀ u : Int32, u.toInt = z_hour A a.toInt b.toInt → K τ u) : x_CI (d + 1) mX3_hourBy [.ref 1, .int a, .int b] τ K := by
  refine e_X3_hourBy (cl_wayBetween hc wA (fun u hu => ?_))
  have hb := z_far_b wA a.toInt b.toInt
  have h1 : (12 + u).toInt = 12 + u.toInt := z_add (by simp only [Int32.reduceToInt]; omega)
  have h2 : (12 - u).toInt = 12 - u.toInt := z_sub (by simp only [Int32.reduceToInt]; omega)
  refine ⟨fun q y3 e3 => h _ ?_, fun q y3 e3 => h _ ?_⟩
  · rw [z_lt] at q
    have hz : z_hour A a.toInt b.toInt = z_hd (12 + z_far A a.toInt b.toInt) 0 23 := by rw [z_hour, if_neg (by omega)]
    rw [hz, z_hd, e3]
    by_cases r : 12 + u < 23
    · rw [if_pos r, h1]; rw [z_lt, h1] at r; simp only [Int32.reduceToInt] at r; omega
    · rw [if_neg r]; rw [z_lt, h1] at r; simp only [Int32.reduceToInt] at r ⊢; omega
  · rw [z_lt] at q
    have hz : z_hour A a.toInt b.toInt = z_hd (12 - z_far A a.toInt b.toInt) 0 23 := by rw [z_hour, if_pos (by omega)]
    rw [hz, z_hd, e3]
    by_cases r : 0 < 12 - u
    · rw [if_pos r, h2]; rw [z_lt, h2] at r; simp only [Int32.reduceToInt] at r; omega
    · rw [if_neg r]; rw [z_lt, h2] at r; simp only [Int32.reduceToInt] at r ⊢; omega
theorem ch_held {d : Nat} {v lo hi : Int32} {τ : x_T} {K : x_T → Int32 → Prop} (hl : lo.toInt ≤ hi.toInt) (h : ∀ u : Int32, u.toInt = z_hd v.toInt lo.toInt hi.toInt → K τ u) : x_CI (d + 1) mX11_held [.int v, .int lo, .int hi] τ K := by
  refine e_X11_held (fun y1 e1 y2 e2 => h _ ?_)
  subst e1; subst e2
  rw [z_hd]
  by_cases q : v < hi
  · rw [if_pos q]
    rw [z_lt] at q
    by_cases r : lo < v
    · rw [if_pos r]; rw [z_lt] at r; omega
    · rw [if_neg r]; rw [z_lt] at r; omega
  · rw [if_neg q]
    rw [z_lt] at q
    by_cases r : lo < hi
    · rw [if_pos r]; rw [z_lt] at r; omega
    · rw [if_neg r]; rw [z_lt] at r; omega
/-! the class's laws, asked -/
theorem e4_b {a b c e f g : Int} {o : Nat} (ha : -1000000 ≤ a ∧ a ≤ 1000000) (hb : -1000000 ≤ b ∧ b ≤ 1000000) (hc : -1000000 ≤ c ∧ c ≤ 1000000) (he : -1000000 ≤ e ∧ e ≤ 1000000) (hf : -1000000 ≤ f ∧ f ≤ 1000000) (hg : -1000000 ≤ g ∧ g ≤ 1000000) (j : Nat) : -1000000 ≤ z_e4 a b c e f g o j ∧ z_e4 a b c e f g o j ≤ 1000000 := by
  unfold z_e4
  grind
def x_al (w j : Nat) : Prop := j < 3 ∨ (w = 0 ∧ 6 ≤ j ∧ j < 9) ∨ (w = 1 ∧ 9 ≤ j ∧ j < 11) ∨ (w = 2 ∧ 3 ≤ j ∧ j < 6) ∨ (w = 3 ∧ j = 11)
def x_wd (j : Nat) : Nat := if j = 0 then 10 else if j = 7 then 5 else if j < 7 then 21 + j else 20 + j
def x_LC (τ : x_T) (L : x_L) : Prop := ∀ σ : x_T, (∀ c, (1 ≤ c ∧ c ≤ 12) ∨ (139 ≤ c ∧ c ≤ 175) → σ.1 c = τ.1 c) → σ.2.2 = τ.2.2 → ∀ w, w < 4 → ∀ (d : Nat) (K : x_T → Int32 → Prop),
  (L w = none → K σ 0 → x_CI (d + 1) mX4_rules [.ref 329, .int (nI w)] σ K)
  ∧ (∀ f, L w = some f → (K σ 1 → x_CI (d + 1) mX4_rules [.ref 329, .int (nI w)] σ K)
    ∧ ∀ env : Nat → Int, (∀ j, x_al w j → -1000000 ≤ env j ∧ env j ≤ 1000000) → (∀ j, x_al w j → (σ.1 330 (x_wd j)).toInt = env j) → (∀ (ρ : x_T) (v : Int32), x_fr (fun c => c = 329 ∨ c = 331) σ ρ → v.toInt = f env → K ρ v) → x_CI (d + 1) mX4_said [.ref 329, .int (nI w)] σ K)
def x_cc (τ : x_T) (A : Nat → Int) (L : x_L) : Prop := x_cl 1 τ A ∧ x_LC τ L
theorem LC_fr {τ σ : x_T} {L : x_L} (h : x_LC τ L) (h1 : ∀ c, (1 ≤ c ∧ c ≤ 12) ∨ (139 ≤ c ∧ c ≤ 175) → σ.1 c = τ.1 c) (h2 : σ.2.2 = τ.2.2) : x_LC σ L := fun ρ g1 g2 => h ρ (fun c hc => (g1 c hc).trans (h1 c hc)) (g2.trans h2)
theorem cl_fr {τ σ : x_T} {A : Nat → Int} (h : x_cl 1 τ A) (h1 : ∀ c, 1 ≤ c ∧ c ≤ 12 → σ.1 c = τ.1 c) : x_cl 1 σ A := by
  unfold x_cl at h ⊢
  rw [h1 1 (by omega), h1 (1 + 1) (by omega), h1 (1 + 2) (by omega), h1 (1 + 3) (by omega), h1 (1 + 4) (by omega), h1 (1 + 5) (by omega), h1 (1 + 6) (by omega), h1 (1 + 7) (by omega), h1 (1 + 8) (by omega), h1 (1 + 9) (by omega), h1 (1 + 10) (by omega), h1 (1 + 11) (by omega)]
  exact h
theorem cc_fr {S : Nat → Prop} {τ σ : x_T} {A : Nat → Int} {L : x_L} (h : x_cc τ A L) (g : x_fr S τ σ) (hS : ∀ c, S c → (13 ≤ c ∧ c ≤ 138) ∨ 176 ≤ c) : x_cc σ A L :=
  ⟨cl_fr h.1 (fun c hc => g.1 c (fun q => by have := hS c q; omega)), LC_fr h.2 (fun c hc => g.1 c (fun q => by have := hS c q; omega)) g.2⟩
/-- the cells that a law asked may change -/
def x_sL (c : Nat) : Prop := 329 ≤ c ∧ c ≤ 331
theorem sL_cc (c : Nat) (h : x_sL c) : (13 ≤ c ∧ c ≤ 138) ∨ 176 ≤ c := by unfold x_sL at h; omega
theorem sL_said (c : Nat) (h : c = 329 ∨ c = 331) : x_sL c := by unfold x_sL; omega
theorem cl_nameHere {d D : Nat} (hD : x_sh D = (1, 11)) (hD2 : D < 329 ∨ 331 < D) {a : Int32} {τ : x_T} {A e : Nat → Int} {K : x_T → Prop} (hc : x_cl 1 τ A) (wA : w_A A) (he : (τ.1 D 5).toInt = e 5) (h : ∀ σ : x_T, x_fr x_sL τ σ → (σ.1 330 10).toInt = e 5 → σ.1 330 22 = a → (σ.1 330 23).toInt = z_hl A a.toInt → K σ) : x_CV (d + 1) mX4_nameHere [.ref 329, .ref D, .int a] τ K := by
  have e2 := wA.1
  refine e_X4_nameHere hD (fun t1 e1 t2 e3 => ?_)
  subst e1; subst e3
  have f2 : x_fr x_sL τ (x_w1 (x_w1 τ 330 10 (τ.1 D 5)) 330 22 a) := fr_w (fr_w (fr_r _ _) (by unfold x_sL; omega)) (by unfold x_sL; omega)
  have hc2 : x_cl 1 (x_w1 (x_w1 τ 330 10 (τ.1 D 5)) 330 22 a) A := cl_fr hc (fun c hc => f2.1 c (by unfold x_sL; omega))
  have fin : ∀ u : Int32, u.toInt = z_hl A a.toInt → x_WV (d + 1) mX4_nameHere K 49 [] [.int u, .int 23, .ref 330] (x_w1 (x_w1 τ 330 10 (τ.1 D 5)) 330 22 a) := by
    intro u hu
    refine k_X4_nameHere_49 ⟨ix_n (by decide), fun t4 e4 => ?_⟩
    subst e4
    refine h _ (fr_w f2 (by unfold x_sL; omega)) ?_ ?_ ?_
    · simp only [w1_at, show (23 : Int32).toNatClampNeg = 23 from by decide, Nat.reduceEqDiff, and_false, if_false, and_self, if_true]
      exact he
    · simp only [w1_at, show (23 : Int32).toNatClampNeg = 23 from by decide, Nat.reduceEqDiff, and_false, if_false, and_self, if_true]
    · simp only [w1_at, show (23 : Int32).toNatClampNeg = 23 from by decide, Nat.reduceEqDiff, and_false, if_false, and_self, if_true]
      exact hu
  refine cl_isHouse hc2 wA (fun p1 p2 => ⟨fun q => absurd q z_10, fun _ => ⟨ix_n (by omega), fin _ ?_⟩⟩) (fun p => ⟨fun _ => fin _ ?_, fun q => absurd rfl q⟩)
  · rw [z_cl, hc2.2.2.1 _ (by omega), z_hl, if_pos ⟨p1, p2⟩]
  · rw [z_hl, if_neg p]; rfl
