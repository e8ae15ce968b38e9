/-! lane -/
def z_okl (A : Nat → Int) (a b l : Int) : Bool := decide (¬ a = b ∧ 0 ≤ a ∧ a < A 0 ∧ 0 ≤ b ∧ b < A 0 ∧ 0 ≤ l ∧ l ≤ 9)
def z_Pl (A : Nat → Int) (a b : Nat) (l : Int) : Nat → Int := z_set (z_set A (30 + (8 * a + b)) l) (30 + (8 * b + a)) l
def z_Plane (A : Nat → Int) (a b l : Int) : Nat → Int := if z_okl A a b l = true then z_Pl A a.toNat b.toNat l else A
def z_Alane (A : Nat → Int) (a b l : Int) : Int := if z_okl A a b l = true then 1 else 0
theorem Pl_o {A : Nat → Int} {a b : Nat} {l : Int} {k : Nat} (ha : a < 8) (hb : b < 8) (hk : k < 30 ∨ 94 ≤ k) : A k = z_Pl A a b l k := by
  unfold z_Pl
  rw [z_set_e, z_set_e, if_neg (by omega), if_neg (by omega)]
theorem Pl_i {A : Nat → Int} {a b : Nat} {l : Int} {i j : Nat} (ha : a < 8) (hb : b < 8) (hi : i < 8) (hj : j < 8) : z_Pl A a b l (30 + (8 * i + j)) = if (i = a ∧ j = b) ∨ (i = b ∧ j = a) then l else A (30 + (8 * i + j)) := by
  unfold z_Pl
  rw [z_set_e, z_set_e]
  by_cases q : i = b ∧ j = a
  · rw [if_pos (by omega), if_pos (by omega)]
  · rw [if_neg (by omega)]
    by_cases r : i = a ∧ j = b
    · rw [if_pos (by omega), if_pos (by omega)]
    · rw [if_neg (by omega), if_neg (by omega)]
theorem wA_Pl {A : Nat → Int} {a b : Nat} {l : Int} (w : w_A A) (hn : ¬ a = b) (ha : (a : Int) < A 0) (hb : (b : Int) < A 0) (hl : 0 ≤ l ∧ l ≤ 9) : w_A (z_Pl A a b l) := by
  obtain ⟨w1, w2, w3, w4, w5, w6, w7, w8⟩ := w
  have a8 : a < 8 := by omega
  have b8 : b < 8 := by omega
  have k : ∀ k, k < 30 ∨ 94 ≤ k → A k = z_Pl A a b l k := fun k hk => Pl_o a8 b8 hk
  refine ⟨by rw [← k 0 (by omega), ← k 1 (by omega)]; exact w1, fun h hh => ?_, fun h hh => ?_, fun h hh => ?_, fun h hh => ?_, fun i j hi hj => ?_, ⟨by rw [← k 5 (by omega)]; exact w7.1, by rw [← k 5 (by omega)]; exact w7.2.1, fun i hi hj => ?_⟩, ⟨by rw [← k 6 (by omega)]; exact w8.1, by rw [← k 6 (by omega)]; exact w8.2.1, fun i hi hj => ?_⟩⟩
  · rw [← k (10 + h) (by omega)]; exact w2 h hh
  · rw [← k (18 + h) (by omega)]; exact w3 h hh
  · rw [← k (22 + h) (by omega), ← k 0 (by omega)]; exact w4 h hh
  · have e : 30 + h = 30 + (8 * (h / 8) + h % 8) := by omega
    rw [e, Pl_i a8 b8 (by omega) (by omega)]
    split
    · exact hl
    · rw [← e]; exact w5 h hh
  · have h6 := w6 i j hi hj
    rw [Pl_i a8 b8 hi hj, Pl_i a8 b8 hj hi, ← k 0 (by omega)]
    refine ⟨?_, fun z => ?_, fun z => ?_⟩
    · by_cases q : (i = a ∧ j = b) ∨ (i = b ∧ j = a)
      · rw [if_pos q, if_pos (by omega)]
      · rw [if_neg q, if_neg (by omega)]; exact h6.1
    · rw [if_neg (by omega)]; exact h6.2.1 z
    · rw [if_neg (by omega)]; exact h6.2.2 z
  · rw [← k 5 (by omega)] at hj
    rw [← k (94 + 2 * i) (by omega), ← k (95 + 2 * i) (by omega), ← k 0 (by omega)]; exact w7.2.2 i hi hj
  · rw [← k 6 (by omega)] at hj
    rw [← k (110 + 2 * i) (by omega), ← k (111 + 2 * i) (by omega), ← k 0 (by omega)]; exact w8.2.2 i hi hj
theorem cs_lane {d : Nat} {a b l : Int32} {τ : x_T} {A : Nat → Int} {K : x_T → Int32 → Prop} (hc : x_hf 1 13 17 τ A) (h : ∀ (σ : x_T) (u : Int32), x_fr j_sC τ σ → x_hf 1 13 17 σ (z_Plane A a.toInt b.toInt l.toInt) → u.toInt = z_Alane A a.toInt b.toInt l.toInt → K σ u) : x_CI (d + 1 + 1 + 1 + 1) mX11_lane [.ref 0, .int a, .int b, .int l] τ K := by
  have wA := hc.1
  have w0 := wA.1
  have hcl := hc.2.1
  obtain ⟨c1, c2, c3, c4, c5, c6, c7, c8, c9⟩ := hc.2.1
  have no : ¬ (¬ a.toInt = b.toInt ∧ 0 ≤ a.toInt ∧ a.toInt < A 0 ∧ 0 ≤ b.toInt ∧ b.toInt < A 0 ∧ 0 ≤ l.toInt ∧ l.toInt ≤ 9) → K τ 0 := by
    intro z
    have hf : z_okl A a.toInt b.toInt l.toInt = false := decide_eq_false z
    refine h _ _ (fr_r _ _) ?_ ?_
    · rw [z_Plane, hf]; exact hc
    · rw [z_Alane, hf]; rfl
  refine e_X11_lane ⟨fun q => no ?_, fun q0 => cl_isHouse hcl wA (fun p1 p2 => ⟨fun z => absurd z z_10, fun _ => cl_isHouse hcl wA (fun p3 p4 => ⟨fun z => absurd z z_10, fun _ => ⟨fun q => no ?_, fun q1 => ⟨fun q2 => ?_, fun q => no ?_⟩⟩⟩) (fun p => ⟨fun _ => no (by omega), fun z => absurd rfl z⟩)⟩) (fun p => ⟨fun _ => no (by omega), fun z => absurd rfl z⟩)⟩
  · rw [q]; omega
  · rw [z_lt] at q; simp only [Int32.reduceToInt] at q; omega
  · rw [z_eq] at q0
    rw [z_lt] at q1
    rw [z_le] at q2
    simp only [Int32.reduceToInt] at q1 q2
    have ht : z_okl A a.toInt b.toInt l.toInt = true := decide_eq_true (by omega)
    have k1 := ix_8 (v := a) (w := b) (by omega) (by omega)
    have k2 := ix_8 (v := b) (w := a) (by omega) (by omega)
    refine e_X3_setLane (cl_isHouse hcl wA (fun _ _ => ⟨fun z => absurd z z_10, fun _ => cl_isHouse hcl wA (fun _ _ => ⟨fun z => absurd z z_10, fun _ => ⟨k1.2, fun t5 e5 => ⟨k2.2, fun t6 e6 => ?_⟩⟩⟩) (fun p => absurd ⟨p3, p4⟩ p)⟩) (fun p => absurd ⟨p1, p2⟩ p))
    rw [k1.1] at e5
    rw [k2.1] at e6
    have a8 : a.toInt.toNat < 8 := by omega
    have b8 : b.toInt.toNat < 8 := by omega
    have k : ∀ k, k < 30 ∨ 94 ≤ k → A k = z_Pl A a.toInt.toNat b.toInt.toNat l.toInt k := fun k hk => Pl_o a8 b8 hk
    have wA2 : w_A (z_Pl A a.toInt.toNat b.toInt.toNat l.toInt) := wA_Pl wA (by omega) (by omega) (by omega) (by omega)
    have p5 : ∀ j, j < 64 → (t6.1 5 j).toInt = z_Pl A a.toInt.toNat b.toInt.toNat l.toInt (30 + j) := by
      intro j hj
      rw [e6, w1_at, z_Pl, z_set_e, z_set_e]
      by_cases q : j = 8 * b.toInt.toNat + a.toInt.toNat
      · rw [if_pos ⟨rfl, q⟩, if_pos (by omega)]
      · rw [if_neg (fun z => q z.2), if_neg (by omega), e5, w1_at]
        by_cases r : j = 8 * a.toInt.toNat + b.toInt.toNat
        · rw [if_pos ⟨rfl, r⟩, if_pos (by omega)]
        · rw [if_neg (fun z => r z.2), if_neg (by omega), c6 j hj]
    have f6 : x_fr (fun c => 1 ≤ c ∧ c ≤ 12) τ t6 := by rw [e6, e5]; exact fr_w (fr_w (fr_r _ _) (by omega)) (by omega)
    have o6 : ∀ c, ¬ c = 5 → t6.1 c = τ.1 c := fun c hc => by rw [e6, w1_c hc, e5, w1_c hc]
    refine p_measure (z_lk (z_Pl A a.toInt.toNat b.toInt.toNat l.toInt)) (fun j hj => by rw [p5 j hj, z_lk, if_pos hj]) (z_lk_b wA2) ?_
    have f7 : x_fr (fun c => 1 ≤ c ∧ c ≤ 12) τ (x_st t6 6 64 (fun k => z_fw (z_lk (z_Pl A a.toInt.toNat b.toInt.toNat l.toInt)) 8 (k / 8) (k % 8))) := ⟨fun c hc => (st_ne (by omega)).trans (f6.1 c hc), f6.2⟩
    refine h _ _ (fr_m s12_sC f7) ?_ (by rw [z_Alane, ht]; rfl)
    have hp : z_Plane A a.toInt b.toInt l.toInt = z_Pl A a.toInt.toNat b.toInt.toNat l.toInt := by rw [z_Plane, ht]; rfl
    rw [hp]
    refine hf_land hc f7 wA2 ?_ (by rw [← k 0 (by omega)]; omega) (by rw [← k 1 (by omega)]; omega) (k 4 (by omega)) (fun j hj => k j (by omega))
    refine ⟨?_, ?_, fun j hj => ?_, fun j hj hj2 => ?_, fun j hj => ?_, fun j hj => ?_, fun _ j hj => ?_, ⟨?_, fun i hi => ?_⟩, ⟨?_, fun i hi => ?_⟩⟩
    · rw [st_ne (by omega), o6 _ (by omega), c1, k 0 (by omega)]
    · rw [st_ne (by omega), o6 _ (by omega), c2, k 1 (by omega)]
    · rw [st_ne (by omega), o6 _ (by omega), c3 j hj, k (10 + j) (by omega)]
    · rw [← k 0 (by omega)] at hj2
      rw [st_ne (by omega), o6 _ (by omega), c4 j hj hj2, k (22 + j) (by omega)]
    · rw [st_ne (by omega), o6 _ (by omega), c5 j hj, k (18 + j) (by omega)]
    · rw [st_ne (by omega)]; exact p5 j hj
    · rw [st_at hj]
      have hb := z_W_b wA2 (j / 8) (j % 8)
      exact z_oi (by unfold z_W at hb; omega)
    · rw [st_ne (by omega), o6 _ (by omega), c8.1, k 5 (by omega)]
    · rw [st_ne (by omega), o6 _ (by omega), st_ne (by omega), o6 _ (by omega), (c8.2 i hi).1, (c8.2 i hi).2, k (94 + 2 * i) (by omega), k (95 + 2 * i) (by omega)]
      exact ⟨rfl, rfl⟩
    · rw [st_ne (by omega), o6 _ (by omega), c9.1, k 6 (by omega)]
    · rw [st_ne (by omega), o6 _ (by omega), st_ne (by omega), o6 _ (by omega), (c9.2 i hi).1, (c9.2 i hi).2, k (110 + 2 * i) (by omega), k (111 + 2 * i) (by omega)]
      exact ⟨rfl, rfl⟩
  · rw [z_le] at q; simp only [Int32.reduceToInt] at q; omega
theorem ms_lane {d : Nat} {a b l : Int32} {τ : x_T} {A : Nat → Int} {K : x_T → Int32 → Prop} (hm : j_A τ = A) (wA : w_A A) (h : ∀ (σ : x_T) (u : Int32), x_fr j_sM τ σ → j_A σ = z_Plane A a.toInt b.toInt l.toInt → u.toInt = z_Alane A a.toInt b.toInt l.toInt → K σ u) : x_CI (d + 1 + 1) mX12_lane [.ref 345, .int a, .int b, .int l] τ K := by
  have w0 := wA.1
  have c0 : (τ.1 346 0).toInt = A 0 := jA_at hm 0
  have no : ¬ (¬ a.toInt = b.toInt ∧ 0 ≤ a.toInt ∧ a.toInt < A 0 ∧ 0 ≤ b.toInt ∧ b.toInt < A 0 ∧ 0 ≤ l.toInt ∧ l.toInt ≤ 9) → K τ 0 := by
    intro z
    have hf : z_okl A a.toInt b.toInt l.toInt = false := decide_eq_false z
    refine h _ _ (fr_r _ _) ?_ ?_
    · rw [z_Plane, hf]; exact hm
    · rw [z_Alane, hf]; rfl
  refine e_X12_lane (ml_isHouse wA c0 (fun p1 p2 => ⟨fun z => absurd z z_10, fun _ => ml_isHouse wA c0 (fun p3 p4 => ⟨fun z => absurd z z_10, fun _ => ⟨fun q => no ?_, fun q0 => ml_in (fun q1 q2 => ⟨fun _ => ?_, fun z => absurd z z_10⟩) (fun q => ⟨fun z => absurd rfl z, fun _ => no ?_⟩)⟩⟩) (fun p => ⟨fun _ => no (by omega), fun z => absurd rfl z⟩)⟩) (fun p => ⟨fun _ => no (by omega), fun z => absurd rfl z⟩))
  · rw [q]; omega
  · rw [z_eq] at q0
    simp only [Int32.reduceToInt] at q1 q2
    have ht : z_okl A a.toInt b.toInt l.toInt = true := decide_eq_true (by omega)
    have k1 := ix_30 (v := a) (w := b) (by omega) (by omega)
    have k2 := ix_30 (v := b) (w := a) (by omega) (by omega)
    refine ⟨k1.2, fun t7 e7 => ⟨k2.2, fun t8 e8 => h _ _ (by rw [e8, e7]; exact fr_w (fr_w (fr_r _ _) (Or.inl rfl)) (Or.inl rfl)) ?_ (by rw [z_Alane, ht]; rfl)⟩⟩
    rw [k1.1] at e7
    rw [k2.1] at e8
    have hp : z_Plane A a.toInt b.toInt l.toInt = z_Pl A a.toInt.toNat b.toInt.toNat l.toInt := by rw [z_Plane, ht]; rfl
    rw [hp]
    funext k
    unfold j_A z_Pl
    rw [e8, w1_at, z_set_e, z_set_e]
    by_cases q : k = 30 + (8 * b.toInt.toNat + a.toInt.toNat)
    · rw [if_pos ⟨rfl, q⟩, if_pos q]
    · rw [if_neg (fun z => q z.2), if_neg q, e7, w1_at]
      by_cases r : k = 30 + (8 * a.toInt.toNat + b.toInt.toNat)
      · rw [if_pos ⟨rfl, r⟩, if_pos r]
      · rw [if_neg (fun z => r z.2), if_neg r, jA_at hm]
  · simp only [Int32.reduceToInt] at q; omega
/-! pusher -/
def z_okp (A : Nat → Int) (s : Int) : Bool := decide (1 ≤ s ∧ s ≤ 9 ∧ A 1 < 4)
def z_Pp (A : Nat → Int) (s : Int) : Nat → Int := z_set (z_set A (18 + (A 1).toNat) s) 1 (A 1 + 1)
def z_Ppus (A : Nat → Int) (s : Int) : Nat → Int := if z_okp A s = true then z_Pp A s else A
def z_Apus (A : Nat → Int) (s : Int) : Int := if z_okp A s = true then A 1 else -1
theorem Pp_o {A : Nat → Int} {s : Int} {k : Nat} (h1 : k ≠ 1) (hk : k < 18 ∨ 22 ≤ k) (w : 0 ≤ A 1 ∧ A 1 < 4) : A k = z_Pp A s k := by
  unfold z_Pp
  rw [z_set_e, z_set_e, if_neg h1, if_neg (by omega)]
theorem Pp_1 (A : Nat → Int) (s : Int) : z_Pp A s 1 = A 1 + 1 := by unfold z_Pp; rw [z_set_e, if_pos rfl]
theorem Pp_s {A : Nat → Int} {s : Int} {k : Nat} : z_Pp A s (18 + k) = if k = (A 1).toNat then s else A (18 + k) := by
  unfold z_Pp
  rw [z_set_e, z_set_e, if_neg (by omega)]
  by_cases q : k = (A 1).toNat
  · rw [if_pos (by omega), if_pos q]
  · rw [if_neg (by omega), if_neg q]
theorem wA_Pp {A : Nat → Int} {s : Int} (w : w_A A) (hs : 1 ≤ s ∧ s ≤ 9) (h4 : A 1 < 4) : w_A (z_Pp A s) := by
  obtain ⟨w1, w2, w3, w4, w5, w6, w7, w8⟩ := w
  have k : ∀ k, k ≠ 1 → k < 18 ∨ 22 ≤ k → A k = z_Pp A s k := fun k h1 hk => Pp_o h1 hk (by omega)
  refine ⟨by rw [← k 0 (by omega) (by omega), Pp_1]; omega, fun h hh => ?_, fun h hh => ?_, fun h hh => ?_, fun h hh => ?_, fun i j hi hj => ?_, ⟨by rw [← k 5 (by omega) (by omega)]; exact w7.1, by rw [← k 5 (by omega) (by omega)]; exact w7.2.1, fun i hi hj => ?_⟩, ⟨by rw [← k 6 (by omega) (by omega)]; exact w8.1, by rw [← k 6 (by omega) (by omega)]; exact w8.2.1, fun i hi hj => ?_⟩⟩
  · rw [← k (10 + h) (by omega) (by omega)]; exact w2 h hh
  · rw [Pp_s]
    split
    · omega
    · exact w3 h hh
  · rw [← k (22 + h) (by omega) (by omega), ← k 0 (by omega) (by omega)]; exact w4 h hh
  · rw [← k (30 + h) (by omega) (by omega)]; exact w5 h hh
  · rw [← k (30 + (8 * i + j)) (by omega) (by omega), ← k (30 + (8 * j + i)) (by omega) (by omega), ← k 0 (by omega) (by omega)]; exact w6 i j hi hj
  · rw [← k 5 (by omega) (by omega)] at hj
    rw [← k (94 + 2 * i) (by omega) (by omega), ← k (95 + 2 * i) (by omega) (by omega), ← k 0 (by omega) (by omega)]; exact w7.2.2 i hi hj
  · rw [← k 6 (by omega) (by omega)] at hj
    rw [← k (110 + 2 * i) (by omega) (by omega), ← k (111 + 2 * i) (by omega) (by omega), ← k 0 (by omega) (by omega)]; exact w8.2.2 i hi hj
theorem lk_W {A A' : Nat → Int} (h : ∀ k, k < 64 → A (30 + k) = A' (30 + k)) : z_W A = z_W A' := by
  have : z_lk A = z_lk A' := by
    funext k
    unfold z_lk
    split
    · exact h k (by omega)
    · rfl
  funext i j
  unfold z_W
  rw [this]
theorem cs_pusher {d : Nat} {s : Int32} {τ : x_T} {A : Nat → Int} {K : x_T → Int32 → Prop} (hc : x_hf 1 13 17 τ A) (h : ∀ (σ : x_T) (u : Int32), x_fr j_sC τ σ → x_hf 1 13 17 σ (z_Ppus A s.toInt) → u.toInt = z_Apus A s.toInt → K σ u) : x_CI (d + 1) mX11_pusher [.ref 0, .int s] τ K := by
  have wA := hc.1
  have w0 := wA.1
  obtain ⟨c1, c2, c3, c4, c5, c6, c7, c8, c9⟩ := hc.2.1
  have no : ¬ (1 ≤ s.toInt ∧ s.toInt ≤ 9 ∧ A 1 < 4) → K τ (-1) := by
    intro z
    have hf : z_okp A s.toInt = false := decide_eq_false z
    refine h _ _ (fr_r _ _) ?_ ?_
    · rw [z_Ppus, hf]; exact hc
    · rw [z_Apus, hf]; rfl
  refine e_X11_pusher ⟨fun q => no ?_, fun q1 => ⟨fun q2 => e_X3_addPusher ⟨fun q => ?_, fun _ => ⟨fun q3 => ?_, fun q => no ?_⟩⟩, fun q => no ?_⟩⟩
  · rw [z_lt] at q; simp only [Int32.reduceToInt] at q; omega
  · rw [z_lt, c2] at q; simp only [Int32.reduceToInt] at q; omega
  · rw [z_lt] at q1
    rw [z_le] at q2
    rw [z_lt, c2] at q3
    simp only [Int32.reduceToInt] at q1 q2 q3
    have ht : z_okp A s.toInt = true := decide_eq_true (by omega)
    have cl : (τ.1 1 1).toNatClampNeg = (A 1).toNat := by rw [z_cl, c2]
    refine ⟨ix_n (by omega), fun t1 e1 t2 e2 => ?_⟩
    rw [cl] at e1
    have b1 : t1.1 1 = τ.1 1 := by rw [e1]; exact w1_c (by omega)
    have hs : (t1.1 1 1 + 1).toInt = A 1 + 1 := by rw [b1, z_add (by rw [c2]; simp only [Int32.reduceToInt]; omega), c2]; rfl
    have f2 : x_fr (fun c => 1 ≤ c ∧ c ≤ 12) τ t2 := by rw [e2, e1]; exact fr_w (fr_w (fr_r _ _) (by omega)) (by omega)
    have o2 : ∀ c, ¬ c = 1 → ¬ c = 4 → t2.1 c = τ.1 c := fun c hc hc2 => by rw [e2, w1_c hc, e1, w1_c hc2]
    have k : ∀ k, k ≠ 1 → k < 18 ∨ 22 ≤ k → A k = z_Pp A s.toInt k := fun k h1 hk => Pp_o h1 hk (by omega)
    have g1 : (t2.1 1 1).toInt = A 1 + 1 := by rw [e2, w1_at, if_pos ⟨rfl, rfl⟩, hs]
    refine h _ _ (fr_m s12_sC f2) ?_ ?_
    · have hp : z_Ppus A s.toInt = z_Pp A s.toInt := by rw [z_Ppus, ht]; rfl
      rw [hp]
      refine hf_land hc f2 (wA_Pp wA (by omega) (by omega)) ?_ (by rw [← k 0 (by omega) (by omega)]; omega) (by rw [Pp_1]; omega) (k 4 (by omega) (by omega)) (fun j hj => k j (by omega) (by omega))
      refine ⟨?_, by rw [g1, Pp_1], fun j hj => ?_, fun j hj hj2 => ?_, fun j hj => ?_, fun j hj => ?_, fun hz j hj => ?_, ⟨?_, fun i hi => ?_⟩, ⟨?_, fun i hi => ?_⟩⟩
      · rw [e2, w1_at, if_neg (by omega), b1, c1, k 0 (by omega) (by omega)]
      · rw [o2 _ (by omega) (by omega), c3 j hj, k (10 + j) (by omega) (by omega)]
      · rw [← k 0 (by omega) (by omega)] at hj2
        rw [o2 _ (by omega) (by omega), c4 j hj hj2, k (22 + j) (by omega) (by omega)]
      · rw [e2, w1_c (by omega), e1, w1_at, Pp_s]
        by_cases r : j = (A 1).toNat
        · rw [if_pos ⟨rfl, r⟩, if_pos r]
        · rw [if_neg (fun z => r z.2), if_neg r, c5 j hj]
      · rw [o2 _ (by omega) (by omega), c6 j hj, k (30 + j) (by omega) (by omega)]
      · rw [← k 0 (by omega) (by omega)] at hz
        rw [o2 _ (by omega) (by omega), c7 hz j hj, lk_W (fun m hm => k (30 + m) (by omega) (by omega))]
      · rw [o2 _ (by omega) (by omega), c8.1, k 5 (by omega) (by omega)]
      · rw [o2 _ (by omega) (by omega), o2 _ (by omega) (by omega), (c8.2 i hi).1, (c8.2 i hi).2, k (94 + 2 * i) (by omega) (by omega), k (95 + 2 * i) (by omega) (by omega)]
        exact ⟨rfl, rfl⟩
      · rw [o2 _ (by omega) (by omega), c9.1, k 6 (by omega) (by omega)]
      · rw [o2 _ (by omega) (by omega), o2 _ (by omega) (by omega), (c9.2 i hi).1, (c9.2 i hi).2, k (110 + 2 * i) (by omega) (by omega), k (111 + 2 * i) (by omega) (by omega)]
        exact ⟨rfl, rfl⟩
    · rw [z_Apus, ht, z_sub (by rw [g1]; simp only [Int32.reduceToInt]; omega), g1]
      simp only [Int32.reduceToInt, if_true]
      omega
  · rw [z_lt, c2] at q; simp only [Int32.reduceToInt] at q; omega
  · rw [z_le] at q; simp only [Int32.reduceToInt] at q; omega
theorem ms_pusher {d : Nat} {s : Int32} {τ : x_T} {A : Nat → Int} {K : x_T → Int32 → Prop} (hm : j_A τ = A) (wA : w_A A) (h : ∀ (σ : x_T) (u : Int32), x_fr j_sM τ σ → j_A σ = z_Ppus A s.toInt → u.toInt = z_Apus A s.toInt → K σ u) : x_CI (d + 1) mX12_pusher [.ref 345, .int s] τ K := by
  have w0 := wA.1
  have c0 : (τ.1 346 1).toInt = A 1 := jA_at hm 1
  have no : ¬ (1 ≤ s.toInt ∧ s.toInt ≤ 9 ∧ A 1 < 4) → K τ (-1) := by
    intro z
    have hf : z_okp A s.toInt = false := decide_eq_false z
    refine h _ _ (fr_r _ _) ?_ ?_
    · rw [z_Ppus, hf]; exact hm
    · rw [z_Apus, hf]; rfl
  refine e_X12_pusher (fun y1 e1 => ml_in (fun q1 q2 => ⟨fun q => absurd q z_10, fun _ => ⟨fun q3 => ?_, fun q => no ?_⟩⟩) (fun q => ⟨fun _ => no ?_, fun r => absurd rfl r⟩))
  · simp only [Int32.reduceToInt] at q1 q2
    rw [z_eq, e1, c0] at q3; simp only [Int32.reduceToInt] at q3
    have ht : z_okp A s.toInt = true := decide_eq_true (by omega)
    have k18 := ix_c 18 (by omega) 3670 (v := y1) (by rw [e1, c0]; omega) (by omega)
    have cl : ((18 : Int32) + y1).toNatClampNeg = 18 + (A 1).toNat := (show ((18 : Int32) + y1).toNatClampNeg = 18 + y1.toInt.toNat from k18.1).trans (by rw [e1, c0])
    refine ⟨k18.2, fun t4 e4 t5 e5 => h _ _ (by rw [e5, e4]; exact fr_w (fr_w (fr_r _ _) (Or.inl rfl)) (Or.inl rfl)) ?_ (by rw [z_Apus, ht, e1, c0]; rfl)⟩
    rw [cl] at e4
    have hp : z_Ppus A s.toInt = z_Pp A s.toInt := by rw [z_Ppus, ht]; rfl
    rw [hp]
    funext k
    unfold j_A z_Pp
    rw [e5, w1_at, z_set_e, z_set_e]
    have c4 : (t4.1 346 1).toInt = A 1 := by rw [e4, w1_at, if_neg (by omega), c0]
    by_cases r : k = 1
    · rw [if_pos ⟨rfl, r⟩, if_pos r, z_add (by rw [c4]; simp only [Int32.reduceToInt]; omega), c4]; rfl
    · rw [if_neg (fun z => r z.2), if_neg r, e4, w1_at]
      by_cases t : k = 18 + (A 1).toNat
      · rw [if_pos ⟨rfl, t⟩, if_pos t]
      · rw [if_neg (fun z => t z.2), if_neg t, jA_at hm]
  · rw [z_eq, e1, c0] at q; simp only [Int32.reduceToInt] at q; omega
  · simp only [Int32.reduceToInt] at q; omega
