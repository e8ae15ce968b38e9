/-! Numbers: Int32 by toInt -/
theorem z_lt {x y : Int32} : x < y ↔ x.toInt < y.toInt := Int32.lt_iff_toInt_lt
theorem z_le {x y : Int32} : x ≤ y ↔ x.toInt ≤ y.toInt := Int32.le_iff_toInt_le
theorem z_eq {x y : Int32} : x = y ↔ x.toInt = y.toInt := Int32.toInt_inj.symm
theorem z_cl (x : Int32) : x.toNatClampNeg = x.toInt.toNat := rfl
theorem z_bd (x : Int32) : -2147483648 ≤ x.toInt ∧ x.toInt < 2147483648 := ⟨by have := Int32.le_toInt x; omega, by have := Int32.toInt_lt x; omega⟩
theorem z_in {i : Int32} {n : Nat} : vp_in i n ↔ 0 ≤ i.toInt ∧ i.toInt < (n : Int) := by
  unfold vp_in
  rw [z_lt, z_cl, Int32.toInt_zero]
  omega
theorem z_bm {a : Int} (h : -2147483648 ≤ a ∧ a < 2147483648) : a.bmod (2 ^ 32) = a := Int.bmod_eq_of_le (by omega) (by omega)
theorem z_add {a b : Int32} (h : -2147483648 ≤ a.toInt + b.toInt ∧ a.toInt + b.toInt < 2147483648) : (a + b).toInt = a.toInt + b.toInt := by rw [Int32.toInt_add]; exact z_bm h
theorem z_sub {a b : Int32} (h : -2147483648 ≤ a.toInt - b.toInt ∧ a.toInt - b.toInt < 2147483648) : (a - b).toInt = a.toInt - b.toInt := by rw [Int32.toInt_sub]; exact z_bm h
theorem z_mul {a b : Int32} (h : -2147483648 ≤ a.toInt * b.toInt ∧ a.toInt * b.toInt < 2147483648) : (a * b).toInt = a.toInt * b.toInt := by rw [Int32.toInt_mul]; exact z_bm h
theorem z_neg {a : Int32} (h : -2147483648 < a.toInt) : (-a).toInt = -a.toInt := by
  have := z_bd a
  rw [Int32.toInt_neg]; exact z_bm (by omega)
theorem z_rem {a b : Int32} : (a - a / b * b).toInt = a.toInt.tmod b.toInt := rem_toInt a b
theorem z_n {n : Nat} (h : n < 2147483648) : (nI n).toInt = (n : Int) := nI_toInt (by omega)
theorem z_of {x : Int32} {n : Nat} (hn : n < 2147483648) (h : x.toInt = (n : Int)) : x = nI n := z_eq.mpr (by rw [z_n hn]; exact h)
/-- a truth value as the machine has it -/
def z_b (b : Bool) : Int32 := if b = true then 1 else 0
theorem z_b_n (b : Bool) : narrow .boolean (.int (z_b b)) = .int (z_b b) := by cases b <;> decide
theorem z_b0 {b : Bool} : z_b b = 0 ↔ b = false := by cases b <;> decide
theorem z_b1 {b : Bool} : z_b b = 1 ↔ b = true := by cases b <;> decide
/-- the numbers of the memory -/
def x_z (τ : x_T) (c k : Nat) : Int := (τ.1 c k).toInt
theorem w1_at (τ : x_T) (c k : Nat) (v : Int32) (a b : Nat) : (x_w1 τ c k v).1 a b = if a = c ∧ b = k then v else τ.1 a b := rfl
theorem w1_c {τ : x_T} {c k : Nat} {v : Int32} {a : Nat} (h : a ≠ c) : (x_w1 τ c k v).1 a = τ.1 a := by funext b; simp [x_w1, h]
theorem w1_2 (τ : x_T) (c k : Nat) (v : Int32) : (x_w1 τ c k v).2 = τ.2 := rfl
/-! the model's small methods -/
theorem p_in {d : Nat} {a lo hi : Int32} {τ : x_T} {K : x_T → Int32 → Prop} (h : K τ (z_b (decide (lo.toInt ≤ a.toInt ∧ a.toInt ≤ hi.toInt)))) : x_CI d mX12_in [.int a, .int lo, .int hi] τ K := by
  refine e_X12_in ⟨fun q => ?_, fun q => ⟨fun r => ?_, fun r => ?_⟩⟩
  · rw [z_lt] at q; rw [decide_eq_false (by omega)] at h; exact h
  · rw [z_lt] at q r; rw [decide_eq_false (by omega)] at h; exact h
  · rw [z_lt] at q r; rw [decide_eq_true (by omega)] at h; exact h
theorem p_isHouse {d : Nat} {a : Int32} {τ : x_T} {K : x_T → Int32 → Prop} (hn : 0 ≤ x_z τ 346 0) (h : K τ (z_b (decide (0 ≤ a.toInt ∧ a.toInt < x_z τ 346 0)))) : x_CI (d + 1) mX12_isHouse [.ref 345, .int a] τ K := by
  refine e_X12_isHouse (p_in ⟨z_b_n _, ?_⟩)
  unfold x_z at hn h
  have := z_bd (τ.1 346 0)
  rw [z_sub (by show _ ≤ _ - 1 ∧ _ - 1 < _; omega)]
  rw [show decide ((0 : Int32).toInt ≤ a.toInt ∧ a.toInt ≤ (τ.1 346 0).toInt - (1 : Int32).toInt) = decide (0 ≤ a.toInt ∧ a.toInt < (τ.1 346 0).toInt) from decide_eq_decide.mpr (by show 0 ≤ _ ∧ _ ≤ _ - 1 ↔ _; omega)]
  exact h
theorem p_house {d : Nat} {a : Int32} {τ : x_T} {K : x_T → Int32 → Prop} (hn : 0 ≤ x_z τ 346 0 ∧ x_z τ 346 0 ≤ 8) (h0 : ¬ (0 ≤ a.toInt ∧ a.toInt ≤ 9 ∧ x_z τ 346 0 < 8) → K τ (-1)) (h1 : 0 ≤ a.toInt ∧ a.toInt ≤ 9 ∧ x_z τ 346 0 < 8 → K (x_w1 (x_w1 τ 346 (10 + (x_z τ 346 0).toNat) a) 346 0 (τ.1 346 0 + 1)) (τ.1 346 0)) : x_CI (d + 1) mX12_house [.ref 345, .int a] τ K := by
  unfold x_z at hn h0 h1
  refine e_X12_house (fun y1 e1 => p_in ?_)
  subst e1
  have hb := z_bd (τ.1 346 0)
  have e0 : (0 : Int32).toInt = 0 := by decide
  have e9 : (9 : Int32).toInt = 9 := by decide
  have e8 : (8 : Int32).toInt = 8 := by decide
  have e10 : (10 : Int32).toInt = 10 := by decide
  rw [e0, e9]
  refine ⟨fun q => h0 ?_, fun q => ⟨fun r => ⟨?_, fun t4 e4 t5 e5 => ?_⟩, fun r => h0 ?_⟩⟩
  · rw [z_b0, decide_eq_false_iff_not] at q; omega
  · rw [z_in, z_add (by omega)]; omega
  · subst e4; subst e5
    have hq : decide (0 ≤ a.toInt ∧ a.toInt ≤ 9) = true := by
      cases hd : decide (0 ≤ a.toInt ∧ a.toInt ≤ 9)
      · exact absurd (z_b0.mpr hd) q
      · rfl
    have hq := of_decide_eq_true hq
    have r8 : ¬ (τ.1 346 0).toInt = 8 := fun z => r (z_eq.mpr (by rw [z, e8]))
    have h2 := h1 ⟨hq.1, hq.2, by omega⟩
    have hk : (10 + τ.1 346 0).toNatClampNeg = 10 + (τ.1 346 0).toInt.toNat := by rw [z_cl, z_add (by omega), e10]; omega
    rw [hk, w1_at, if_neg (by omega)]
    exact h2
  · rw [r, e8]; omega
/-! arrays as numbers -/
theorem z_oi {z : Int} (h : -2147483648 ≤ z ∧ z < 2147483648) : (Int32.ofInt z).toInt = z := by rw [Int32.toInt_ofInt]; exact z_bm h
/-- the first n numbers of cell c are F -/
def x_st (τ : x_T) (c n : Nat) (F : Nat → Int) : x_T := (fun a j => if a = c ∧ j < n then Int32.ofInt (F j) else τ.1 a j, τ.2)
theorem st_at {τ : x_T} {c n k : Nat} {F : Nat → Int} (h : k < n) : (x_st τ c n F).1 c k = Int32.ofInt (F k) := by simp [x_st, h]
theorem st_ge {τ : x_T} {c n k : Nat} {F : Nat → Int} (h : n ≤ k) : (x_st τ c n F).1 c k = τ.1 c k := by simp [x_st, Nat.not_lt.mpr h]
theorem st_ne {τ : x_T} {c n a : Nat} {F : Nat → Int} (h : a ≠ c) : (x_st τ c n F).1 a = τ.1 a := by funext j; simp [x_st, h]
theorem st_2 (τ : x_T) (c n : Nat) (F : Nat → Int) : (x_st τ c n F).2 = τ.2 := rfl
theorem st_cg {τ : x_T} {c n : Nat} {F F' : Nat → Int} (h : ∀ j, j < n → F j = F' j) : x_st τ c n F = x_st τ c n F' := by
  unfold x_st
  congr 1
  funext a j
  by_cases hj : a = c ∧ j < n
  · rw [if_pos hj, if_pos hj, h j hj.2]
  · rw [if_neg hj, if_neg hj]
theorem st_w {τ : x_T} {c n k : Nat} {F : Nat → Int} {v : Int32} (hk : k < n) : x_w1 (x_st τ c n F) c k v = x_st τ c n (fun j => if j = k then v.toInt else F j) := by
  unfold x_st x_w1
  congr 1
  funext a j
  by_cases h : a = c ∧ j = k
  · obtain ⟨rfl, rfl⟩ := h
    simp [hk, Int32.ofInt_toInt]
  · rw [if_neg h]
    dsimp only
    by_cases h2 : a = c ∧ j < n
    · rw [if_pos h2, if_pos h2, if_neg (fun e => h ⟨h2.1, e⟩)]
    · rw [if_neg h2, if_neg h2]
theorem st_self (τ : x_T) (c n : Nat) : x_st τ c n (fun j => (τ.1 c j).toInt) = τ := by
  unfold x_st
  obtain ⟨f, r⟩ := τ
  congr 1
  funext a j
  by_cases h : a = c ∧ j < n
  · rw [if_pos h, h.1, Int32.ofInt_toInt]
  · rw [if_neg h]
/-! copies -/
theorem p_copies1 {d : Nat} {τ : x_T} {K : x_T → Prop} (h : K (x_st τ 347 3670 (fun j => (τ.1 346 j).toInt))) : x_CV d mX12_copies [.ref 345, .int 1] τ K := by
  refine e_X12_copies ?_
  have loop : ∀ n k : Nat, n + k = 3670 → x_WV d mX12_copies K 2 [(0, .ref 345), (1, .int 1), (2, .int (nI k))] [] (x_st τ 347 3670 (fun j => if j < k then (τ.1 346 j).toInt else (τ.1 347 j).toInt)) := by
    intro n
    induction n with
    | zero =>
      intro k hk
      have : k = 3670 := by omega
      subst this
      refine k_X12_copies_2 ⟨fun _ => ?_, fun q => absurd (by decide) q⟩
      rw [st_cg (F' := fun j => (τ.1 346 j).toInt) (fun j hj => by rw [if_pos hj])]
      exact h
    | succ n ih =>
      intro k hk
      refine k_X12_copies_2 ⟨fun q => absurd q (nI_ge (a := k) (b := 3670) (by omega) (by decide)), fun _ => ⟨fun q => absurd q (by decide), fun _ => ⟨vp_in_nI (by omega) (by decide), vp_in_nI (by omega) (by decide), fun t2 e2 => k_X12_copies_40 (fun y1 e1 => ?_)⟩⟩⟩
      subst e2; subst e1
      rw [nI_clamp (by omega), st_ne (by decide), st_w (by omega), ← nI_succ]
      rw [st_cg (F' := fun j => if j < k + 1 then (τ.1 346 j).toInt else (τ.1 347 j).toInt) (fun j hj => by
        by_cases h1 : j = k
        · rw [if_pos h1, if_pos (by omega), h1]
        · rw [if_neg h1]
          by_cases h2 : j < k
          · rw [if_pos h2, if_pos (by omega)]
          · rw [if_neg h2, if_neg (by omega)])]
      exact ih (k + 1) (by omega)
  have h0 := loop 3670 0 (by omega)
  rw [st_cg (F' := fun j => (τ.1 347 j).toInt) (fun j hj => by rw [if_neg (by omega)]), st_self] at h0
  exact h0
