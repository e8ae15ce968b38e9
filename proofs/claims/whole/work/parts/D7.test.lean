/-! which token stands there -/
theorem sg_k (x : Int) : 0 ≤ q_sg x ∧ q_sg x ≤ 47 := by
  unfold q_sg
  repeat' split
  all_goals omega
theorem K_b (b : Nat → Int) (n i : Nat) : 0 ≤ q_K b n i ∧ q_K b n i ≤ 47 := by
  unfold q_K
  split
  · unfold q_kd
    repeat' split
    · rcases wk_b b (q_tp b n i) (q_r q_le b n (q_tp b n i) - q_tp b n i) with q | ⟨q, h1, h2, _⟩
      · omega
      · omega
    · omega
    · omega
    · omega
    · exact sg_k _
  · omega
theorem tp_ge {b : Nat → Int} {n : Nat} : ∀ i, i ≤ q_tp b n i ∨ q_tp b n i = n
  | 0 => Or.inl (Nat.zero_le _)
  | i + 1 => by
    rcases tp_ge (b := b) (n := n) i with h | h
    · by_cases q : q_tp b n i < n
      · have := en_b (b := b) q
        have e := (tp_s q).1
        have := (tp_b b n (i + 1)).1
        exact Or.inl (by omega)
      · have := (tp_b b n i).2.1
        exact Or.inr (tp_n (by omega) 1)
    · exact Or.inr (tp_n h 1)
theorem K_lt {b : Nat → Int} {n i : Nat} (h : ¬ q_K b n i = 46) : i < n := by
  unfold q_K at h
  split at h
  · rename_i q
    rcases tp_ge (b := b) (n := n) i with g | g
    · omega
    · omega
  · exact absurd rfl h
theorem tq_1 : ∀ a, a < 45 → ∀ c, c < 45 → q_fs a = q_fs c → q_ft a = q_ft c → a = c := by decide +kernel
theorem tq_2 : ∀ a, a < 45 → ((q_fs a = 3 ↔ 32 ≤ a) ∧ (q_fs a = 1 ↔ a < 32) ∧ ¬ q_ft a = 44 ∧ ¬ q_fs a = 2 ∧ ¬ q_fs a = 0) := by decide +kernel
theorem tq_S {k v s t : Int} (hR : q_R k v s t) (hk : 0 ≤ k ∧ k ≤ 47) {c : Nat} (h : 32 ≤ c ∧ c < 45) : (s = 3 ∧ t = q_ft c) ↔ k = c := by
  obtain ⟨r1, r2, r3, r4⟩ := hR
  have z := tq_2 c h.2
  constructor
  · intro ⟨a1, a2⟩
    by_cases q : k < 45
    · obtain ⟨e1, e2⟩ := r1 q
      have := tq_1 k.toNat (by omega) c h.2 (by rw [← e1, a1, z.1.mpr h.1]) (by rw [← e2, a2])
      omega
    · by_cases q1 : k = 45
      · have := (r2 q1).1; omega
      · by_cases q2 : k = 46
        · have := r3 q2; omega
        · rcases r4 (by omega) with g | g
          · omega
          · exact absurd (a2.symm.trans g.2) z.2.2.1
  · intro e
    subst e
    obtain ⟨e1, e2⟩ := r1 (by omega)
    rw [Int.toNat_natCast] at e1 e2
    exact ⟨e1.trans (z.1.mpr h.1), e2⟩
theorem tq_W {k v s t : Int} (hR : q_R k v s t) (hk : 0 ≤ k ∧ k ≤ 47) {c : Nat} (h : c < 32) : (s = 1 ∧ t = q_ft c) ↔ k = c := by
  obtain ⟨r1, r2, r3, r4⟩ := hR
  have z := tq_2 c (by omega)
  constructor
  · intro ⟨a1, a2⟩
    by_cases q : k < 45
    · obtain ⟨e1, e2⟩ := r1 q
      have := tq_1 k.toNat (by omega) c (by omega) (by rw [← e1, a1, z.2.1.mpr h]) (by rw [← e2, a2])
      omega
    · by_cases q1 : k = 45
      · have := (r2 q1).1; omega
      · by_cases q2 : k = 46
        · have := r3 q2; omega
        · rcases r4 (by omega) with g | g
          · omega
          · omega
  · intro e
    subst e
    obtain ⟨e1, e2⟩ := r1 (by omega)
    rw [Int.toNat_natCast] at e1 e2
    exact ⟨e1.trans (z.2.1.mpr h), e2⟩
theorem tq_w {k v s t : Int} (hR : q_R k v s t) (hk : 0 ≤ k ∧ k ≤ 47) : s = 1 ↔ k < 32 := by
  obtain ⟨r1, r2, r3, r4⟩ := hR
  by_cases q : k < 45
  · obtain ⟨e1, e2⟩ := r1 q
    have := (tq_2 k.toNat (by omega)).2.1
    rw [e1]
    omega
  · by_cases q1 : k = 45
    · have := (r2 q1).1; omega
    · by_cases q2 : k = 46
      · have := r3 q2; omega
      · rcases r4 (by omega) with g | g
        · omega
        · omega
theorem tq_N {k v s t : Int} (hR : q_R k v s t) (hk : 0 ≤ k ∧ k ≤ 47) : s = 2 ↔ k = 45 := by
  obtain ⟨r1, r2, r3, r4⟩ := hR
  by_cases q : k < 45
  · obtain ⟨e1, e2⟩ := r1 q
    have := (tq_2 k.toNat (by omega)).2.2.2.1
    rw [e1]
    constructor
    · intro a; exact absurd a this
    · omega
  · by_cases q1 : k = 45
    · have := (r2 q1).1; omega
    · by_cases q2 : k = 46
      · have := r3 q2; omega
      · rcases r4 (by omega) with g | g
        · omega
        · omega
theorem tq_E {k v s t : Int} (hR : q_R k v s t) (hk : 0 ≤ k ∧ k ≤ 47) : s = 0 ↔ k = 46 := by
  obtain ⟨r1, r2, r3, r4⟩ := hR
  by_cases q : k < 45
  · obtain ⟨e1, e2⟩ := r1 q
    have := (tq_2 k.toNat (by omega)).2.2.2.2
    rw [e1]
    constructor
    · intro a; exact absurd a this
    · omega
  · by_cases q1 : k = 45
    · have := (r2 q1).1; omega
    · by_cases q2 : k = 46
      · have := r3 q2; omega
      · rcases r4 (by omega) with g | g
        · omega
        · omega
theorem mq_isSign {d n w p o f u s m c : Nat} {v : Int32} {σ : x_T} {b : Nat → Int} {K : x_T → Int32 → Prop} (h : q_ms σ b n w p o f u s m) (hc : 32 ≤ c ∧ c < 45) (hv : v.toInt = q_ft c) (h1 : q_K b n p = c → K σ 1) (h0 : ¬ q_K b n p = c → K σ 0) : x_CI d mX12_isSign [.ref 345, .int v] σ K := by
  have z := tq_S h.2.1.2.2 (K_b b n p) hc
  refine e_X12_isSign ⟨fun q => h0 (fun e => q (z_eq.mpr (z.mpr e).1)), fun q => ⟨fun q2 => h0 (fun e => q2 (z_eq.mpr ((z.mpr e).2.trans hv.symm))), fun q2 => h1 (z.mp ⟨z_eq.mp q, (z_eq.mp q2).trans hv⟩)⟩⟩
theorem mq_isWord {d n w p o f u s m c : Nat} {v : Int32} {σ : x_T} {b : Nat → Int} {K : x_T → Int32 → Prop} (h : q_ms σ b n w p o f u s m) (hc : c < 32) (hv : v.toInt = q_ft c) (h1 : q_K b n p = c → K σ 1) (h0 : ¬ q_K b n p = c → K σ 0) : x_CI d mX12_isWord [.ref 345, .int v] σ K := by
  have z := tq_W h.2.1.2.2 (K_b b n p) hc
  refine e_X12_isWord ⟨fun q => h0 (fun e => q (z_eq.mpr (z.mpr e).1)), fun q => ⟨fun q2 => h0 (fun e => q2 (z_eq.mpr ((z.mpr e).2.trans hv.symm))), fun q2 => h1 (z.mp ⟨z_eq.mp q, (z_eq.mp q2).trans hv⟩)⟩⟩
/-! names -/
theorem nm_1 : ∀ j, j < 12 → q_ft (x_wd j) = (q_mw.getD (x_wd j) 0 : Nat) ∧ x_wd j < 32 := by decide +kernel
theorem nm_2 : ∀ k, k < 32 → (if q_ft k = 10 then x_wd 0 = k else if q_ft k = 5 then x_wd 7 = k else if 28 ≤ q_ft k then (q_ft k - 28 + 8 < 12 ∧ x_wd (q_ft k - 28 + 8).toNat = k) else if 22 ≤ q_ft k then (x_wd (q_ft k - 22 + 1).toNat = k) else ∀ j, j < 12 → ¬ x_wd j = k) := by decide +kernel
theorem nm_3 : ∀ j, j < 12 → ∀ w, w < 4 → ¬ x_named.getD (x_wd j) 0 = 0 ∧ (¬ (x_named.getD (x_wd j) 0 >>> (nI w &&& 31)) &&& 1 = 0 ↔ (decide (j < 3 ∨ (w = 0 ∧ 6 ≤ j ∧ j < 9) ∨ (w = 1 ∧ 9 ≤ j ∧ j < 11) ∨ (w = 2 ∧ 3 ≤ j ∧ j < 6) ∨ (w = 3 ∧ j = 11)) = true)) := by decide +kernel
theorem nm_4 : ∀ k, k < 32 → (∀ j, j < 12 → ¬ x_wd j = k) → x_named.getD k 0 = 0 := by decide +kernel
theorem mq_name {d n w p o f u s m : Nat} {σ : x_T} {b : Nat → Int} {K : x_T → Int32 → Prop} (h : q_ms σ b n w p o f u s m) (h1 : ∀ (j : Nat) (a : Int32), j < 12 → q_K b n p = x_wd j → a.toInt = j → K σ a) (h0 : (∀ j, j < 12 → ¬ q_K b n p = x_wd j) → K σ (-1)) : x_CI d mX12_nameNow [.ref 345] σ K := by
  have hb := K_b b n p
  have z := tq_w h.2.1.2.2 hb
  by_cases q0 : q_K b n p < 32
  · obtain ⟨e1, e2⟩ := h.2.1.2.2.1 (by omega)
    have y := nm_2 (q_K b n p).toNat (by omega)
    rw [← e2] at y
    have y0 : ((q_K b n p).toNat : Int) = q_K b n p := Int.toNat_of_nonneg hb.1
    refine e_X12_nameNow ⟨fun _ => ⟨fun q1 => ⟨fun q2 => ⟨fun q3 => ⟨fun q4 => ?_, fun q4 => ?_⟩, fun q3 => ?_⟩, fun q2 => ?_⟩, fun q1 => ?_⟩, fun q => absurd (z_eq.mpr (z.mpr q0)) q⟩
    all_goals (simp only [z_eq, z_lt, Int32.reduceToInt] at q1)
    all_goals (try simp only [z_eq, z_lt, Int32.reduceToInt] at q2)
    all_goals (try simp only [z_eq, z_lt, Int32.reduceToInt] at q3)
    all_goals (try simp only [z_eq, z_lt, Int32.reduceToInt] at q4)
    · rw [if_neg q1, if_neg q2, if_neg (by omega), if_neg (by omega)] at y
      exact h0 (fun j hj e => y j hj (by omega))
    · rw [if_neg q1, if_neg q2, if_neg (by omega), if_pos (by omega)] at y
      have g : ((σ.1 345 18) - 22 + 1).toInt = ((σ.1 345 18).toInt - 22 + 1) := by
        have g1 : ((σ.1 345 18) - 22).toInt = (σ.1 345 18).toInt - 22 := z_sub (by simp only [Int32.reduceToInt]; omega)
        rw [z_add (by rw [g1]; simp only [Int32.reduceToInt]; omega), g1]; simp only [Int32.reduceToInt]
      exact h1 ((σ.1 345 18).toInt - 22 + 1).toNat _ (by omega) (by omega) (by omega)
    · rw [if_neg q1, if_neg q2, if_pos (by omega)] at y
      have g : ((σ.1 345 18) - 28 + 8).toInt = ((σ.1 345 18).toInt - 28 + 8) := by
        have g1 : ((σ.1 345 18) - 28).toInt = (σ.1 345 18).toInt - 28 := z_sub (by simp only [Int32.reduceToInt]; omega)
        rw [z_add (by rw [g1]; simp only [Int32.reduceToInt]; omega), g1]; simp only [Int32.reduceToInt]
      exact h1 ((σ.1 345 18).toInt - 28 + 8).toNat _ (by omega) (by omega) (by omega)
    · rw [if_neg q1, if_pos q2] at y
      exact h1 7 _ (by omega) (by omega) rfl
    · rw [if_pos q1] at y
      exact h1 0 _ (by omega) (by omega) rfl
  · refine e_X12_nameNow ⟨fun q => absurd (z.mp (z_eq.mp q)) q0, fun _ => h0 (fun j hj e => ?_)⟩
    have := (nm_1 j hj).2
    omega
theorem mq_may {d j w : Nat} {v0 v1 : Int32} {σ : x_T} {K : x_T → Int32 → Prop} (hj : v0.toInt = j) (hw : v1.toInt = w) (hj2 : j < 12) (hw2 : w < 4) (h1 : x_al w j → K σ 1) (h0 : ¬ x_al w j → K σ 0) : x_CI d mX12_mayName [.int v0, .int v1] σ K := by
  unfold x_al at h1 h0
  refine e_X12_mayName ⟨fun q => h1 ?_, fun q1 => ⟨fun q2 => ⟨fun q3 => ⟨fun q4 => ⟨fun q5 => h0 ?_, fun q5 => h1 ?_⟩, fun q4 => ⟨fun q5 => h0 ?_, fun q5 => h1 ?_⟩⟩, fun q3 => ⟨fun q5 => h0 ?_, fun q5 => h1 ?_⟩⟩, fun q2 => ⟨fun q5 => h0 ?_, fun q5 => h1 ?_⟩⟩⟩
  all_goals (simp only [z_lt, z_le, z_eq, hj, hw, Int32.reduceToInt] at *; omega)
