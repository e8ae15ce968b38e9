/-! the parish as numbers -/
theorem i_lit (n : Nat) : (@OfNat.ofNat Int32 n _) = nI (OfNat.ofNat n) := rfl
def z_lk (A : Nat → Int) (k : Nat) : Int := if k < 64 then A (30 + k) else 0
def z_W (A : Nat → Int) (i j : Nat) : Int := z_fw (z_lk A) 8 i j
def z_far (A : Nat → Int) (x y : Int) : Int := if 0 ≤ x ∧ x < A 0 ∧ 0 ≤ y ∧ y < A 0 then z_W A x.toNat y.toNat else 99
def z_ln (A : Nat → Int) (x y : Int) : Int := if 0 ≤ x ∧ x < A 0 ∧ 0 ≤ y ∧ y < A 0 then A (30 + (8 * x.toNat + y.toNat)) else 0
def z_hl (A : Nat → Int) (x : Int) : Int := if 0 ≤ x ∧ x < A 0 then A (10 + x.toNat) else 0
def z_sg (A : Nat → Int) (x : Int) : Int := if 0 ≤ x ∧ x < A 1 then A (18 + x.toNat) else 0
def z_hour (A : Nat → Int) (noon house : Int) : Int := if house ≤ noon then z_hd (12 - z_far A noon house) 0 23 else z_hd (12 + z_far A noon house) 0 23
/-- what holds of every parish -/
def w_A (A : Nat → Int) : Prop := (0 ≤ A 0 ∧ A 0 ≤ 8 ∧ 0 ≤ A 1 ∧ A 1 ≤ 4)
  ∧ (∀ h, h < 8 → 0 ≤ A (10 + h) ∧ A (10 + h) ≤ 9)
  ∧ (∀ q, q < 4 → 0 ≤ A (18 + q) ∧ A (18 + q) ≤ 9)
  ∧ (∀ h : Nat, h < 8 → 1 ≤ A (22 + h) ∧ A (22 + h) ≤ 9 ∧ (A 0 ≤ h → A (22 + h) = 1))
  ∧ (∀ k, k < 64 → 0 ≤ A (30 + k) ∧ A (30 + k) ≤ 9)
  ∧ (∀ i j : Nat, i < 8 → j < 8 → A (30 + (8 * i + j)) = A (30 + (8 * j + i)) ∧ (A 0 ≤ i → A (30 + (8 * i + j)) = 0) ∧ (i = j → A (30 + (8 * i + j)) = 0))
  ∧ (0 ≤ A 5 ∧ A 5 ≤ 8 ∧ ∀ i : Nat, i < 8 → (i : Int) < A 5 → 0 ≤ A (94 + 2 * i) ∧ A (94 + 2 * i) < A 0 ∧ 0 ≤ A (95 + 2 * i) ∧ A (95 + 2 * i) ≤ 23)
  ∧ (0 ≤ A 6 ∧ A 6 ≤ 8 ∧ ∀ i : Nat, i < 8 → (i : Int) < A 6 → 0 ≤ A (110 + 2 * i) ∧ A (110 + 2 * i) < A 0 ∧ 0 ≤ A (111 + 2 * i) ∧ A (111 + 2 * i) ≤ 99)
/-- the class's land at B is A -/
def x_cl (B : Nat) (τ : x_T) (A : Nat → Int) : Prop := (τ.1 B 0).toInt = A 0 ∧ (τ.1 B 1).toInt = A 1
  ∧ (∀ h, h < 8 → (τ.1 (B + 1) h).toInt = A (10 + h))
  ∧ (∀ h : Nat, h < 8 → (h : Int) < A 0 → (τ.1 (B + 2) h).toInt = A (22 + h))
  ∧ (∀ q, q < 4 → (τ.1 (B + 3) q).toInt = A (18 + q))
  ∧ (∀ k, k < 64 → (τ.1 (B + 4) k).toInt = A (30 + k))
  ∧ (0 < A 0 → ∀ k, k < 64 → (τ.1 (B + 5) k).toInt = z_W A (k / 8) (k % 8))
  ∧ ((τ.1 (B + 6) 2).toInt = A 5 ∧ ∀ i, i < 8 → (τ.1 (B + 7) i).toInt = A (94 + 2 * i) ∧ (τ.1 (B + 8) i).toInt = A (95 + 2 * i))
  ∧ ((τ.1 (B + 9) 2).toInt = A 6 ∧ ∀ i, i < 8 → (τ.1 (B + 10) i).toInt = A (110 + 2 * i) ∧ (τ.1 (B + 11) i).toInt = A (111 + 2 * i))
/-- a day of the class as one row -/
def x_dg (τ : x_T) (D k : Nat) : Int32 := if k < 7 then τ.1 D k else if k < 15 then τ.1 (D + 1) (k - 7) else if k < 23 then τ.1 (D + 2) (k - 15) else if k = 23 then τ.1 D 9 else τ.1 (D + 3) (k - 24)
def x_cd (D : Nat) (τ : x_T) (e : Nat → Int) : Prop := ∀ k, k < 114 → (x_dg τ D k).toInt = e k
def x_md (τ : x_T) (e : Nat → Int) : Prop := ∀ k, k < 114 → (τ.1 370 k).toInt = e k
/-- what holds of every day -/
def w_D (A e : Nat → Int) : Prop := (0 ≤ e 0 ∧ (e 0 = 0 ∨ e 0 < A 0)) ∧ (0 ≤ e 2 ∧ e 2 ≤ 9999)
  ∧ (0 < e 2 → e 0 < A 0 ∧ 0 ≤ e 1 ∧ e 1 < A 0 ∧ 0 ≤ e 3 ∧ e 3 < A 1) ∧ (e 2 = 0 → e 1 = -1 ∧ e 3 = -1)
  ∧ (0 ≤ e 4 ∧ e 4 ≤ 99) ∧ (0 ≤ e 5 ∧ e 5 ≤ 9999) ∧ (0 ≤ e 6 ∧ e 6 < 30313)
  ∧ (∀ h, h < 8 → -999 ≤ e (7 + h) ∧ e (7 + h) ≤ 9999) ∧ (∀ h, h < 8 → 0 ≤ e (15 + h) ∧ e (15 + h) ≤ 99) ∧ (0 ≤ e 23 ∧ e 23 ≤ 30)
/-! frames -/
def x_fr (S : Nat → Prop) (τ σ : x_T) : Prop := (∀ c, ¬ S c → σ.1 c = τ.1 c) ∧ σ.2.2 = τ.2.2
theorem fr_r (S : Nat → Prop) (τ : x_T) : x_fr S τ τ := ⟨fun _ _ => rfl, rfl⟩
theorem fr_t {S : Nat → Prop} {τ σ ρ : x_T} (h : x_fr S τ σ) (g : x_fr S σ ρ) : x_fr S τ ρ := ⟨fun c hc => (g.1 c hc).trans (h.1 c hc), g.2.trans h.2⟩
theorem fr_m {S S' : Nat → Prop} {τ σ : x_T} (m : ∀ c, S c → S' c) (h : x_fr S τ σ) : x_fr S' τ σ := ⟨fun c hc => h.1 c (fun q => hc (m c q)), h.2⟩
theorem fr_w {S : Nat → Prop} {τ σ : x_T} {c k : Nat} {v : Int32} (h : x_fr S τ σ) (hc : S c) : x_fr S τ (x_w1 σ c k v) := ⟨fun a ha => (w1_c (a := a) (c := c) (fun e => ha (by rw [e]; exact hc))).trans (h.1 a ha), h.2⟩
/-- a row of numbers laid anew -/
def x_ar (τ : x_T) (c : Nat) (F : Nat → Int32) : x_T := (fun a j => if a = c then F j else τ.1 a j, τ.2)
theorem ar_at (τ : x_T) (c : Nat) (F : Nat → Int32) : (x_ar τ c F).1 c = F := by funext j; simp [x_ar]
theorem ar_ne {τ : x_T} {c a : Nat} {F : Nat → Int32} (h : a ≠ c) : (x_ar τ c F).1 a = τ.1 a := by funext j; simp [x_ar, h]
theorem ar_2 (τ : x_T) (c : Nat) (F : Nat → Int32) : (x_ar τ c F).2 = τ.2 := rfl
theorem ar_w (τ : x_T) (c : Nat) (F : Nat → Int32) (k : Nat) (v : Int32) : x_w1 (x_ar τ c F) c k v = x_ar τ c (fun j => if j = k then v else F j) := by
  unfold x_ar x_w1
  congr 1
  funext a j
  by_cases h : a = c
  · by_cases h2 : j = k <;> simp [h, h2]
  · simp [h]
theorem w1_ar (τ : x_T) (c k : Nat) (v : Int32) : x_w1 τ c k v = x_ar τ c (fun j => if j = k then v else τ.1 c j) := by
  unfold x_ar x_w1
  congr 1
  funext a j
  by_cases h : a = c
  · by_cases h2 : j = k <;> simp [h, h2]
  · simp [h]
theorem ar_ar (τ : x_T) (c : Nat) (F G : Nat → Int32) : x_ar (x_ar τ c F) c G = x_ar τ c G := by
  unfold x_ar
  congr 1
  funext a j
  by_cases h : a = c <;> simp [h]
theorem ar_self (τ : x_T) (c : Nat) : x_ar τ c (τ.1 c) = τ := by
  unfold x_ar
  obtain ⟨f, r⟩ := τ
  congr 1
  funext a j
  by_cases h : a = c <;> simp [h]
theorem fr_ar {S : Nat → Prop} {τ σ : x_T} {c : Nat} {F : Nat → Int32} (h : x_fr S τ σ) (hc : S c) : x_fr S τ (x_ar σ c F) := ⟨fun a ha => (ar_ne (a := a) (c := c) (fun e => ha (by rw [e]; exact hc))).trans (h.1 a ha), h.2⟩
/-- down from N -/
theorem z_down {P : Nat → Prop} {N : Nat} (h0 : P N) (hs : ∀ k, k < N → P (k + 1) → P k) : ∀ k, k ≤ N → P k := by
  intro k hk
  have : ∀ m k, k + m = N → P k := by
    intro m
    induction m with
    | zero => intro k e; have : k = N := by omega
              subst this; exact h0
    | succ m ih => intro k e; exact hs k (by omega) (ih (k + 1) (by omega))
  exact this (N - k) k (by omega)
/-! days: reading and writing -/
def z_set (f : Nat → Int) (k : Nat) (v : Int) : Nat → Int := fun j => if j = k then v else f j
theorem z_set_e (f : Nat → Int) (k : Nat) (v : Int) (j : Nat) : z_set f k v j = if j = k then v else f j := rfl
theorem cd_0 {D : Nat} {τ : x_T} {e : Nat → Int} (h : x_cd D τ e) {k : Nat} (hk : k < 7) : (τ.1 D k).toInt = e k := by
  have := h k (by omega)
  rw [x_dg, if_pos hk] at this
  exact this
theorem cd_9 {D : Nat} {τ : x_T} {e : Nat → Int} (h : x_cd D τ e) : (τ.1 D 9).toInt = e 23 := h 23 (by omega)
theorem cd_1 {D : Nat} {τ : x_T} {e : Nat → Int} (h : x_cd D τ e) {k : Nat} (hk : k < 8) : (τ.1 (D + 1) k).toInt = e (7 + k) := by
  have := h (7 + k) (by omega)
  rw [x_dg, if_neg (by omega), if_pos (by omega), Nat.add_sub_cancel_left] at this
  exact this
theorem cd_2 {D : Nat} {τ : x_T} {e : Nat → Int} (h : x_cd D τ e) {k : Nat} (hk : k < 8) : (τ.1 (D + 2) k).toInt = e (15 + k) := by
  have := h (15 + k) (by omega)
  rw [x_dg, if_neg (by omega), if_neg (by omega), if_pos (by omega), Nat.add_sub_cancel_left] at this
  exact this
theorem cd_3 {D : Nat} {τ : x_T} {e : Nat → Int} (h : x_cd D τ e) {k : Nat} (hk : k < 90) : (τ.1 (D + 3) k).toInt = e (24 + k) := by
  have := h (24 + k) (by omega)
  rw [x_dg, if_neg (by omega), if_neg (by omega), if_neg (by omega), if_neg (by omega), Nat.add_sub_cancel_left] at this
  exact this
theorem cd_of {D : Nat} {τ : x_T} {e : Nat → Int} (h0 : ∀ k, k < 7 → (τ.1 D k).toInt = e k) (h1 : ∀ k, k < 8 → (τ.1 (D + 1) k).toInt = e (7 + k)) (h2 : ∀ k, k < 8 → (τ.1 (D + 2) k).toInt = e (15 + k)) (h9 : (τ.1 D 9).toInt = e 23) (h3 : ∀ k, k < 90 → (τ.1 (D + 3) k).toInt = e (24 + k)) : x_cd D τ e := by
  intro k hk
  unfold x_dg
  split
  · exact h0 k (by omega)
  · split
    · have := h1 (k - 7) (by omega); rw [show 7 + (k - 7) = k by omega] at this; exact this
    · split
      · have := h2 (k - 15) (by omega); rw [show 15 + (k - 15) = k by omega] at this; exact this
      · split
        · rename_i q; rw [q]; exact h9
        · have := h3 (k - 24) (by omega); rw [show 24 + (k - 24) = k by omega] at this; exact this
theorem cd_fr {D : Nat} {τ σ : x_T} {e : Nat → Int} (h : x_cd D τ e) (h0 : σ.1 D = τ.1 D) (h1 : σ.1 (D + 1) = τ.1 (D + 1)) (h2 : σ.1 (D + 2) = τ.1 (D + 2)) (h3 : σ.1 (D + 3) = τ.1 (D + 3)) : x_cd D σ e := by
  intro k hk
  rw [← h k hk]
  unfold x_dg
  rw [h0, h1, h2, h3]
theorem cd_w0 {D : Nat} {τ : x_T} {e : Nat → Int} (h : x_cd D τ e) {k : Nat} (hk : k < 7) {v : Int32} {z : Int} (hv : v.toInt = z) : x_cd D (x_w1 τ D k v) (z_set e k z) := by
  intro j hj
  have := h j hj
  unfold x_dg at this ⊢
  simp only [w1_at, z_set]
  grind
theorem cd_w9 {D : Nat} {τ : x_T} {e : Nat → Int} (h : x_cd D τ e) {v : Int32} {z : Int} (hv : v.toInt = z) : x_cd D (x_w1 τ D 9 v) (z_set e 23 z) := by
  intro j hj
  have := h j hj
  unfold x_dg at this ⊢
  simp only [w1_at, z_set]
  grind
theorem cd_w1 {D : Nat} {τ : x_T} {e : Nat → Int} (h : x_cd D τ e) {k : Nat} (hk : k < 8) {v : Int32} {z : Int} (hv : v.toInt = z) : x_cd D (x_w1 τ (D + 1) k v) (z_set e (7 + k) z) := by
  intro j hj
  have := h j hj
  unfold x_dg at this ⊢
  simp only [w1_at, z_set]
  grind
theorem cd_w2 {D : Nat} {τ : x_T} {e : Nat → Int} (h : x_cd D τ e) {k : Nat} (hk : k < 8) {v : Int32} {z : Int} (hv : v.toInt = z) : x_cd D (x_w1 τ (D + 2) k v) (z_set e (15 + k) z) := by
  intro j hj
  have := h j hj
  unfold x_dg at this ⊢
  simp only [w1_at, z_set]
  grind
theorem cd_w3 {D : Nat} {τ : x_T} {e : Nat → Int} (h : x_cd D τ e) {k : Nat} (hk : k < 90) {v : Int32} {z : Int} (hv : v.toInt = z) : x_cd D (x_w1 τ (D + 3) k v) (z_set e (24 + k) z) := by
  intro j hj
  have := h j hj
  unfold x_dg at this ⊢
  simp only [w1_at, z_set]
  grind
theorem md_w {τ : x_T} {e : Nat → Int} (h : x_md τ e) {k : Nat} {v : Int32} {z : Int} (hv : v.toInt = z) : x_md (x_w1 τ 370 k v) (z_set e k z) := by
  intro j hj
  rw [w1_at, z_set]
  by_cases q : j = k
  · rw [if_pos ⟨rfl, q⟩, if_pos q, hv]
  · rw [if_neg (fun z => q z.2), if_neg q, h j hj]
theorem md_fr {τ σ : x_T} {e : Nat → Int} (h : x_md τ e) (h0 : σ.1 370 = τ.1 370) : x_md σ e := by
  intro k hk
  rw [h0]
  exact h k hk
