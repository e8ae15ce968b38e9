/-! least pushing, in numbers -/
def y_rx (c : Nat → Nat → Int) (R : Nat → Int) (i j : Nat) : Nat → Int := fun x => if x = i then min (R i) (c i j + R j) else R x
def y_ri (c : Nat → Nat → Int) (R : Nat → Int) (i : Nat) : Nat → Nat → Int
  | 0 => R
  | k + 1 => y_rx c (y_ri c R i k) i k
def y_rr (c : Nat → Nat → Int) (R : Nat → Int) : Nat → Nat → Int
  | 0 => R
  | k + 1 => y_ri c (y_rr c R k) k 8
def y_rt (c : Nat → Nat → Int) (R : Nat → Int) : Nat → Nat → Int
  | 0 => R
  | t + 1 => y_rr c (y_rt c R t) 8
def y_r0 (h x : Nat) : Int := if x = h then 0 else 1000000
theorem rx_i (c : Nat → Nat → Int) (R : Nat → Int) (i j : Nat) : y_rx c R i j i = min (R i) (c i j + R j) := if_pos rfl
theorem rx_n {c : Nat → Nat → Int} {R : Nat → Int} {i j x : Nat} (h : ¬ x = i) : y_rx c R i j x = R x := if_neg h
theorem ri_P {c : Nat → Nat → Int} {P : (Nat → Int) → Prop} (hp : ∀ Q i j, i < 8 → j < 8 → P Q → P (y_rx c Q i j)) {R : Nat → Int} {i : Nat} (hi : i < 8) (h : P R) : ∀ k, k ≤ 8 → P (y_ri c R i k) := by
  intro k
  induction k with
  | zero => intro _; exact h
  | succ k ih => intro hk; exact hp _ i k hi (by omega) (ih (by omega))
theorem rr_P {c : Nat → Nat → Int} {P : (Nat → Int) → Prop} (hp : ∀ Q i j, i < 8 → j < 8 → P Q → P (y_rx c Q i j)) {R : Nat → Int} (h : P R) : ∀ k, k ≤ 8 → P (y_rr c R k) := by
  intro k
  induction k with
  | zero => intro _; exact h
  | succ k ih => intro hk; exact ri_P hp (by omega) (ih (by omega)) 8 (by omega)
theorem rt_P {c : Nat → Nat → Int} {P : (Nat → Int) → Prop} (hp : ∀ Q i j, i < 8 → j < 8 → P Q → P (y_rx c Q i j)) {R : Nat → Int} (h : P R) : ∀ t, P (y_rt c R t) := by
  intro t
  induction t with
  | zero => exact h
  | succ t ih => exact rr_P hp ih 8 (by omega)
/-- what is settled: the houses of S, none of whose numbers falls any more -/
def y_st (c : Nat → Nat → Int) (S : Nat → Bool) (M : Int) (R : Nat → Int) : Prop := (∀ i, i < 8 → S i = true → R i ≤ M) ∧ (∀ i, i < 8 → S i = false → M ≤ R i) ∧ (∀ i, i < 8 → S i = true → ∀ j, j < 8 → R i ≤ c i j + R j) ∧ (∀ i, i < 8 → S i = false → ∀ j, j < 8 → S j = true → M ≤ c i j + R j)
theorem st_rx {c : Nat → Nat → Int} (hc : ∀ i j, 1 ≤ c i j) {S : Nat → Bool} {M : Int} {Q : Nat → Int} {i j : Nat} (hi : i < 8) (hj : j < 8) (h : y_st c S M Q) : y_st c S M (y_rx c Q i j) ∧ ∀ x, x < 8 → S x = true → y_rx c Q i j x = Q x := by
  obtain ⟨a, b, g, d⟩ := h
  have c1 := hc i j
  cases hS : S i
  · have keep : ∀ x, x < 8 → S x = true → y_rx c Q i j x = Q x := fun x hx hs => rx_n (fun z => by rw [z, hS] at hs; exact absurd hs (by decide))
    have low : M ≤ y_rx c Q i j i := by
      rw [rx_i]
      have b1 := b i hi hS
      cases hj2 : S j
      · have := b j hj hj2; omega
      · have := d i hi hS j hj hj2; omega
    refine ⟨⟨fun x hx hs => by rw [keep x hx hs]; exact a x hx hs, fun x hx hs => ?_, fun x hx hs y hy => ?_, fun x hx hs y hy hs2 => by rw [keep y hy hs2]; exact d x hx hs y hy hs2⟩, keep⟩
    · by_cases q : x = i
      · rw [q]; exact low
      · rw [rx_n q]; exact b x hx hs
    · rw [keep x hx hs]
      by_cases q : y = i
      · rw [q]
        have := a x hx hs
        have := hc x i
        omega
      · rw [rx_n q]; exact g x hx hs y hy
  · have same : y_rx c Q i j = Q := by
      funext x
      by_cases q : x = i
      · rw [q, rx_i]
        have := g i hi hS j hj
        omega
      · rw [rx_n q]
    rw [same]
    exact ⟨⟨a, b, g, d⟩, fun _ _ _ => rfl⟩
theorem ri_n {c : Nat → Nat → Int} {R : Nat → Int} {i x : Nat} (h : ¬ x = i) : ∀ k, y_ri c R i k x = R x := by
  intro k
  induction k with
  | zero => rfl
  | succ k ih => rw [y_ri, rx_n h, ih]
theorem ri_e {c : Nat → Nat → Int} {R : Nat → Int} {i : Nat} {S : Nat → Bool} (hk : ∀ k, k ≤ 8 → ∀ x, x < 8 → S x = true → y_ri c R i k x = R x) : ∀ k, k ≤ 8 → ∀ j, j < k → S j = true → y_ri c R i k i ≤ c i j + R j := by
  intro k
  induction k with
  | zero => intro _ j hj; omega
  | succ k ih =>
    intro hk8 j hj hs
    rw [y_ri, rx_i]
    by_cases q : j = k
    · have := hk k (by omega) j (by omega) hs
      rw [q] at this ⊢
      omega
    · have := ih (by omega) j (by omega) hs
      omega
theorem rr_e {c : Nat → Nat → Int} (hc : ∀ i j, 1 ≤ c i j) {R : Nat → Int} {S : Nat → Bool} {M : Int} (h : y_st c S M R) : ∀ k, k ≤ 8 → ∀ i, i < k → ∀ j, j < 8 → S j = true → y_rr c R k i ≤ c i j + R j := by
  have hP : ∀ Q i j, i < 8 → j < 8 → (y_st c S M Q ∧ ∀ x, x < 8 → S x = true → Q x = R x) → (y_st c S M (y_rx c Q i j) ∧ ∀ x, x < 8 → S x = true → y_rx c Q i j x = R x) := by
    intro Q i j hi hj ⟨h1, h2⟩
    obtain ⟨g1, g2⟩ := st_rx hc hi hj h1
    exact ⟨g1, fun x hx hs => (g2 x hx hs).trans (h2 x hx hs)⟩
  intro k
  induction k with
  | zero => intro _ i hi; omega
  | succ k ih =>
    intro hk i hi j hj hs
    have base := rr_P (P := fun Q => y_st c S M Q ∧ ∀ x, x < 8 → S x = true → Q x = R x) hP ⟨h, fun _ _ _ => rfl⟩ k (by omega)
    rw [y_rr]
    by_cases q : i = k
    · rw [q]
      have := ri_e (c := c) (R := y_rr c R k) (i := k) (S := S) (fun m hm x hx hsx => by
        have := (ri_P (P := fun Q => y_st c S M Q ∧ ∀ x, x < 8 → S x = true → Q x = R x) hP (i := k) (by omega) base m hm).2 x hx hsx
        rw [this, base.2 x hx hsx]) 8 (by omega) j hj hs
      rw [base.2 j hj hs] at this
      exact this
    · rw [ri_n q]
      exact ih (by omega) i (by omega) j hj hs
theorem argmin {S : Nat → Bool} {R : Nat → Int} : ∀ n, (∃ x, x < n ∧ S x = false) → ∃ m, m < n ∧ S m = false ∧ ∀ i, i < n → S i = false → R m ≤ R i := by
  intro n
  induction n with
  | zero => rintro ⟨x, hx, _⟩; omega
  | succ n ih =>
    rintro ⟨x, hx, hs⟩
    by_cases ex : ∃ x, x < n ∧ S x = false
    · obtain ⟨m, h1, h2, h3⟩ := ih ex
      cases hn : S n
      · by_cases q : R m ≤ R n
        · refine ⟨m, by omega, h2, fun i hi hsi => ?_⟩
          by_cases r : i = n
          · rw [r]; exact q
          · exact h3 i (by omega) hsi
        · refine ⟨n, by omega, hn, fun i hi hsi => ?_⟩
          by_cases r : i = n
          · rw [r]; exact Int.le_refl _
          · have := h3 i (by omega) hsi; omega
      · refine ⟨m, by omega, h2, fun i hi hsi => ?_⟩
        by_cases r : i = n
        · rw [r, hn] at hsi; exact absurd hsi (by decide)
        · exact h3 i (by omega) hsi
    · have e : x = n := by
        rcases Nat.lt_or_ge x n with r | r
        · exact absurd ⟨x, r, hs⟩ ex
        · omega
      refine ⟨n, by omega, by rw [← e]; exact hs, fun i hi hsi => ?_⟩
      rcases Nat.lt_or_ge i n with r | r
      · exact absurd ⟨i, r, hsi⟩ ex
      · have : i = n := by omega
        rw [this]; exact Int.le_refl _
theorem ct_upd {S : Nat → Bool} {m : Nat} (hs : S m = false) : ∀ n, m < n → y_ct (fun x => if x = m then true else S x) n = y_ct S n + 1 := by
  intro n
  induction n with
  | zero => intro h; omega
  | succ n ih =>
    intro hm
    rw [y_ct, y_ct]
    by_cases q : m = n
    · have e : y_ct (fun x => if x = m then true else S x) n = y_ct S n := ct_cg n (fun j hj => if_neg (by omega))
      rw [e, q, if_pos rfl, if_pos rfl]
      rw [q] at hs
      rw [hs]
      simp
    · rw [ih (by omega), if_neg (show ¬ n = m by omega)]
      omega
theorem ct_full {S : Nat → Bool} : ∀ n, n ≤ y_ct S n → ∀ x, x < n → S x = true := by
  intro n
  induction n with
  | zero => intro _ x hx; omega
  | succ n ih =>
    intro h x hx
    have hl := ct_le S n
    rw [y_ct] at h
    cases hS : S n
    · rw [hS] at h; simp at h; omega
    · by_cases q : x = n
      · rw [q]; exact hS
      · rw [hS] at h
        simp at h
        exact ih h x (by omega)
theorem st_up {c : Nat → Nat → Int} (hc : ∀ i j, 1 ≤ c i j) {R : Nat → Int} {S : Nat → Bool} {M : Int} (h : y_st c S M R) (he : ∀ i, i < 8 → ∀ j, j < 8 → S j = true → R i ≤ c i j + R j) (ex : ∃ x, x < 8 ∧ S x = false) : ∃ S' M', y_st c S' M' R ∧ y_ct S' 8 = y_ct S 8 + 1 := by
  obtain ⟨m, hm, hs, hmin⟩ := argmin (R := R) 8 ex
  obtain ⟨a, b, g, d⟩ := h
  have bm := b m hm hs
  refine ⟨fun x => if x = m then true else S x, R m, ⟨fun i hi h1 => ?_, fun i hi h1 => ?_, fun i hi h1 j hj => ?_, fun i hi h1 j hj h2 => ?_⟩, ct_upd hs 8 hm⟩
  · by_cases q : i = m
    · rw [q]; exact Int.le_refl _
    · simp only [q, if_false] at h1
      have := a i hi h1; omega
  · by_cases q : i = m
    · simp [q] at h1
    · simp only [q, if_false] at h1
      exact hmin i hi h1
  · have := hc i j
    by_cases q : i = m
    · rw [q] at this ⊢
      cases hj2 : S j
      · have := hmin j hj hj2; omega
      · exact he m hm j hj hj2
    · simp only [q, if_false] at h1
      exact g i hi h1 j hj
  · have := hc i j
    by_cases q : i = m
    · simp [q] at h1
    · simp only [q, if_false] at h1
      by_cases r : j = m
      · rw [r] at this ⊢; omega
      · simp only [r, if_false] at h2
        have h3 := he i hi j hj h2
        have h4 := hmin i hi h1
        omega
theorem rt_st {c : Nat → Nat → Int} (hc : ∀ i j, 1 ≤ c i j) {h : Nat} (hh : h < 8) : ∀ t, ∃ S M, y_st c S M (y_rt c (y_r0 h) t) ∧ (t + 1 ≤ y_ct S 8 ∨ ∀ x, x < 8 → S x = true) := by
  have hP : ∀ (S : Nat → Bool) (M : Int), ∀ Q i j, i < 8 → j < 8 → y_st c S M Q → y_st c S M (y_rx c Q i j) := fun S M Q i j hi hj h1 => (st_rx hc hi hj h1).1
  intro t
  induction t with
  | zero =>
    refine ⟨fun x => if x = h then true else false, 0, ⟨fun i hi h1 => ?_, fun i hi h1 => ?_, fun i hi h1 j hj => ?_, fun i hi h1 j hj h2 => ?_⟩, Or.inl ?_⟩
    · by_cases q : i = h
      · rw [q, y_rt, y_r0, if_pos rfl]; exact Int.le_refl _
      · simp [q] at h1
    · rw [y_rt, y_r0]; split <;> omega
    · have := hc i j
      by_cases q : i = h
      · rw [q] at this ⊢
        show y_r0 h h ≤ c h j + y_r0 h j
        unfold y_r0
        rw [if_pos rfl]
        split <;> omega
      · simp [q] at h1
    · have := hc i j
      simp only [y_rt, y_r0]
      split <;> omega
    · have e := ct_upd (S := fun _ => false) (m := h) rfl 8 hh
      show 0 + 1 ≤ y_ct (fun x => if x = h then true else (fun _ => false) x) 8
      rw [e]
      omega
  | succ t ih =>
    obtain ⟨S, M, h1, h2⟩ := ih
    have h1' : y_st c S M (y_rt c (y_r0 h) (t + 1)) := rr_P (hP S M) h1 8 (by omega)
    by_cases ex : ∃ x, x < 8 ∧ S x = false
    · have keep := rr_P (P := fun Q => y_st c S M Q ∧ ∀ x, x < 8 → S x = true → Q x = y_rt c (y_r0 h) t x) (fun Q i j hi hj ⟨g1, g2⟩ => by
        obtain ⟨p1, p2⟩ := st_rx hc hi hj g1
        exact ⟨p1, fun x hx hs => (p2 x hx hs).trans (g2 x hx hs)⟩) ⟨h1, fun _ _ _ => rfl⟩ 8 (by omega)
      have he : ∀ i, i < 8 → ∀ j, j < 8 → S j = true → y_rt c (y_r0 h) (t + 1) i ≤ c i j + y_rt c (y_r0 h) (t + 1) j := by
        intro i hi j hj hs
        have e1 := rr_e hc h1 8 (by omega) i hi j hj hs
        have e2 := keep.2 j hj hs
        rw [y_rt]
        rw [e2]
        exact e1
      obtain ⟨S', M', g1, g2⟩ := st_up hc h1' he ex
      refine ⟨S', M', g1, Or.inl ?_⟩
      rcases h2 with q | q
      · omega
      · obtain ⟨x, hx, hs⟩ := ex
        rw [q x hx] at hs
        exact absurd hs (by decide)
    · refine ⟨S, M, h1', Or.inr (fun x hx => ?_)⟩
      cases hs : S x
      · exact absurd ⟨x, hx, hs⟩ ex
      · rfl
theorem rt_fix {c : Nat → Nat → Int} (hc : ∀ i j, 1 ≤ c i j) {h : Nat} (hh : h < 8) : ∀ i, i < 8 → ∀ j, j < 8 → y_rt c (y_r0 h) 8 i ≤ c i j + y_rt c (y_r0 h) 8 j := by
  obtain ⟨S, M, h1, h2⟩ := rt_st hc hh 8
  have all : ∀ x, x < 8 → S x = true := by
    rcases h2 with q | q
    · exact ct_full 8 (by omega)
    · exact q
  exact fun i hi => h1.2.2.1 i hi (all i hi)
theorem rt_b {c : Nat → Nat → Int} (hc : ∀ i j, 1 ≤ c i j) {h : Nat} : ∀ t x, 0 ≤ y_rt c (y_r0 h) t x ∧ y_rt c (y_r0 h) t x ≤ y_r0 h x := by
  intro t
  refine rt_P (P := fun Q => ∀ x, 0 ≤ Q x ∧ Q x ≤ y_r0 h x) (fun Q i j hi hj hQ x => ?_) (fun x => ?_) t
  · have h1 := hQ i
    have h2 := hQ j
    have h3 := hc i j
    by_cases q : x = i
    · rw [q, rx_i]; omega
    · rw [rx_n q]; exact hQ x
  · unfold y_r0; split <;> omega
theorem rt_w {c : Nat → Nat → Int} (hc : ∀ i j, 1 ≤ c i j) {h : Nat} : ∀ t i, i < 8 → ¬ i = h → y_rt c (y_r0 h) t i = 1000000 ∨ ∃ j, j < 8 ∧ ¬ j = i ∧ c i j + y_rt c (y_r0 h) t j ≤ y_rt c (y_r0 h) t i := by
  intro t
  refine rt_P (P := fun Q => ∀ i, i < 8 → ¬ i = h → Q i = 1000000 ∨ ∃ j, j < 8 ∧ ¬ j = i ∧ c i j + Q j ≤ Q i) (fun Q i j hi hj hQ x hx hxh => ?_) (fun i hi hne => Or.inl (if_neg hne)) t
  have mono : ∀ y, y_rx c Q i j y ≤ Q y := by
    intro y
    by_cases q : y = i
    · rw [q, rx_i]; omega
    · rw [rx_n q]; exact Int.le_refl _
  by_cases q : x = i
  · by_cases r : c i j + Q j < Q i
    · right
      have ji : ¬ j = i := fun z => by rw [z] at r; have := hc i i; omega
      refine ⟨j, hj, by rw [q]; exact ji, ?_⟩
      rw [q, rx_i, rx_n ji]
      omega
    · have e : y_rx c Q i j x = Q x := by rw [q, rx_i]; omega
      rw [e]
      rcases hQ x hx hxh with z | ⟨k, k1, k2, k3⟩
      · exact Or.inl z
      · right
        have := mono k
        exact ⟨k, k1, k2, by omega⟩
  · rw [rx_n q]
    rcases hQ x hx hxh with z | ⟨k, k1, k2, k3⟩
    · exact Or.inl z
    · right
      have := mono k
      exact ⟨k, k1, k2, by omega⟩
/-- each number that is not too much is small -/
def y_fb (R : Nat → Int) (b : Int) : Prop := ∀ x, x < 8 → R x = 1000000 ∨ (0 ≤ R x ∧ R x ≤ b)
theorem ri_fb {c : Nat → Nat → Int} (hc : ∀ i j, c i j = 1000000 ∨ (1 ≤ c i j ∧ c i j ≤ 999)) (hd : ∀ i, c i i = 1000000) {R : Nat → Int} {b : Int} (hb : 0 ≤ b) (h : y_fb R b) {i : Nat} (hi : i < 8) : ∀ k, k ≤ 8 → y_ri c R i k i = 1000000 ∨ (0 ≤ y_ri c R i k i ∧ y_ri c R i k i ≤ b + 999) := by
  intro k
  induction k with
  | zero =>
    intro _
    rcases h i hi with q | q
    · exact Or.inl q
    · exact Or.inr ⟨q.1, by have := q.2; show R i ≤ _; omega⟩
  | succ k ih =>
    intro hk
    have h1 := ih (by omega)
    rw [y_ri, rx_i]
    by_cases q : k = i
    · rw [q] at h1 ⊢
      have := hd i
      omega
    · have e : y_ri c R i k k = R k := ri_n q k
      have h2 := h k (by omega)
      have h3 := hc i k
      rw [e]
      omega
theorem rr_fb {c : Nat → Nat → Int} (hc : ∀ i j, c i j = 1000000 ∨ (1 ≤ c i j ∧ c i j ≤ 999)) (hd : ∀ i, c i i = 1000000) {R : Nat → Int} {b : Int} (hb : 0 ≤ b) (h : y_fb R b) : ∀ k : Nat, k ≤ 8 → y_fb (y_rr c R k) (b + 999 * k) := by
  intro k
  induction k with
  | zero => intro _ x hx; have := h x hx; rw [y_rr]; omega
  | succ k ih =>
    intro hk x hx
    have h1 := ih (by omega)
    rw [y_rr]
    by_cases q : x = k
    · rw [q]
      have := ri_fb hc hd (by omega) h1 (i := k) (by omega) 8 (by omega)
      omega
    · rw [ri_n q]
      have := h1 x hx
      omega
theorem rt_fb {c : Nat → Nat → Int} (hc : ∀ i j, c i j = 1000000 ∨ (1 ≤ c i j ∧ c i j ≤ 999)) (hd : ∀ i, c i i = 1000000) (h : Nat) : ∀ t : Nat, y_fb (y_rt c (y_r0 h) t) (7992 * t) := by
  intro t
  induction t with
  | zero => intro x hx; rw [y_rt, y_r0]; split <;> omega
  | succ t ih =>
    intro x hx
    have := rr_fb hc hd (by omega) ih 8 (by omega) x hx
    rw [y_rt]
    omega
/-! the way -/
theorem first_s {P : Nat → Bool} : ∀ f k, (∃ j, k ≤ j ∧ j < k + f ∧ P j = true) → ∃ n, k ≤ n ∧ n < k + f ∧ P n = true ∧ (∀ j, k ≤ j → j < n → P j = false) ∧ z_first P f k = n := by
  intro f
  induction f with
  | zero => rintro k ⟨j, h1, h2, _⟩; omega
  | succ f ih =>
    rintro k ⟨j, h1, h2, h3⟩
    by_cases q : P k = true
    · exact ⟨k, by omega, by omega, q, fun i hi hi2 => by omega, by rw [z_first, if_pos q]⟩
    · obtain ⟨n, n1, n2, n3, n4, n5⟩ := ih (k + 1) ⟨j, by
        rcases Nat.lt_or_ge k j with r | r
        · exact r
        · have : j = k := by omega
          rw [this] at h3; exact absurd h3 q, by omega, h3⟩
      refine ⟨n, by omega, by omega, n3, fun i hi hi2 => ?_, by rw [z_first, if_neg q]; exact n5⟩
      by_cases r : i = k
      · rw [r]; exact Bool.not_eq_true _ ▸ q
      · exact n4 i (by omega) hi2
def y_nx (c : Nat → Nat → Int) (R : Nat → Int) (i : Nat) : Nat := (z_first (fun j => decide (c i j + R j = R i)) 8 0).toNat
def y_pt (c : Nat → Nat → Int) (R : Nat → Int) (s : Nat) : Nat → Nat
  | 0 => s
  | k + 1 => y_nx c R (y_pt c R s k)
theorem pt_sh (c : Nat → Nat → Int) (R : Nat → Int) (s : Nat) : ∀ k, y_pt c R s (k + 1) = y_pt c R (y_nx c R s) k := by
  intro k
  induction k with
  | zero => rfl
  | succ k ih => rw [y_pt, ih]; rfl
theorem nx_s {c : Nat → Nat → Int} {R : Nat → Int} {i : Nat} (h : ∃ j, j < 8 ∧ c i j + R j = R i) : y_nx c R i < 8 ∧ c i (y_nx c R i) + R (y_nx c R i) = R i ∧ ∀ j, j < y_nx c R i → ¬ c i j + R j = R i := by
  obtain ⟨j, h1, h2⟩ := h
  obtain ⟨n, n1, n2, n3, n4, n5⟩ := first_s (P := fun j => decide (c i j + R j = R i)) 8 0 ⟨j, by omega, by omega, decide_eq_true h2⟩
  have e : y_nx c R i = n := by unfold y_nx; rw [n5]; rfl
  rw [e]
  exact ⟨by omega, of_decide_eq_true n3, fun j hj => of_decide_eq_false (n4 j (by omega) hj)⟩
theorem ct_lt {Q Q' : Nat → Bool} (hq : ∀ j, Q j = true → Q' j = true) {j0 : Nat} (h0 : Q j0 = false) (h1 : Q' j0 = true) : ∀ n, (y_ct Q n ≤ y_ct Q' n) ∧ (j0 < n → y_ct Q n < y_ct Q' n) := by
  intro n
  induction n with
  | zero => exact ⟨Nat.le_refl _, fun h => by omega⟩
  | succ n ih =>
    rw [y_ct, y_ct]
    have step : (if Q n = true then 1 else 0) ≤ (if Q' n = true then 1 else 0) := by
      by_cases q : Q n = true
      · rw [if_pos q, if_pos (hq n q)]; exact Nat.le_refl _
      · rw [if_neg q]; exact Nat.zero_le _
    refine ⟨by omega, fun hj => ?_⟩
    by_cases r : j0 = n
    · rw [r] at h0 h1
      rw [h0, h1]
      have := ih.1
      simp
      omega
    · have := ih.2 (by omega)
      omega
theorem pt_ex {c : Nat → Nat → Int} {R : Nat → Int} {h : Nat} (hc : ∀ i j, 1 ≤ c i j) (hR : ∀ j, 0 ≤ R j) (hw : ∀ i, i < 8 → ¬ i = h → R i < 1000000 → ∃ j, j < 8 ∧ c i j + R j = R i) : ∀ r s, s < 8 → R s < 1000000 → y_ct (fun j => decide (R j < R s)) 8 ≤ r → ∃ n, n ≤ r ∧ y_pt c R s n = h ∧ ∀ k, k < n → ¬ y_pt c R s k = h ∧ y_pt c R s k < 8 ∧ R (y_pt c R s k) < 1000000 := by
  intro r
  induction r with
  | zero =>
    intro s hs hf hr
    by_cases q : s = h
    · exact ⟨0, Nat.le_refl _, q, fun k hk => by omega⟩
    · exfalso
      obtain ⟨n1, n2, n3⟩ := nx_s (hw s hs q hf)
      have c1 := hc s (y_nx c R s)
      have := (ct_lt (Q := fun _ => false) (Q' := fun j => decide (R j < R s)) (fun j z => absurd z (by decide)) (j0 := y_nx c R s) rfl (decide_eq_true (by omega)) 8).2 n1
      omega
  | succ r ih =>
    intro s hs hf hr
    by_cases q : s = h
    · exact ⟨0, by omega, q, fun k hk => by omega⟩
    · obtain ⟨n1, n2, n3⟩ := nx_s (hw s hs q hf)
      have c1 := hc s (y_nx c R s)
      have lt := (ct_lt (Q := fun j => decide (R j < R (y_nx c R s))) (Q' := fun j => decide (R j < R s)) (fun j z => by
        have := of_decide_eq_true z
        exact decide_eq_true (by omega)) (j0 := y_nx c R s) (decide_eq_false (by omega)) (decide_eq_true (by omega)) 8).2 n1
      obtain ⟨n, g1, g2, g3⟩ := ih (y_nx c R s) n1 (by omega) (by omega)
      refine ⟨n + 1, by omega, by rw [pt_sh]; exact g2, fun k hk => ?_⟩
      cases k with
      | zero => exact ⟨q, hs, hf⟩
      | succ k => rw [pt_sh]; exact g3 k (by omega)
theorem rank_7 (R : Nat → Int) {s : Nat} (hs : s < 8) : y_ct (fun j => decide (R j < R s)) 8 ≤ 7 := by
  have := (ct_lt (Q := fun j => decide (R j < R s)) (Q' := fun _ => true) (fun _ _ => rfl) (j0 := s) (decide_eq_false (by omega)) rfl 8).2 hs
  have h8 : y_ct (fun _ => true) 8 = 8 := by decide
  omega
