/-! routes, in numbers -/
def y_df (W : Nat → Nat → Bool) (M h : Nat) : Nat → Nat → Nat
  | 0, q => q
  | f + 1, q => if q < M ∧ W h q = true then y_df W M h f (q + 1) else q
def y_dn (W : Nat → Nat → Bool) (M h q : Nat) : Nat := y_df W M h (8 - q) q
theorem df_b (W : Nat → Nat → Bool) (M h : Nat) : ∀ f q, q ≤ y_df W M h f q ∧ y_df W M h f q ≤ q + f ∧ (q ≤ M → y_df W M h f q ≤ M) := by
  intro f
  induction f with
  | zero => intro q; exact ⟨Nat.le_refl _, Nat.le_refl _, fun z => z⟩
  | succ f ih =>
    intro q
    rw [y_df]
    split
    · have := ih (q + 1); omega
    · omega
theorem dn_b {W : Nat → Nat → Bool} {M h q : Nat} (hq : q ≤ 8) : q ≤ y_dn W M h q ∧ y_dn W M h q ≤ 8 ∧ (q ≤ M → y_dn W M h q ≤ M) := by
  have := df_b W M h (8 - q) q
  unfold y_dn
  omega
theorem dn_go {W : Nat → Nat → Bool} {M h q : Nat} (hM : M ≤ 8) (hq : q < M) (hw : W h q = true) : y_dn W M h q = y_dn W M h (q + 1) := by
  unfold y_dn
  rw [show 8 - q = (8 - (q + 1)) + 1 by omega, y_df, if_pos ⟨hq, hw⟩]
theorem dn_no {W : Nat → Nat → Bool} {M h q : Nat} (hw : ¬ (q < M ∧ W h q = true)) : y_dn W M h q = q := by
  unfold y_dn
  cases 8 - q with
  | zero => rfl
  | succ f => rw [y_df, if_neg hw]
/-- the model's numbers of lanes: one made lower -/
def y_nk (dn : Nat → Nat → Nat) (k t : Nat) : Nat := 9 * t + dn t (k % 9)
def y_yx (ln : Nat → Nat → Bool) (dn : Nat → Nat → Nat) (Y : Nat → Int) (k t : Nat) : Nat → Int := if ln (k / 9) t = true then (fun x => if x = k then min (Y k) (1 + Y (y_nk dn k t)) else Y x) else Y
def y_yi (ln : Nat → Nat → Bool) (dn : Nat → Nat → Nat) (Y : Nat → Int) (k : Nat) : Nat → Nat → Int
  | 0 => Y
  | t + 1 => y_yx ln dn (y_yi ln dn Y k t) k t
def y_yo (ln : Nat → Nat → Bool) (dn : Nat → Nat → Nat) (N : Nat) (Y : Nat → Int) : Nat → Nat → Int
  | 0 => Y
  | k + 1 => y_yi ln dn (y_yo ln dn N Y k) k N
def y_yr (ln : Nat → Nat → Bool) (dn : Nat → Nat → Nat) (N : Nat) (Y : Nat → Int) : Nat → Nat → Int
  | 0 => Y
  | n + 1 => y_yo ln dn N (y_yr ln dn N Y n) (9 * N)
def y_y0 (M k : Nat) : Int := if k % 9 = M then 0 else 999
section YY
variable {ln : Nat → Nat → Bool} {dn : Nat → Nat → Nat} {N : Nat}
theorem yx_k {Y : Nat → Int} {k t : Nat} (h : ln (k / 9) t = true) : y_yx ln dn Y k t k = min (Y k) (1 + Y (y_nk dn k t)) := by
  unfold y_yx; rw [if_pos h, if_pos rfl]
theorem yx_n {Y : Nat → Int} {k t x : Nat} (h : ¬ x = k) : y_yx ln dn Y k t x = Y x := by
  unfold y_yx; split
  · exact if_neg h
  · rfl
theorem yx_0 {Y : Nat → Int} {k t : Nat} (h : ¬ ln (k / 9) t = true) : y_yx ln dn Y k t = Y := by
  unfold y_yx; rw [if_neg h]
theorem yx_le (Y : Nat → Int) (k t x : Nat) : y_yx ln dn Y k t x ≤ Y x := by
  by_cases q : x = k
  · rw [q]
    by_cases r : ln (k / 9) t = true
    · rw [yx_k r]; omega
    · rw [yx_0 r]; exact Int.le_refl _
  · rw [yx_n q]; exact Int.le_refl _
theorem yi_P {P : (Nat → Int) → Prop} (hp : ∀ Q k t, k < 9 * N → t < N → ln (k / 9) t = true → P Q → P (y_yx ln dn Q k t)) {Y : Nat → Int} {k : Nat} (hk : k < 9 * N) (h : P Y) : ∀ t, t ≤ N → P (y_yi ln dn Y k t) := by
  intro t
  induction t with
  | zero => intro _; exact h
  | succ t ih =>
    intro ht
    rw [y_yi]
    by_cases r : ln (k / 9) t = true
    · exact hp _ k t hk (by omega) r (ih (by omega))
    · rw [yx_0 r]; exact ih (by omega)
theorem yo_P {P : (Nat → Int) → Prop} (hp : ∀ Q k t, k < 9 * N → t < N → ln (k / 9) t = true → P Q → P (y_yx ln dn Q k t)) {Y : Nat → Int} (h : P Y) : ∀ k, k ≤ 9 * N → P (y_yo ln dn N Y k) := by
  intro k
  induction k with
  | zero => intro _; exact h
  | succ k ih => intro hk; exact yi_P hp (by omega) (ih (by omega)) N (Nat.le_refl _)
theorem yr_P {P : (Nat → Int) → Prop} (hp : ∀ Q k t, k < 9 * N → t < N → ln (k / 9) t = true → P Q → P (y_yx ln dn Q k t)) {Y : Nat → Int} (h : P Y) : ∀ n, P (y_yr ln dn N Y n) := by
  intro n
  induction n with
  | zero => exact h
  | succ n ih => exact yo_P hp ih _ (Nat.le_refl _)
theorem yi_le {Y : Nat → Int} {k : Nat} (hk : k < 9 * N) : ∀ t, t ≤ N → ∀ x, y_yi ln dn Y k t x ≤ Y x :=
  yi_P (P := fun Q => ∀ x, Q x ≤ Y x) (fun Q k t _ _ _ hQ x => Int.le_trans (yx_le Q k t x) (hQ x)) hk (fun x => Int.le_refl _)
theorem yo_le {Y : Nat → Int} : ∀ k, k ≤ 9 * N → ∀ x, y_yo ln dn N Y k x ≤ Y x :=
  yo_P (P := fun Q => ∀ x, Q x ≤ Y x) (fun Q k t _ _ _ hQ x => Int.le_trans (yx_le Q k t x) (hQ x)) (fun x => Int.le_refl _)
theorem yi_n {Y : Nat → Int} {k x : Nat} (h : ¬ x = k) : ∀ t, y_yi ln dn Y k t x = Y x := by
  intro t
  induction t with
  | zero => rfl
  | succ t ih => rw [y_yi, yx_n h, ih]
theorem yo_n {Y : Nat → Int} {x : Nat} : ∀ k, k ≤ x → y_yo ln dn N Y k x = Y x := by
  intro k
  induction k with
  | zero => intro _; rfl
  | succ k ih => intro h; rw [y_yo, yi_n (by omega), ih (by omega)]
theorem yi_e {Y : Nat → Int} {k : Nat} (hk : k < 9 * N) : ∀ t, t ≤ N → ∀ t', t' < t → ln (k / 9) t' = true → y_yi ln dn Y k t k ≤ 1 + Y (y_nk dn k t') := by
  intro t
  induction t with
  | zero => intro _ t' h; omega
  | succ t ih =>
    intro ht t' h hl
    rw [y_yi]
    by_cases q : t' = t
    · rw [q] at hl ⊢
      rw [yx_k hl]
      have := yi_le (ln := ln) (dn := dn) (Y := Y) hk t (by omega) (y_nk dn k t)
      omega
    · have := ih (by omega) t' (by omega) hl
      have := yx_le (ln := ln) (dn := dn) (y_yi ln dn Y k t) k t k
      omega
theorem yo_e {Y : Nat → Int} : ∀ k, k ≤ 9 * N → ∀ k', k' < k → ∀ t, t < N → ln (k' / 9) t = true → y_yo ln dn N Y k k' ≤ 1 + Y (y_nk dn k' t) := by
  intro k
  induction k with
  | zero => intro _ k' h; omega
  | succ k ih =>
    intro hk k' h t ht hl
    rw [y_yo]
    by_cases q : k' = k
    · rw [q] at hl ⊢
      have := yi_e (dn := dn) (Y := y_yo ln dn N Y k) (k := k) (by omega) N (Nat.le_refl _) t ht hl
      have := yo_le (ln := ln) (dn := dn) (N := N) (Y := Y) k (by omega) (y_nk dn k t)
      omega
    · rw [yi_n q]
      exact ih (by omega) k' (by omega) t ht hl
/-- when nothing is lower any more -/
def y_sm (Y : Nat → Int) : Nat → Int
  | 0 => 0
  | k + 1 => y_sm Y k + Y k
theorem sm_le {Y Z : Nat → Int} (h : ∀ x, Y x ≤ Z x) : ∀ n, y_sm Y n ≤ y_sm Z n := by
  intro n
  induction n with
  | zero => exact Int.le_refl _
  | succ n ih => have := h n; rw [y_sm, y_sm]; omega
theorem sm_lt {Y Z : Nat → Int} (h : ∀ x, Y x ≤ Z x) {x : Nat} (hx : Y x < Z x) : ∀ n, x < n → y_sm Y n < y_sm Z n := by
  intro n
  induction n with
  | zero => intro h; omega
  | succ n ih =>
    intro hn
    rw [y_sm, y_sm]
    by_cases q : x = n
    · rw [q] at hx
      have := sm_le h n
      omega
    · have := ih (by omega)
      have := h n
      omega
theorem sm_nn {Y : Nat → Int} (h : ∀ x, 0 ≤ Y x) : ∀ n, 0 ≤ y_sm Y n := by
  intro n
  induction n with
  | zero => exact Int.le_refl _
  | succ n ih => have := h n; rw [y_sm]; omega
theorem yr_sh (Y : Nat → Int) : ∀ n, y_yr ln dn N Y (n + 1) = y_yr ln dn N (y_yo ln dn N Y (9 * N)) n := by
  intro n
  induction n with
  | zero => rfl
  | succ n ih => rw [y_yr, ih]; rfl
theorem yr_ex (h8 : N ≤ 8) : ∀ (b : Nat) (Y : Nat → Int), (∀ x, 0 ≤ Y x) → y_sm Y 72 ≤ b → ∃ n, y_yr ln dn N Y (n + 1) = y_yr ln dn N Y n := by
  have nn : ∀ Y : Nat → Int, (∀ x, 0 ≤ Y x) → ∀ x, 0 ≤ y_yo ln dn N Y (9 * N) x := fun Y hY =>
    yo_P (P := fun Q => ∀ x, 0 ≤ Q x) (fun Q k t _ _ hl hQ x => by
      by_cases q : x = k
      · rw [q, yx_k hl]
        have := hQ k
        have := hQ (y_nk dn k t)
        omega
      · rw [yx_n q]; exact hQ x) hY _ (Nat.le_refl _)
  intro b
  induction b with
  | zero =>
    intro Y hY hb
    refine ⟨0, ?_⟩
    funext x
    show y_yo ln dn N Y (9 * N) x = Y x
    have h1 := yo_le (ln := ln) (dn := dn) (Y := Y) (9 * N) (Nat.le_refl _)
    have h2 := nn Y hY
    rcases Int.lt_or_le (y_yo ln dn N Y (9 * N) x) (Y x) with r | r
    · have hx : x < 72 := by
        rcases Nat.lt_or_ge x 72 with z | z
        · exact z
        · rw [yo_n _ (by omega)] at r; omega
      have := sm_lt h1 r 72 hx
      have := sm_nn h2 72
      omega
    · have := h1 x; omega
  | succ b ih =>
    intro Y hY hb
    have h1 := yo_le (ln := ln) (dn := dn) (Y := Y) (9 * N) (Nat.le_refl _)
    by_cases q : ∃ x, y_yo ln dn N Y (9 * N) x < Y x
    · obtain ⟨x, r⟩ := q
      have hx : x < 72 := by
        rcases Nat.lt_or_ge x 72 with z | z
        · exact z
        · rw [yo_n _ (by omega)] at r; omega
      have := sm_lt h1 r 72 hx
      obtain ⟨n, hn⟩ := ih (y_yo ln dn N Y (9 * N)) (nn Y hY) (by omega)
      exact ⟨n + 1, (yr_sh Y (n + 1)).trans (hn.trans (yr_sh Y n).symm)⟩
    · refine ⟨0, ?_⟩
      funext x
      show y_yo ln dn N Y (9 * N) x = Y x
      rcases Int.lt_or_le (y_yo ln dn N Y (9 * N) x) (Y x) with r | r
      · exact absurd ⟨x, r⟩ q
      · have := h1 x; omega
theorem yr_st {Y : Nat → Int} {n : Nat} (h : y_yr ln dn N Y (n + 1) = y_yr ln dn N Y n) : ∀ m, y_yr ln dn N Y (n + m) = y_yr ln dn N Y n := by
  intro m
  induction m with
  | zero => rfl
  | succ m ih =>
    have : y_yr ln dn N Y (n + m + 1) = y_yo ln dn N (y_yr ln dn N Y (n + m)) (9 * N) := rfl
    rw [← Nat.add_assoc, this, ih]
    exact h
theorem sm_b {Y : Nat → Int} (h : ∀ x, Y x ≤ 999) : ∀ n : Nat, y_sm Y n ≤ 999 * n := by
  intro n
  induction n with
  | zero => exact Int.le_refl _
  | succ n ih => have := h n; rw [y_sm]; omega
/-- what holds of the numbers at the end -/
theorem yr_all (h8 : N ≤ 8) (M : Nat) (hd : ∀ t q, q ≤ 8 → dn t q ≤ 8) : ∃ n, (y_yr ln dn N (y_y0 M) (n + 1) = y_yr ln dn N (y_y0 M) n)
    ∧ (∀ k, 0 ≤ y_yr ln dn N (y_y0 M) n k) ∧ (∀ k, y_yr ln dn N (y_y0 M) n k = 0 ↔ k % 9 = M)
    ∧ (∀ k, k < 9 * N → ∀ t, t < N → ln (k / 9) t = true → y_yr ln dn N (y_y0 M) n k ≤ 1 + y_yr ln dn N (y_y0 M) n (y_nk dn k t))
    ∧ (∀ k, y_yr ln dn N (y_y0 M) n k = 999 ∨ k % 9 = M ∨ (k < 9 * N ∧ ∃ t, t < N ∧ ln (k / 9) t = true ∧ 1 + y_yr ln dn N (y_y0 M) n (y_nk dn k t) = y_yr ln dn N (y_y0 M) n k))
    ∧ (∀ k, k < 72 → y_yr ln dn N (y_y0 M) n k ≤ 71 ∨ y_yr ln dn N (y_y0 M) n k = 999) := by
  have y0 : ∀ x, 0 ≤ y_y0 M x ∧ y_y0 M x ≤ 999 := fun x => by unfold y_y0; split <;> omega
  obtain ⟨n, hn⟩ := yr_ex (ln := ln) (dn := dn) h8 (999 * 72) (y_y0 M) (fun x => (y0 x).1) (sm_b (fun x => (y0 x).2) 72)
  have hP1 : ∀ k, 0 ≤ y_yr ln dn N (y_y0 M) n k ∧ y_yr ln dn N (y_y0 M) n k ≤ 999 ∧ (k % 9 = M → y_yr ln dn N (y_y0 M) n k = 0) ∧ (¬ k % 9 = M → 1 ≤ y_yr ln dn N (y_y0 M) n k) :=
    yr_P (P := fun Q => ∀ k, 0 ≤ Q k ∧ Q k ≤ 999 ∧ (k % 9 = M → Q k = 0) ∧ (¬ k % 9 = M → 1 ≤ Q k)) (fun Q k t _ _ hl hQ x => by
      by_cases q : x = k
      · rw [q, yx_k hl]
        have h1 := hQ k
        have h2 := (hQ (y_nk dn k t)).1
        refine ⟨by omega, by omega, fun z => ?_, fun z => ?_⟩
        · have := h1.2.2.1 z; omega
        · have := h1.2.2.2 z; omega
      · rw [yx_n q]; exact hQ x) (fun k => ⟨(y0 k).1, (y0 k).2, fun z => if_pos z, fun z => by unfold y_y0; rw [if_neg z]; omega⟩) n
  have fix : ∀ k, k < 9 * N → ∀ t, t < N → ln (k / 9) t = true → y_yr ln dn N (y_y0 M) n k ≤ 1 + y_yr ln dn N (y_y0 M) n (y_nk dn k t) := by
    intro k hk t ht hl
    have := yo_e (dn := dn) (Y := y_yr ln dn N (y_y0 M) n) (9 * N) (Nat.le_refl _) k hk t ht hl
    have e : y_yo ln dn N (y_yr ln dn N (y_y0 M) n) (9 * N) = y_yr ln dn N (y_y0 M) n := hn
    rw [e] at this
    exact this
  have wit0 : ∀ k, y_yr ln dn N (y_y0 M) n k = 999 ∨ k % 9 = M ∨ (k < 9 * N ∧ ∃ t, t < N ∧ ln (k / 9) t = true ∧ 1 + y_yr ln dn N (y_y0 M) n (y_nk dn k t) ≤ y_yr ln dn N (y_y0 M) n k) :=
    yr_P (P := fun Q => ∀ k, Q k = 999 ∨ k % 9 = M ∨ (k < 9 * N ∧ ∃ t, t < N ∧ ln (k / 9) t = true ∧ 1 + Q (y_nk dn k t) ≤ Q k)) (fun Q k t hk ht hl hQ x => by
      have mono := yx_le (ln := ln) (dn := dn) Q k t
      have old : y_yx ln dn Q k t x = Q x → y_yx ln dn Q k t x = 999 ∨ x % 9 = M ∨ (x < 9 * N ∧ ∃ t', t' < N ∧ ln (x / 9) t' = true ∧ 1 + y_yx ln dn Q k t (y_nk dn x t') ≤ y_yx ln dn Q k t x) := by
        intro e
        rw [e]
        rcases hQ x with z | z | ⟨z, t', z1, z2, z3⟩
        · exact Or.inl z
        · exact Or.inr (Or.inl z)
        · have := mono (y_nk dn x t')
          exact Or.inr (Or.inr ⟨z, t', z1, z2, by omega⟩)
      by_cases q : x = k
      · by_cases r : 1 + Q (y_nk dn k t) < Q k
        · right; right
          rw [q]
          have := mono (y_nk dn k t)
          exact ⟨hk, t, ht, hl, by rw [yx_k hl]; omega⟩
        · exact old (by rw [q, yx_k hl]; omega)
      · exact old (yx_n q)) (fun k => by
        unfold y_y0
        split
        · right; left; assumption
        · left; rfl) n
  have wit : ∀ k, y_yr ln dn N (y_y0 M) n k = 999 ∨ k % 9 = M ∨ (k < 9 * N ∧ ∃ t, t < N ∧ ln (k / 9) t = true ∧ 1 + y_yr ln dn N (y_y0 M) n (y_nk dn k t) = y_yr ln dn N (y_y0 M) n k) := by
    intro k
    rcases wit0 k with z | z | ⟨z, t, z1, z2, z3⟩
    · exact Or.inl z
    · exact Or.inr (Or.inl z)
    · have := fix k z t z1 z2
      exact Or.inr (Or.inr ⟨z, t, z1, z2, by omega⟩)
  refine ⟨n, hn, fun k => (hP1 k).1, fun k => ⟨fun z => ?_, (hP1 k).2.2.1⟩, fix, wit, ?_⟩
  · by_cases q : k % 9 = M
    · exact q
    · have := (hP1 k).2.2.2 q; omega
  generalize y_yr ln dn N (y_y0 M) n = Y at hP1 fix wit
  have vals : ∀ (m : Nat) (k : Nat), k < 72 → ¬ Y k = 999 → Y k = m → ∀ v : Nat, v ≤ m → ∃ x, x < 72 ∧ Y x = v := by
    intro m
    induction m with
    | zero => intro k hk _ h v hv; exact ⟨k, hk, by rw [h]; omega⟩
    | succ m ih =>
      intro k hk h9 h v hv
      by_cases q : v = m + 1
      · exact ⟨k, hk, by rw [h, q]⟩
      · have hb := hP1 k
        rcases wit k with z | z | ⟨z, t, z1, z2, z3⟩
        · exact absurd z h9
        · have := hb.2.2.1 z; omega
        · have d8 := hd t (k % 9) (by omega)
          refine ih (y_nk dn k t) (by unfold y_nk; omega) (by omega) (by omega) v (by omega)
  intro k hk
  by_cases q : Y k = 999
  · exact Or.inr q
  · left
    have hb := hP1 k
    obtain ⟨m, hm⟩ : ∃ m : Nat, Y k = m := ⟨(Y k).toNat, by omega⟩
    have cnt : ∀ v : Nat, v ≤ m → v + 1 ≤ y_ct (fun x => decide (Y x ≤ v)) 72 := by
      intro v
      induction v with
      | zero =>
        intro _
        obtain ⟨x, x1, x2⟩ := vals m k hk q hm 0 (by omega)
        have := (ct_lt (Q := fun _ => false) (Q' := fun x => decide (Y x ≤ ((0 : Nat) : Int))) (fun j z => absurd z (by decide)) (j0 := x) rfl (decide_eq_true (by omega)) 72).2 x1
        omega
      | succ v ih =>
        intro hv
        have h1 := ih (by omega)
        obtain ⟨x, x1, x2⟩ := vals m k hk q hm (v + 1) hv
        have := (ct_lt (Q := fun x => decide (Y x ≤ (v : Int))) (Q' := fun x => decide (Y x ≤ ((v + 1 : Nat) : Int))) (fun j z => by
          have := of_decide_eq_true z
          exact decide_eq_true (by omega)) (j0 := x) (decide_eq_false (by omega)) (decide_eq_true (by omega)) 72).2 x1
        omega
    have := cnt m (Nat.le_refl _)
    have := ct_le (fun x => decide (Y x ≤ (m : Int))) 72
    omega
end YY
