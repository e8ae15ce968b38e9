/-! the model's tokens -/
def q_fs (k : Nat) : Int := if k < 32 then 1 else 3
def q_ft (k : Nat) : Int := if k < 32 then (q_mw.getD k 0 : Nat) else ([60, 62, 61, 35, 43, 45, 42, 47, 40, 41, 59, 300, 301].getD (k - 32) 0 : Int)
def q_R (k v s t : Int) : Prop := (k < 45 → s = q_fs k.toNat ∧ t = q_ft k.toNat) ∧ (k = 45 → s = 2 ∧ ((t = v ∧ 0 ≤ v ∧ v ≤ 9999) ∨ (9999 < t ∧ v = 10000))) ∧ (k = 46 → s = 0) ∧ (k = 47 → s = 4 ∨ (s = 3 ∧ t = 44))
def q_sx (x : Int) : Int := if x < 128 then x else x - 256
def q_Mb (σ : x_T) (b : Nat → Int) (n : Nat) : Prop := (σ.1 345 14).toInt = n ∧ n ≤ 300 ∧ ∀ k, k < 300 → (σ.1 348 k).toInt = q_sx (b k) ∧ 0 ≤ b k ∧ b k < 256
def q_T (σ : x_T) (b : Nat → Int) (n i : Nat) : Prop := (σ.1 345 15).toInt = q_ea b n (i + 1) ∧ (σ.1 345 16).toInt = q_tp b n i ∧ q_R (q_K b n i) (q_V b n i) (σ.1 345 17).toInt (σ.1 345 18).toInt
/-- the object but for the token's own -/
def q_fr (σ ρ : x_T) : Prop := x_fr (fun c => c = 345) σ ρ ∧ ∀ k, ¬ k = 15 → ¬ k = 16 → ¬ k = 17 → ¬ k = 18 → ρ.1 345 k = σ.1 345 k
theorem qf_r (σ : x_T) : q_fr σ σ := ⟨fr_r _ _, fun _ _ _ _ _ => rfl⟩
theorem qf_w {σ ρ : x_T} (h : q_fr σ ρ) {k : Nat} (hk : k = 15 ∨ k = 16 ∨ k = 17 ∨ k = 18) (v : Int32) : q_fr σ (x_w1 ρ 345 k v) := ⟨fr_w h.1 rfl, fun j h1 h2 h3 h4 => by rw [w1_at, if_neg (by omega)]; exact h.2 j h1 h2 h3 h4⟩
theorem qf_b {σ ρ : x_T} {b : Nat → Int} {n : Nat} (h : q_fr σ ρ) (hb : q_Mb σ b n) : q_Mb ρ b n := ⟨by rw [h.2 14 (by omega) (by omega) (by omega) (by omega)]; exact hb.1, hb.2.1, fun k hk => by rw [h.1.1 348 (by omega)]; exact hb.2.2 k hk⟩
theorem by_le (x : Int) (h : 0 ≤ x ∧ x < 256) : q_le (q_sx x) = q_le x := by
  unfold q_le q_sx
  exact decide_eq_decide.mpr (by split <;> omega)
theorem by_di (x : Int) (h : 0 ≤ x ∧ x < 256) : (48 ≤ q_sx x ∧ q_sx x ≤ 57) ↔ q_di x = true := by
  unfold q_di q_sx
  rw [decide_eq_true_iff]
  split <;> omega
theorem ml_isLetter {d : Nat} {v : Int32} {τ : x_T} {K : x_T → Int32 → Prop} (h1 : q_le v.toInt = true → K τ 1) (h0 : q_le v.toInt = false → K τ 0) : x_CI (d + 1) mX12_isLetter [.int v] τ K := by
  refine e_X12_isLetter (ml_in (fun q1 q2 => ⟨fun _ => h1 (decide_eq_true ?_), fun z => absurd z z_10⟩) (fun q => ⟨fun z => absurd rfl z, fun _ => ml_in (fun r1 r2 => ⟨fun z => absurd z z_10, fun _ => h1 (decide_eq_true ?_)⟩) (fun r => ⟨fun _ => h0 (decide_eq_false ?_), fun z => absurd rfl z⟩)⟩))
  · simp only [Int32.reduceToInt] at q1 q2; omega
  · simp only [Int32.reduceToInt] at r1 r2; omega
  · simp only [Int32.reduceToInt] at q r; omega
/-! words -/
def q_pk (g : Nat → Int) : Nat → Int
  | 0 => 0
  | j + 1 => 64 * q_pk g j + g j - 64
theorem pk_b {g : Nat → Int} : ∀ m, (∀ j, j < m → 65 ≤ g j ∧ g j ≤ 122) → 0 ≤ q_pk g m ∧ (0 < m → 1 ≤ q_pk g m) ∧ (q_pk g m < 64 ^ m) := by
  intro m
  induction m with
  | zero => intro _; exact ⟨Int.le_refl _, fun h => by omega, by show (0 : Int) < 64 ^ 0; decide⟩
  | succ m ih =>
    intro h
    obtain ⟨h1, h2, h3⟩ := ih (fun j hj => h j (by omega))
    have hm := h m (by omega)
    rw [q_pk, Int.pow_succ]
    refine ⟨by omega, fun _ => by omega, by omega⟩
theorem pk_inj {f g : Nat → Int} : ∀ m m', (∀ j, j < m → 65 ≤ f j ∧ f j ≤ 122) → (∀ j, j < m' → 65 ≤ g j ∧ g j ≤ 122) → q_pk f m = q_pk g m' → m = m' ∧ ∀ j, j < m → f j = g j := by
  intro m
  induction m with
  | zero =>
    intro m' _ hg e
    cases m' with
    | zero => exact ⟨rfl, fun j hj => by omega⟩
    | succ m' =>
      have := (pk_b (m' + 1) hg).2.1 (by omega)
      rw [← e, q_pk] at this
      omega
  | succ m ih =>
    intro m' hf hg e
    cases m' with
    | zero =>
      have := (pk_b (m + 1) hf).2.1 (by omega)
      rw [e, q_pk] at this
      omega
    | succ m' =>
      have f1 := hf m (by omega)
      have g1 := hg m' (by omega)
      rw [q_pk, q_pk] at e
      obtain ⟨h1, h2⟩ := ih m' (fun j hj => hf j (by omega)) (fun j hj => hg j (by omega)) (by omega)
      subst h1
      refine ⟨rfl, fun j hj => ?_⟩
      by_cases q : j = m
      · subst q; omega
      · exact h2 j (by omega)
theorem cd_pk : ∀ q, q < 32 → q_pk (q_ch q) (q_wl.getD q 0) = q_cd.getD q 0 := by decide +kernel
theorem mt_cd {b : Nat → Int} {k m q : Nat} (hq : q < 32) (hl : ∀ j, j < m → 65 ≤ b (k + j) ∧ b (k + j) ≤ 122) : q_mt b k m q = true ↔ q_pk (fun j => b (k + j)) m = q_cd.getD q 0 := by
  obtain ⟨w1, w2, w3, w4, w5, w6⟩ := q_ws q hq
  have wb : ∀ j, j < q_wl.getD q 0 → 65 ≤ q_ch q j ∧ q_ch q j ≤ 122 := fun j hj => (w6 j (by omega) hj).2
  have c := cd_pk q hq
  constructor
  · intro h
    have h := of_decide_eq_true h
    rw [← c, h.1]
    have : ∀ i, i ≤ m → q_pk (fun j => b (k + j)) i = q_pk (q_ch q) i := by
      intro i
      induction i with
      | zero => intro _; rfl
      | succ i ih => intro hi; rw [q_pk, q_pk, ih (by omega), h.2 i (by omega)]
    exact this m (Nat.le_refl _)
  · intro h
    rw [← c] at h
    obtain ⟨h1, h2⟩ := pk_inj m _ hl wb h
    exact decide_eq_true ⟨h1.symm, h2⟩
theorem w_eq {w : Int64} {p c : Int} {v : Int64} (hw : w.toInt = p) (hv : v.toInt = c) : lg_cmp w v = 0 ↔ p = c := by rw [l_ceq, hw, hv]
theorem w_no {w : Int64} {p : Int} (hw : w.toInt = p) (n0 : ¬ lg_cmp w 10624164 = 0) (n1 : ¬ lg_cmp w 932584627 = 0) (n2 : ¬ lg_cmp w 629615539 = 0) (n3 : ¬ lg_cmp w 14556333 = 0) (n4 : ¬ lg_cmp w 683629797 = 0) (n5 : ¬ lg_cmp w 11672485 = 0) (n6 : ¬ lg_cmp w 52442335602 = 0) (n7 : ¬ lg_cmp w 12803304 = 0) (n8 : ¬ lg_cmp w 215664 = 0) (n9 : ¬ lg_cmp w 11951012 = 0) (n10 : ¬ lg_cmp w 49018527013 = 0) (n11 : ¬ lg_cmp w 3375 = 0) (n12 : ¬ lg_cmp w 3046 = 0) (n13 : ¬ lg_cmp w 2233 = 0) (n14 : ¬ lg_cmp w 157810 = 0) (n15 : ¬ lg_cmp w 2662 = 0) (n16 : ¬ lg_cmp w 13797742 = 0) (n17 : ¬ lg_cmp w 9882853 = 0) (n18 : ¬ lg_cmp w 154532 = 0) (n19 : ¬ lg_cmp w 3058 = 0) (n20 : ¬ lg_cmp w 138148 = 0) (n21 : ¬ lg_cmp w 191476 = 0) (n22 : ¬ lg_cmp w 10640549 = 0) (n23 : ¬ lg_cmp w 10656556 = 0) (n24 : ¬ lg_cmp w 10681714 = 0) (n25 : ¬ lg_cmp w 12720933 = 0) (n26 : ¬ lg_cmp w 819408101 = 0) (n27 : ¬ lg_cmp w 883055781 = 0) (n28 : ¬ lg_cmp w 227928104926504 = 0) (n29 : ¬ lg_cmp w 59736742707 = 0) (n30 : ¬ lg_cmp w 11688372 = 0) (n31 : ¬ lg_cmp w 12254190 = 0) : ∀ q, q < 32 → ¬ p = q_cd.getD q 0 := by
  intro q hq
  have m0 : ¬ p = 10624164 := fun z => n0 ((w_eq hw (by decide)).mpr z)
  have m1 : ¬ p = 932584627 := fun z => n1 ((w_eq hw (by decide)).mpr z)
  have m2 : ¬ p = 629615539 := fun z => n2 ((w_eq hw (by decide)).mpr z)
  have m3 : ¬ p = 14556333 := fun z => n3 ((w_eq hw (by decide)).mpr z)
  have m4 : ¬ p = 683629797 := fun z => n4 ((w_eq hw (by decide)).mpr z)
  have m5 : ¬ p = 11672485 := fun z => n5 ((w_eq hw (by decide)).mpr z)
  have m6 : ¬ p = 52442335602 := fun z => n6 ((w_eq hw (by decide)).mpr z)
  have m7 : ¬ p = 12803304 := fun z => n7 ((w_eq hw (by decide)).mpr z)
  have m8 : ¬ p = 215664 := fun z => n8 ((w_eq hw (by decide)).mpr z)
  have m9 : ¬ p = 11951012 := fun z => n9 ((w_eq hw (by decide)).mpr z)
  have m10 : ¬ p = 49018527013 := fun z => n10 ((w_eq hw (by decide)).mpr z)
  have m11 : ¬ p = 3375 := fun z => n11 ((w_eq hw (by decide)).mpr z)
  have m12 : ¬ p = 3046 := fun z => n12 ((w_eq hw (by decide)).mpr z)
  have m13 : ¬ p = 2233 := fun z => n13 ((w_eq hw (by decide)).mpr z)
  have m14 : ¬ p = 157810 := fun z => n14 ((w_eq hw (by decide)).mpr z)
  have m15 : ¬ p = 2662 := fun z => n15 ((w_eq hw (by decide)).mpr z)
  have m16 : ¬ p = 13797742 := fun z => n16 ((w_eq hw (by decide)).mpr z)
  have m17 : ¬ p = 9882853 := fun z => n17 ((w_eq hw (by decide)).mpr z)
  have m18 : ¬ p = 154532 := fun z => n18 ((w_eq hw (by decide)).mpr z)
  have m19 : ¬ p = 3058 := fun z => n19 ((w_eq hw (by decide)).mpr z)
  have m20 : ¬ p = 138148 := fun z => n20 ((w_eq hw (by decide)).mpr z)
  have m21 : ¬ p = 191476 := fun z => n21 ((w_eq hw (by decide)).mpr z)
  have m22 : ¬ p = 10640549 := fun z => n22 ((w_eq hw (by decide)).mpr z)
  have m23 : ¬ p = 10656556 := fun z => n23 ((w_eq hw (by decide)).mpr z)
  have m24 : ¬ p = 10681714 := fun z => n24 ((w_eq hw (by decide)).mpr z)
  have m25 : ¬ p = 12720933 := fun z => n25 ((w_eq hw (by decide)).mpr z)
  have m26 : ¬ p = 819408101 := fun z => n26 ((w_eq hw (by decide)).mpr z)
  have m27 : ¬ p = 883055781 := fun z => n27 ((w_eq hw (by decide)).mpr z)
  have m28 : ¬ p = 227928104926504 := fun z => n28 ((w_eq hw (by decide)).mpr z)
  have m29 : ¬ p = 59736742707 := fun z => n29 ((w_eq hw (by decide)).mpr z)
  have m30 : ¬ p = 11688372 := fun z => n30 ((w_eq hw (by decide)).mpr z)
  have m31 : ¬ p = 12254190 := fun z => n31 ((w_eq hw (by decide)).mpr z)
  have : q = 0 ∨ q = 1 ∨ q = 2 ∨ q = 3 ∨ q = 4 ∨ q = 5 ∨ q = 6 ∨ q = 7 ∨ q = 8 ∨ q = 9 ∨ q = 10 ∨ q = 11 ∨ q = 12 ∨ q = 13 ∨ q = 14 ∨ q = 15 ∨ q = 16 ∨ q = 17 ∨ q = 18 ∨ q = 19 ∨ q = 20 ∨ q = 21 ∨ q = 22 ∨ q = 23 ∨ q = 24 ∨ q = 25 ∨ q = 26 ∨ q = 27 ∨ q = 28 ∨ q = 29 ∨ q = 30 ∨ q = 31 := by omega
  rcases this with rfl | rfl | rfl | rfl | rfl | rfl | rfl | rfl | rfl | rfl | rfl | rfl | rfl | rfl | rfl | rfl | rfl | rfl | rfl | rfl | rfl | rfl | rfl | rfl | rfl | rfl | rfl | rfl | rfl | rfl | rfl | rfl
  · exact m0
  · exact m1
  · exact m2
  · exact m3
  · exact m4
  · exact m5
  · exact m6
  · exact m7
  · exact m8
  · exact m9
  · exact m10
  · exact m11
  · exact m12
  · exact m13
  · exact m14
  · exact m15
  · exact m16
  · exact m17
  · exact m18
  · exact m21
  · exact m19
  · exact m20
  · exact m22
  · exact m23
  · exact m24
  · exact m25
  · exact m26
  · exact m27
  · exact m28
  · exact m29
  · exact m30
  · exact m31
set_option maxRecDepth 20000 in
theorem ml_wordOf {d : Nat} {w : Int64} {p : Int} {τ : x_T} {K : x_T → Int32 → Prop} (hw : w.toInt = p) (hk : ∀ q, q < 32 → p = q_cd.getD q 0 → K τ (nI (q_mw.getD q 0))) (hn : (∀ q, q < 32 → ¬ p = q_cd.getD q 0) → K τ (-1)) : x_CI d mX12_wordOf [.long w] τ K :=
  e_X12_wordOf ⟨fun n0 => ⟨fun n1 => ⟨fun n2 => ⟨fun n3 => ⟨fun n4 => ⟨fun n5 => ⟨fun n6 => ⟨fun n7 => ⟨fun n8 => ⟨fun n9 => ⟨fun n10 => ⟨fun n11 => ⟨fun n12 => ⟨fun n13 => ⟨fun n14 => ⟨fun n15 => ⟨fun n16 => ⟨fun n17 => ⟨fun n18 => ⟨fun n19 => ⟨fun n20 => ⟨fun n21 => ⟨fun n22 => ⟨fun n23 => ⟨fun n24 => ⟨fun n25 => ⟨fun n26 => ⟨fun n27 => ⟨fun n28 => ⟨fun n29 => ⟨fun n30 => ⟨fun n31 => hn (w_no hw n0 n1 n2 n3 n4 n5 n6 n7 n8 n9 n10 n11 n12 n13 n14 n15 n16 n17 n18 n19 n20 n21 n22 n23 n24 n25 n26 n27 n28 n29 n30 n31), fun e => hk 31 (by omega) ((w_eq hw (by decide)).mp e)⟩, fun e => hk 30 (by omega) ((w_eq hw (by decide)).mp e)⟩, fun e => hk 29 (by omega) ((w_eq hw (by decide)).mp e)⟩, fun e => hk 28 (by omega) ((w_eq hw (by decide)).mp e)⟩, fun e => hk 27 (by omega) ((w_eq hw (by decide)).mp e)⟩, fun e => hk 26 (by omega) ((w_eq hw (by decide)).mp e)⟩, fun e => hk 25 (by omega) ((w_eq hw (by decide)).mp e)⟩, fun e => hk 24 (by omega) ((w_eq hw (by decide)).mp e)⟩, fun e => hk 23 (by omega) ((w_eq hw (by decide)).mp e)⟩, fun e => hk 22 (by omega) ((w_eq hw (by decide)).mp e)⟩, fun e => hk 19 (by omega) ((w_eq hw (by decide)).mp e)⟩, fun e => hk 21 (by omega) ((w_eq hw (by decide)).mp e)⟩, fun e => hk 20 (by omega) ((w_eq hw (by decide)).mp e)⟩, fun e => hk 18 (by omega) ((w_eq hw (by decide)).mp e)⟩, fun e => hk 17 (by omega) ((w_eq hw (by decide)).mp e)⟩, fun e => hk 16 (by omega) ((w_eq hw (by decide)).mp e)⟩, fun e => hk 15 (by omega) ((w_eq hw (by decide)).mp e)⟩, fun e => hk 14 (by omega) ((w_eq hw (by decide)).mp e)⟩, fun e => hk 13 (by omega) ((w_eq hw (by decide)).mp e)⟩, fun e => hk 12 (by omega) ((w_eq hw (by decide)).mp e)⟩, fun e => hk 11 (by omega) ((w_eq hw (by decide)).mp e)⟩, fun e => hk 10 (by omega) ((w_eq hw (by decide)).mp e)⟩, fun e => hk 9 (by omega) ((w_eq hw (by decide)).mp e)⟩, fun e => hk 8 (by omega) ((w_eq hw (by decide)).mp e)⟩, fun e => hk 7 (by omega) ((w_eq hw (by decide)).mp e)⟩, fun e => hk 6 (by omega) ((w_eq hw (by decide)).mp e)⟩, fun e => hk 5 (by omega) ((w_eq hw (by decide)).mp e)⟩, fun e => hk 4 (by omega) ((w_eq hw (by decide)).mp e)⟩, fun e => hk 3 (by omega) ((w_eq hw (by decide)).mp e)⟩, fun e => hk 2 (by omega) ((w_eq hw (by decide)).mp e)⟩, fun e => hk 1 (by omega) ((w_eq hw (by decide)).mp e)⟩, fun e => hk 0 (by omega) ((w_eq hw (by decide)).mp e)⟩
theorem wk_b (b : Nat → Int) (k m : Nat) : q_wk b k m = 47 ∨ ∃ q, q < 32 ∧ q_wk b k m = (q : Nat) ∧ m ≤ 8 ∧ q_mt b k m q = true := by
  unfold q_wk
  by_cases h : m ≤ 8
  · rw [if_pos h]
    by_cases ex : ∃ j, 0 ≤ j ∧ j < 0 + 32 ∧ q_mt b k m j = true
    · obtain ⟨q, q1, q2, q3, q4, q5⟩ := first_s (P := q_mt b k m) 32 0 ex
      rw [q5, if_neg (by omega)]
      exact Or.inr ⟨q, by omega, rfl, h, q3⟩
    · have : ∀ f k', k' + f = 32 → z_first (q_mt b k m) f k' = -1 := by
        intro f
        induction f with
        | zero => intro k' _; rfl
        | succ f ih =>
          intro k' hk
          rw [z_first, if_neg (fun z => ex ⟨k', by omega, by omega, z⟩)]
          exact ih (k' + 1) (by omega)
      rw [this 32 0 (by omega), if_pos rfl]
      exact Or.inl rfl
  · rw [if_neg h]; exact Or.inl rfl
theorem wk_no {b : Nat → Int} {k m : Nat} (h : m ≤ 8) (hw : q_wk b k m = 47) : ∀ q, q < 32 → ¬ q_mt b k m q = true := by
  intro q hq z
  unfold q_wk at hw
  rw [if_pos h] at hw
  obtain ⟨r, r1, r2, r3, r4, r5⟩ := first_s (P := q_mt b k m) 32 0 ⟨q, by omega, by omega, z⟩
  rw [r5, if_neg (by omega)] at hw
  omega
theorem R_w {b : Nat → Int} {n k m : Nat} {v : Int} (t : Int) (hm : 1 ≤ m) (hl : ∀ j, j < m → 65 ≤ b (k + j) ∧ b (k + j) ≤ 122) (h1 : m ≤ 8 → (∀ q, q < 32 → q_pk (fun j => b (k + j)) m = q_cd.getD q 0 → t = (q_mw.getD q 0 : Nat)) ∧ ((∀ q, q < 32 → ¬ q_pk (fun j => b (k + j)) m = q_cd.getD q 0) → t = -1)) (h2 : ¬ m ≤ 8 → t = -1) (s : Int) (hs : s = if 0 ≤ t then 1 else 4) : q_R (q_wk b k m) v s t := by
  rcases wk_b b k m with e | ⟨q, q1, q2, q3, q4⟩
  · have ht : t = -1 := by
      by_cases m8 : m ≤ 8
      · refine (h1 m8).2 (fun q hq z => wk_no m8 e q hq ((mt_cd hq hl).mpr z))
      · exact h2 m8
    rw [ht, if_neg (by omega)] at hs
    rw [e]
    exact ⟨fun z => by omega, fun z => by omega, fun z => by omega, fun _ => Or.inl hs⟩
  · have ht := (h1 q3).1 q q1 ((mt_cd q1 hl).mp q4)
    rw [if_pos (by omega)] at hs
    rw [q2]
    refine ⟨fun _ => ?_, fun z => by omega, fun z => by omega, fun z => by omega⟩
    rw [Int.toNat_natCast, q_fs, q_ft, if_pos q1, if_pos q1]
    exact ⟨hs, ht⟩
