/-! tokens: the bytes cut, in numbers -/
def q_so : List Nat := [0, 5, 11, 17, 22, 28, 33, 40, 45, 49, 54, 61, 64, 67, 70, 74, 77, 82, 87, 91, 95, 98, 102, 107, 112, 117, 122, 128, 134, 143, 150, 155, 160]
def q_wl : List Nat := [4, 5, 5, 4, 5, 4, 6, 4, 3, 4, 6, 2, 2, 2, 3, 2, 4, 4, 3, 3, 2, 3, 4, 4, 4, 4, 5, 5, 8, 6, 4, 4]
def q_mw : List Nat := [0, 1, 2, 3, 4, 5, 6, 7, 8, 9, 10, 11, 12, 13, 14, 15, 16, 17, 18, 21, 19, 20, 22, 23, 24, 25, 26, 27, 28, 29, 30, 31]
def q_cd : List Int := [10624164, 932584627, 629615539, 14556333, 683629797, 11672485, 52442335602, 12803304, 215664, 11951012, 49018527013, 3375, 3046, 2233, 157810, 2662, 13797742, 9882853, 154532, 191476, 3058, 138148, 10640549, 10656556, 10681714, 12720933, 819408101, 883055781, 227928104926504, 59736742707, 11688372, 12254190]
def q_ch (k j : Nat) : Int := (x_ch 0 (q_so.getD k 0 + j)).toInt
set_option maxRecDepth 20000 in
theorem q_ws : ∀ k, k < 32 → q_so.getD (k + 1) 0 = q_so.getD k 0 + q_wl.getD k 0 + 1 ∧ q_so.getD k 0 + q_wl.getD k 0 < 160 ∧ x_ch 0 (q_so.getD k 0 + q_wl.getD k 0) = 32 ∧ 1 ≤ q_wl.getD k 0 ∧ q_wl.getD k 0 ≤ 8 ∧ ∀ j, j < 8 → j < q_wl.getD k 0 → ¬ x_ch 0 (q_so.getD k 0 + j) = 32 ∧ 65 ≤ q_ch k j ∧ q_ch k j ≤ 122 := by decide +kernel
def q_sp (x : Int) : Bool := decide (x = 32 ∨ x = 10)
def q_le (x : Int) : Bool := decide ((97 ≤ x ∧ x ≤ 122) ∨ (65 ≤ x ∧ x ≤ 90))
def q_di (x : Int) : Bool := decide (48 ≤ x ∧ x ≤ 57)
def q_run (P : Int → Bool) (b : Nat → Int) (n : Nat) : Nat → Nat → Nat
  | 0, k => k
  | f + 1, k => if k < n ∧ P (b k) = true then q_run P b n f (k + 1) else k
def q_r (P : Int → Bool) (b : Nat → Int) (n k : Nat) : Nat := q_run P b n (n - k) k
theorem r_go {P : Int → Bool} {b : Nat → Int} {n k : Nat} (hk : k < n) (hp : P (b k) = true) : q_r P b n k = q_r P b n (k + 1) := by
  unfold q_r
  rw [show n - k = (n - (k + 1)) + 1 by omega, q_run, if_pos ⟨hk, hp⟩]
theorem r_no {P : Int → Bool} {b : Nat → Int} {n k : Nat} (h : ¬ (k < n ∧ P (b k) = true)) : q_r P b n k = k := by
  unfold q_r
  cases n - k with
  | zero => rfl
  | succ f => rw [q_run, if_neg h]
theorem r_b {P : Int → Bool} {b : Nat → Int} {n : Nat} : ∀ f k, n - k = f → k ≤ n → k ≤ q_r P b n k ∧ q_r P b n k ≤ n ∧ (∀ j, k ≤ j → j < q_r P b n k → P (b j) = true) ∧ ¬ (q_r P b n k < n ∧ P (b (q_r P b n k)) = true) := by
  intro f
  induction f with
  | zero =>
    intro k hf hk
    have e : q_r P b n k = k := r_no (by omega)
    rw [e]
    exact ⟨Nat.le_refl _, hk, fun j h1 h2 => by omega, by omega⟩
  | succ f ih =>
    intro k hf hk
    by_cases q : P (b k) = true
    · have e : q_r P b n k = q_r P b n (k + 1) := r_go (by omega) q
      obtain ⟨h1, h2, h3, h4⟩ := ih (k + 1) (by omega) (by omega)
      rw [e]
      refine ⟨by omega, h2, fun j j1 j2 => ?_, h4⟩
      by_cases r : j = k
      · rw [r]; exact q
      · exact h3 j (by omega) j2
    · have e : q_r P b n k = k := r_no (fun z => q z.2)
      rw [e]
      exact ⟨Nat.le_refl _, hk, fun j h1 h2 => by omega, fun z => q z.2⟩
def q_sg (x : Int) : Int := if x = 60 then 32 else if x = 62 then 33 else if x = 61 then 34 else if x = 35 then 35 else if x = 43 then 36 else if x = 45 then 37 else if x = 42 then 38 else if x = 47 then 39 else if x = 40 then 40 else if x = 41 then 41 else if x = 59 then 42 else 47
def q_mt (b : Nat → Int) (k m q : Nat) : Bool := decide (q_wl.getD q 0 = m ∧ ∀ j, j < m → b (k + j) = q_ch q j)
def q_wk (b : Nat → Int) (k m : Nat) : Int := if m ≤ 8 then (if z_first (q_mt b k m) 32 0 = -1 then 47 else z_first (q_mt b k m) 32 0) else 47
def q_nc (b : Nat → Int) (k : Nat) : Nat → Int
  | 0 => 0
  | j + 1 => min 10000 (q_nc b k j * 10 + b (k + j) - 48)
def q_2s (b : Nat → Int) (n k : Nat) : Bool := decide ((b k = 60 ∨ b k = 62) ∧ k + 1 < n ∧ b (k + 1) = 61)
def q_en (b : Nat → Int) (n k : Nat) : Nat := if q_le (b k) = true then q_r q_le b n k else if q_di (b k) = true then q_r q_di b n k else if q_2s b n k = true then k + 2 else k + 1
def q_kd (b : Nat → Int) (n k : Nat) : Int := if q_le (b k) = true then q_wk b k (q_r q_le b n k - k) else if q_di (b k) = true then 45 else if q_2s b n k = true then (if b k = 60 then 43 else 44) else q_sg (b k)
def q_va (b : Nat → Int) (n k : Nat) : Int := if q_le (b k) = true then 0 else if q_di (b k) = true then q_nc b k (q_r q_di b n k - k) else 0
def q_ea (b : Nat → Int) (n : Nat) : Nat → Nat
  | 0 => 0
  | i + 1 => if q_r q_sp b n (q_ea b n i) < n then q_en b n (q_r q_sp b n (q_ea b n i)) else n
def q_tp (b : Nat → Int) (n i : Nat) : Nat := q_r q_sp b n (q_ea b n i)
def q_K (b : Nat → Int) (n i : Nat) : Int := if q_tp b n i < n then q_kd b n (q_tp b n i) else 46
def q_V (b : Nat → Int) (n i : Nat) : Int := if q_tp b n i < n then q_va b n (q_tp b n i) else 0
theorem en_b {b : Nat → Int} {n k : Nat} (hk : k < n) : k < q_en b n k ∧ q_en b n k ≤ n := by
  unfold q_en
  split
  · rename_i q
    have := r_b (P := q_le) (b := b) (n - (k + 1)) (k + 1) rfl (by omega)
    rw [r_go hk q]; omega
  · split
    · rename_i q
      have := r_b (P := q_di) (b := b) (n - (k + 1)) (k + 1) rfl (by omega)
      rw [r_go hk q]; omega
    · split
      · rename_i q
        have := of_decide_eq_true q
        omega
      · omega
theorem ea_b (b : Nat → Int) (n : Nat) : ∀ i, q_ea b n i ≤ n := by
  intro i
  induction i with
  | zero => exact Nat.zero_le _
  | succ i ih =>
    rw [q_ea]
    split
    · rename_i q; exact (en_b q).2
    · exact Nat.le_refl _
theorem tp_b (b : Nat → Int) (n i : Nat) : q_ea b n i ≤ q_tp b n i ∧ q_tp b n i ≤ n ∧ ¬ (q_tp b n i < n ∧ q_sp (b (q_tp b n i)) = true) := by
  have := r_b (P := q_sp) (b := b) (n - q_ea b n i) (q_ea b n i) rfl (ea_b b n i)
  exact ⟨this.1, this.2.1, this.2.2.2⟩
theorem tp_s {b : Nat → Int} {n i : Nat} (h : q_tp b n i < n) : q_ea b n (i + 1) = q_en b n (q_tp b n i) ∧ q_tp b n (i + 1) = q_r q_sp b n (q_en b n (q_tp b n i)) := by
  have e : q_ea b n (i + 1) = q_en b n (q_tp b n i) := by unfold q_tp at h ⊢; rw [q_ea, if_pos h]
  exact ⟨e, by rw [q_tp, e]⟩
theorem tp_n {b : Nat → Int} {n i : Nat} (h : q_tp b n i = n) : ∀ m, q_tp b n (i + m) = n := by
  intro m
  induction m with
  | zero => exact h
  | succ m ih =>
    have e : q_ea b n (i + m + 1) = n := by
      rw [q_ea, if_neg]
      show ¬ q_tp b n (i + m) < n
      omega
    rw [← Nat.add_assoc, q_tp, e]
    exact r_no (by omega)
/-! the class cuts -/
def q_cb (σ : x_T) (b : Nat → Int) (n : Nat) : Prop := (σ.1 314 1).toInt = n ∧ n ≤ 300 ∧ ∀ k, k < 300 → (σ.1 315 k).toInt = b k ∧ 0 ≤ b k ∧ b k < 256
def q_sK (c : Nat) : Prop := c = 314 ∨ c = 316 ∨ c = 317 ∨ c = 318
theorem cl_byteAt {d k : Nat} {v : Int32} {σ : x_T} {b : Nat → Int} {n : Nat} {K : x_T → Int32 → Prop} (hb : q_cb σ b n) (hv : v.toInt = k) (h : ∀ u : Int32, u.toInt = (if k < n then b k else 0) → K σ u) : x_CI d mX8_byteAt [.ref 314, .int v] σ K := by
  obtain ⟨h1, h2, h3⟩ := hb
  refine e_X8_byteAt ⟨fun q => ?_, fun _ => ⟨fun q => h 0 ?_, fun q => ⟨fun r => ?_, fun r => ⟨ix_n ?_, h _ ?_⟩⟩⟩⟩
  · rw [z_lt, hv] at q; simp only [Int32.reduceToInt] at q; omega
  · rw [z_le, h1, hv] at q; rw [if_neg (by omega)]; rfl
  · rw [z_le, h1, hv] at q; rw [z_le, hv] at r; simp only [Int32.reduceToInt] at r; omega
  · rw [z_le, hv] at r; simp only [Int32.reduceToInt] at r; omega
  · rw [z_le, h1, hv] at q
    rw [z_cl, hv, Int.toNat_natCast, if_pos (by omega)]
    exact (h3 k (by omega)).1
theorem cl_isLetter {d : Nat} {v : Int32} {σ : x_T} {K : x_T → Int32 → Prop} (h1 : q_le v.toInt = true → K σ 1) (h0 : q_le v.toInt = false → K σ 0) : x_CI d mX8_isLetter [.int v] σ K := by
  have two : ¬ (97 ≤ v.toInt ∧ v.toInt ≤ 122) → x_WI d mX8_isLetter K 12 [(0, .int v)] [] σ := by
    intro z
    refine k_X8_isLetter_12 ⟨fun q => h0 ?_, fun q => ⟨fun r => h0 ?_, fun r => h1 ?_⟩⟩
    · rw [z_lt] at q; simp only [Int32.reduceToInt] at q; exact decide_eq_false (by omega)
    · rw [z_lt] at r; simp only [Int32.reduceToInt] at r; exact decide_eq_false (by omega)
    · rw [z_lt] at q r; simp only [Int32.reduceToInt] at q r; exact decide_eq_true (by omega)
  refine e_X8_isLetter ⟨fun q => two ?_, fun q => ⟨fun r => h1 ?_, fun r => two ?_⟩⟩
  · rw [z_lt] at q; simp only [Int32.reduceToInt] at q; omega
  · rw [z_lt] at q; rw [z_le] at r; simp only [Int32.reduceToInt] at q r; exact decide_eq_true (by omega)
  · rw [z_le] at r; simp only [Int32.reduceToInt] at r; omega
theorem cl_isDigit {d : Nat} {v : Int32} {σ : x_T} {K : x_T → Int32 → Prop} (h1 : q_di v.toInt = true → K σ 1) (h0 : q_di v.toInt = false → K σ 0) : x_CI d mX8_isDigit [.int v] σ K := by
  refine e_X8_isDigit ⟨fun q => h0 ?_, fun q => ⟨fun r => h0 ?_, fun r => h1 ?_⟩⟩
  · rw [z_lt] at q; simp only [Int32.reduceToInt] at q; exact decide_eq_false (by omega)
  · rw [z_lt] at r; simp only [Int32.reduceToInt] at r; exact decide_eq_false (by omega)
  · rw [z_lt] at q r; simp only [Int32.reduceToInt] at q r; exact decide_eq_true (by omega)
/-- what is noted so far -/
def q_nt (τ σ : x_T) (b : Nat → Int) (n i : Nat) : Prop := x_fr q_sK τ σ ∧ (σ.1 314 1).toInt = n ∧ (σ.1 314 5).toInt = i ∧ ∀ j, j < i → (σ.1 316 j).toInt = q_K b n j ∧ (σ.1 317 j).toInt = q_V b n j ∧ (σ.1 318 j).toInt = q_tp b n j
theorem cl_note {d n i : Nat} {v1 v2 v3 : Int32} {τ σ : x_T} {b : Nat → Int} {K : x_T → Prop} (h : q_nt τ σ b n i) (hi : i ≤ 300) (h1 : v1.toInt = q_K b n i) (h2 : v2.toInt = q_V b n i) (h3 : v3.toInt = q_tp b n i) (hK : ∀ ρ : x_T, q_nt τ ρ b n (i + 1) → K ρ) : x_CV d mX8_note [.ref 314, .int v1, .int v2, .int v3] σ K := by
  obtain ⟨f, g1, g5, gj⟩ := h
  have cn : (σ.1 314 5).toNatClampNeg = i := by rw [z_cl, g5]; omega
  refine e_X8_note ⟨fun q => ?_, fun _ => ⟨fun q => ?_, fun _ => ⟨ix_n (by omega), fun t1 e1 => ?_⟩⟩⟩
  · rw [z_lt, g5] at q; simp only [Int32.reduceToInt] at q; omega
  · rw [z_le, g5] at q; simp only [Int32.reduceToInt] at q; omega
  rw [cn] at e1
  have a1 : t1.1 314 = σ.1 314 := by rw [e1]; exact w1_c (by omega)
  rw [a1, cn]
  refine ⟨ix_n (by omega), fun t2 e2 => ?_⟩
  have a2 : t2.1 314 = σ.1 314 := by rw [e2, w1_c (by omega)]; exact a1
  rw [a2, cn]
  refine ⟨ix_n (by omega), fun t3 e3 t4 e4 => hK t4 ?_⟩
  have a3 : t3.1 314 = σ.1 314 := by rw [e3, w1_c (by omega)]; exact a2
  have c6 : ∀ j, t4.1 316 j = if j = i then v1 else σ.1 316 j := fun j => by
    rw [e4, w1_c (by omega), e3, w1_c (by omega), e2, w1_c (by omega), e1, w1_at]
    by_cases q : j = i
    · rw [if_pos ⟨rfl, q⟩, if_pos q]
    · rw [if_neg (fun z => q z.2), if_neg q]
  have c7 : ∀ j, t4.1 317 j = if j = i then v2 else σ.1 317 j := fun j => by
    rw [e4, w1_c (by omega), e3, w1_c (by omega), e2, w1_at, e1, w1_c (by omega)]
    by_cases q : j = i
    · rw [if_pos ⟨rfl, q⟩, if_pos q]
    · rw [if_neg (fun z => q z.2), if_neg q]
  have c8 : ∀ j, t4.1 318 j = if j = i then v3 else σ.1 318 j := fun j => by
    rw [e4, w1_c (by omega), e3, w1_at, e2, w1_c (by omega), e1, w1_c (by omega)]
    by_cases q : j = i
    · rw [if_pos ⟨rfl, q⟩, if_pos q]
    · rw [if_neg (fun z => q z.2), if_neg q]
  refine ⟨?_, ?_, ?_, fun j hj => ?_⟩
  · rw [e4, e3, e2, e1]
    exact fr_w (fr_w (fr_w (fr_w f (by unfold q_sK; omega)) (by unfold q_sK; omega)) (by unfold q_sK; omega)) (by unfold q_sK; omega)
  · rw [e4, w1_at, if_neg (by omega), a3]; exact g1
  · rw [e4, w1_at, if_pos ⟨rfl, rfl⟩, a3, z_add (by rw [g5]; simp only [Int32.reduceToInt]; omega), g5]; simp only [Int32.reduceToInt]; omega
  · rw [c6, c7, c8]
    by_cases q : j = i
    · rw [if_pos q, if_pos q, if_pos q, q]; exact ⟨h1, h2, h3⟩
    · rw [if_neg q, if_neg q, if_neg q]; exact gj j (by omega)
