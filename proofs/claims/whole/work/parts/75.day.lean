/-! what is done to a day, in numbers -/
def z_e4 (a b c e f g : Int) (o : Nat) : Nat → Int := fun j => if j = 0 then a else if j = 1 then b else if j = 2 then c else if j = o then e else if j = o + 1 then f else if j = o + 2 then g else 0
def x_L : Type := Nat → Option ((Nat → Int) → Int)
def z_hard (A : Nat → Int) (L : x_L) (e : Nat → Int) (x y p : Int) : Int := match L 0 with
  | none => max 1 (3 * z_ln A x y + z_hl A y - z_hl A x)
  | some f => z_hd (f (z_e4 (e 5) x (z_hl A x) y (z_ln A x y) (z_sg A p) 6)) 1 999
def z_wear (A : Nat → Int) (L : x_L) (e : Nat → Int) : Int := match L 1 with
  | none => 1
  | some f => z_hd (f (z_e4 (e 5) (e 0) (z_hl A (e 0)) (e 4) (e 2) 0 9)) 0 99
def z_ab (h : Int) : Int := if 12 ≤ h then h - 12 else 12 - h
def z_earn (A : Nat → Int) (L : x_L) (e : Nat → Int) (h : Nat) : Int := match L 2 with
  | none => 12 - z_ab (z_hour A (e 0) h)
  | some f => z_hd (f (z_e4 (e 5) h (z_hl A h) (z_hour A (e 0) h) (e (15 + h)) (e (7 + h)) 3)) (-99) 99
def z_warm (A : Nat → Int) (L : x_L) (e : Nat → Int) (x y : Int) : Int := match L 3 with
  | none => max 0 (30 - 5 * z_far A x y)
  | some f => z_hd (f (z_e4 (e 5) x (z_hl A x) y 0 0 11)) 0 99
def z_lie (e : Nat → Int) (h : Int) : Nat → Int := z_set (z_set (z_set (z_set e 0 h) 1 (-1)) 2 0) 3 (-1)
def z_tip (e : Nat → Int) : Nat → Int := z_set (z_lie e (e 0)) 4 (max 0 (e 4 - 5))
def z_off (A : Nat → Int) (L : x_L) (e : Nat → Int) (h p : Int) : Nat → Int := z_set (z_set (z_set e 2 (z_hard A L e (e 0) h p)) 1 h) 3 p
def z_can (A e : Nat → Int) (h p : Int) : Prop := e 2 = 0 ∧ 0 ≤ p ∧ p < A 1 ∧ 0 < z_ln A (e 0) h
def z_cb (A e : Nat → Int) (h p : Int) : Bool := decide (e 2 = 0 ∧ 0 ≤ p ∧ p < A 1 ∧ 0 < z_ln A (e 0) h)
theorem z_cb_i {A e : Nat → Int} {h p : Int} : z_cb A e h p = true ↔ z_can A e h p := by unfold z_cb z_can; exact decide_eq_true_iff
def z_rl (A e : Nat → Int) : Int := max 0 (e 2 - z_sg A (e 3))
def z_rw (A : Nat → Int) (L : x_L) (e : Nat → Int) : Int := max 0 (e 4 - z_wear A L (z_set e 2 (z_rl A e)))
def z_roll (A : Nat → Int) (L : x_L) (e : Nat → Int) : Nat → Int := if e 2 ≤ 0 then e
  else if z_rl A e = 0 then z_lie (z_set (z_set e 2 (z_rl A e)) 4 (z_rw A L e)) (e 1)
  else if z_rw A L e = 0 then z_set (z_set (z_set e 2 (z_rl A e)) 4 (z_rw A L e)) 2 (min 9999 (z_rl A e + 5))
  else z_set (z_set e 2 (z_rl A e)) 4 (z_rw A L e)
def z_bn (e : Nat → Int) : Int := if e 23 = 30 then 29 else e 23
def z_bs (e : Nat → Int) : Nat → Int := if e 23 = 30 then (fun j => if 24 ≤ j ∧ j < 111 then e (j + 3) else e j) else e
def z_bk (e : Nat → Int) (h : Nat) (p : Int) : Nat → Int := z_set (z_set (z_set (z_set (z_bs e) (24 + 3 * (z_bn e).toNat) (e 5)) (24 + (3 * (z_bn e).toNat + 1)) h) (24 + (3 * (z_bn e).toNat + 2)) p) 23 (z_bn e + 1)
def z_pu (A : Nat → Int) (L : x_L) (e : Nat → Int) (h : Nat) : Int := z_hd (e (7 + h) + z_earn A L e h) (-999) 9999
def z_dt (A : Nat → Int) (L : x_L) (e : Nat → Int) (h : Nat) : Bool := decide (z_pu A L e h < 0 ∧ 0 ≤ e (7 + h))
def z_pl (A e : Nat → Int) (h : Nat) : Int := if z_hour A (e 0) h = 12 then 0 else min 99 (e (15 + h) + 1)
def z_fall (A : Nat → Int) (L : x_L) (e : Nat → Int) (h : Nat) : Nat → Int := z_set (z_set (if z_dt A L e h = true then z_bk e h (-(z_pu A L e h)) else e) (7 + h) (z_pu A L e h)) (15 + h) (z_pl A e h)
def z_fd (A : Nat → Int) (L : x_L) (e : Nat → Int) : Nat → Nat → Int
  | 0 => e
  | h + 1 => z_fall A L (z_fd A L e h) h
def z_fc (A : Nat → Int) (L : x_L) (e : Nat → Int) : Nat → Int
  | 0 => 0
  | h + 1 => z_fc A L e h + if z_dt A L (z_fd A L e h) h = true then 1 else 0
def z_pd (A : Nat → Int) (L : x_L) (e : Nat → Int) : Nat → Int := z_set (z_fd A L (z_roll A L e) (A 0).toNat) 5 (z_fd A L (z_roll A L e) (A 0).toNat 5 + 1)
def z_pc (A : Nat → Int) (L : x_L) (e : Nat → Int) : Int := z_fc A L (z_roll A L e) (A 0).toNat
def z_dx (e : Nat → Int) : Nat → Int := z_set e 6 ((e 6 * 283 + 193) % 30313)
def z_ho (A : Nat → Int) (L : x_L) (e : Nat → Int) : Nat → Int := if A 1 = 0 then e
  else if z_cb A (z_dx (z_dx e)) (e 6 % A 0) (z_dx e 6 % A 1) = true then z_off A L (z_dx (z_dx e)) (e 6 % A 0) (z_dx e 6 % A 1) else z_dx (z_dx e)
def z_hap (A : Nat → Int) (L : x_L) (e : Nat → Int) : Nat → Int := if e 6 % 6 = 0 ∨ e 6 % 6 = 1 then z_ho A L (z_dx e)
  else if e 6 % 6 = 2 then (if z_dx e 2 ≤ 0 then z_dx e else z_tip (z_dx e))
  else if e 6 % 6 = 3 then z_set (z_dx e) 4 99
  else if 9999 ≤ z_dx e 5 then z_dx e else z_pd A L (z_dx e)
/-! bounds -/
theorem z_hd_b {v lo hi : Int} (h : lo ≤ hi) : lo ≤ z_hd v lo hi ∧ z_hd v lo hi ≤ hi := by unfold z_hd; omega
theorem z_lk_b {A : Nat → Int} (h : w_A A) (k : Nat) : 0 ≤ z_lk A k ∧ z_lk A k ≤ 9 := by
  unfold z_lk
  split
  · exact h.2.2.2.2.1 k (by omega)
  · omega
theorem z_W_b {A : Nat → Int} (h : w_A A) (i j : Nat) : 0 ≤ z_W A i j ∧ z_W A i j ≤ 99 := z_fw_nn (z_lk_b h) 8 i j
theorem z_W_sy {A : Nat → Int} (h : w_A A) {i j : Nat} (hi : i < 8) (hj : j < 8) : z_W A i j = z_W A j i := by
  refine z_fw_sy (fun i j hi hj => ?_) 8 (by omega) i j hi hj
  unfold z_lk
  rw [if_pos (by omega), if_pos (by omega)]
  exact (h.2.2.2.2.2.1 i j hi hj).1
theorem z_far_b {A : Nat → Int} (h : w_A A) (x y : Int) : 0 ≤ z_far A x y ∧ z_far A x y ≤ 99 := by
  unfold z_far
  split
  · exact z_W_b h _ _
  · omega
theorem z_far_sy {A : Nat → Int} (h : w_A A) (x y : Int) : z_far A x y = z_far A y x := by
  have h0 := h.1
  unfold z_far
  by_cases q : 0 ≤ x ∧ x < A 0 ∧ 0 ≤ y ∧ y < A 0
  · rw [if_pos q, if_pos (by omega), z_W_sy h (by omega) (by omega)]
  · rw [if_neg q, if_neg (by omega)]
theorem z_hour_b (A : Nat → Int) (x y : Int) : 0 ≤ z_hour A x y ∧ z_hour A x y ≤ 23 := by
  unfold z_hour
  split <;> exact z_hd_b (by omega)
theorem z_ln_b {A : Nat → Int} (h : w_A A) (x y : Int) : 0 ≤ z_ln A x y ∧ z_ln A x y ≤ 9 := by
  have h0 := h.1
  unfold z_ln
  split
  · exact h.2.2.2.2.1 _ (by omega)
  · omega
theorem z_hl_b {A : Nat → Int} (h : w_A A) (x : Int) : 0 ≤ z_hl A x ∧ z_hl A x ≤ 9 := by
  have h0 := h.1
  unfold z_hl
  split
  · exact h.2.1 _ (by omega)
  · omega
theorem z_sg_b {A : Nat → Int} (h : w_A A) (x : Int) : 0 ≤ z_sg A x ∧ z_sg A x ≤ 9 := by
  have h0 := h.1
  unfold z_sg
  split
  · exact h.2.2.1 _ (by omega)
  · omega
theorem z_hard_b {A : Nat → Int} (h : w_A A) (L : x_L) (e : Nat → Int) (x y p : Int) : 1 ≤ z_hard A L e x y p ∧ z_hard A L e x y p ≤ 999 := by
  have h1 := z_ln_b h x y
  have h2 := z_hl_b h x
  have h3 := z_hl_b h y
  unfold z_hard
  split
  · omega
  · exact z_hd_b (by omega)
theorem z_wear_b (A : Nat → Int) (L : x_L) (e : Nat → Int) : 0 ≤ z_wear A L e ∧ z_wear A L e ≤ 99 := by
  unfold z_wear
  split
  · omega
  · exact z_hd_b (by omega)
theorem z_earn_b (A : Nat → Int) (L : x_L) (e : Nat → Int) (h : Nat) : -99 ≤ z_earn A L e h ∧ z_earn A L e h ≤ 99 := by
  have h1 := z_hour_b A (e 0) h
  unfold z_earn
  split
  · unfold z_ab; omega
  · exact z_hd_b (by omega)
theorem z_warm_b {A : Nat → Int} (h : w_A A) (L : x_L) (e : Nat → Int) (x y : Int) : 0 ≤ z_warm A L e x y ∧ z_warm A L e x y ≤ 99 := by
  have h1 := z_far_b h x y
  unfold z_warm
  split
  · omega
  · exact z_hd_b (by omega)
/-! what holds of every day stays -/
theorem wD_lie {A e : Nat → Int} (w : w_D A e) {l u h : Int} (hu : 0 ≤ u ∧ u ≤ 99) (hh : 0 ≤ h ∧ (h = 0 ∨ h < A 0)) : w_D A (z_lie (z_set (z_set e 2 l) 4 u) h) := by
  obtain ⟨a1, a2, a3, a4, a5, a6, a7, a8, a9, a10⟩ := w
  simp only [w_D, z_lie, z_set, reduceIte, Nat.reduceEqDiff]
  refine ⟨by omega, by omega, by omega, by first | omega | simp, by omega, by omega, by omega, fun h hh => ?_, fun h hh => ?_, by omega⟩
  · have := a8 h hh; grind
  · have := a9 h hh; grind
theorem wD_4 {A e : Nat → Int} (w : w_D A e) {u : Int} (hu : 0 ≤ u ∧ u ≤ 99) : w_D A (z_set e 4 u) := by
  obtain ⟨a1, a2, a3, a4, a5, a6, a7, a8, a9, a10⟩ := w
  simp only [w_D, z_set, reduceIte, Nat.reduceEqDiff]
  refine ⟨by omega, by omega, by omega, by omega, by omega, by omega, by omega, fun h hh => ?_, fun h hh => ?_, by omega⟩
  · have := a8 h hh; grind
  · have := a9 h hh; grind
theorem wD_5 {A e : Nat → Int} (w : w_D A e) {u : Int} (hu : 0 ≤ u ∧ u ≤ 9999) : w_D A (z_set e 5 u) := by
  obtain ⟨a1, a2, a3, a4, a5, a6, a7, a8, a9, a10⟩ := w
  simp only [w_D, z_set, reduceIte, Nat.reduceEqDiff]
  refine ⟨by omega, by omega, by omega, by omega, by omega, by omega, by omega, fun h hh => ?_, fun h hh => ?_, by omega⟩
  · have := a8 h hh; grind
  · have := a9 h hh; grind
theorem wD_6 {A e : Nat → Int} (w : w_D A e) {u : Int} (hu : 0 ≤ u ∧ u < 30313) : w_D A (z_set e 6 u) := by
  obtain ⟨a1, a2, a3, a4, a5, a6, a7, a8, a9, a10⟩ := w
  simp only [w_D, z_set, reduceIte, Nat.reduceEqDiff]
  refine ⟨by omega, by omega, by omega, by omega, by omega, by omega, by omega, fun h hh => ?_, fun h hh => ?_, by omega⟩
  · have := a8 h hh; grind
  · have := a9 h hh; grind
theorem wD_2 {A e : Nat → Int} (w : w_D A e) {u : Int} (h2 : 0 < e 2) (hu : 0 < u ∧ u ≤ 9999) : w_D A (z_set e 2 u) := by
  obtain ⟨a1, a2, a3, a4, a5, a6, a7, a8, a9, a10⟩ := w
  simp only [w_D, z_set, reduceIte, Nat.reduceEqDiff]
  refine ⟨by omega, by omega, by omega, by omega, by omega, by omega, by omega, fun h hh => ?_, fun h hh => ?_, by omega⟩
  · have := a8 h hh; grind
  · have := a9 h hh; grind
theorem wD_7 {A e : Nat → Int} (w : w_D A e) {k : Nat} (hk : k < 8) {u : Int} (hu : -999 ≤ u ∧ u ≤ 9999) : w_D A (z_set e (7 + k) u) := by
  obtain ⟨a1, a2, a3, a4, a5, a6, a7, a8, a9, a10⟩ := w
  simp only [w_D, z_set]
  refine ⟨?_, ?_, ?_, ?_, ?_, ?_, ?_, fun h hh => ?_, fun h hh => ?_, ?_⟩ <;> grind
theorem wD_15 {A e : Nat → Int} (w : w_D A e) {k : Nat} (hk : k < 8) {u : Int} (hu : 0 ≤ u ∧ u ≤ 99) : w_D A (z_set e (15 + k) u) := by
  obtain ⟨a1, a2, a3, a4, a5, a6, a7, a8, a9, a10⟩ := w
  simp only [w_D, z_set]
  refine ⟨?_, ?_, ?_, ?_, ?_, ?_, ?_, fun h hh => ?_, fun h hh => ?_, ?_⟩ <;> grind
theorem wD_off {A e : Nat → Int} (wA : w_A A) (w : w_D A e) {L : x_L} {h p : Int} (hc : z_can A e h p) : w_D A (z_off A L e h p) := by
  have hb := z_hard_b wA L e (e 0) h p
  obtain ⟨a1, a2, a3, a4, a5, a6, a7, a8, a9, a10⟩ := w
  have hl := hc.2.2.2
  have hc3 := hc.2.2.1
  have hc2 := hc.2.1
  have h8 : 0 ≤ e 0 ∧ e 0 < A 0 ∧ 0 ≤ h ∧ h < A 0 := by
    unfold z_ln at hl
    by_cases q : 0 ≤ e 0 ∧ e 0 < A 0 ∧ 0 ≤ h ∧ h < A 0
    · exact q
    · rw [if_neg q] at hl; omega
  simp only [w_D, z_off, z_set, reduceIte, Nat.reduceEqDiff]
  refine ⟨by omega, by omega, by omega, by omega, by omega, by omega, by omega, fun h hh => ?_, fun h hh => ?_, by omega⟩
  · have := a8 h hh; grind
  · have := a9 h hh; grind
theorem wD_tip {A e : Nat → Int} (w : w_D A e) : w_D A (z_tip e) := by
  have h := wD_lie w (l := 0) (u := max 0 (e 4 - 5)) (h := e 0) (by have := w.2.2.2.2.1; omega) w.1
  have : z_tip e = z_lie (z_set (z_set e 2 0) 4 (max 0 (e 4 - 5))) (e 0) := by
    funext j
    simp only [z_tip, z_lie, z_set]
    grind
  rw [this]
  exact h
theorem wD_roll {A e : Nat → Int} (wA : w_A A) (w : w_D A e) (L : x_L) : w_D A (z_roll A L e) := by
  have hs := z_sg_b wA (e 3)
  have hw := z_wear_b A L (z_set e 2 (z_rl A e))
  have h4 := w.2.2.2.2.1
  have h2 := w.2.1
  have h3 := w.2.2.1
  have hrl : 0 ≤ z_rl A e ∧ z_rl A e ≤ 9999 := by unfold z_rl; omega
  have hrw : 0 ≤ z_rw A L e ∧ z_rw A L e ≤ 99 := by unfold z_rw; omega
  unfold z_roll
  split
  · exact w
  · split
    · exact wD_lie w hrw (by omega)
    · have w2 : w_D A (z_set (z_set e 2 (z_rl A e)) 4 (z_rw A L e)) := wD_4 (wD_2 w (by omega) (by omega)) hrw
      split
      · refine wD_2 w2 ?_ (by omega)
        simp only [z_set, reduceIte, Nat.reduceEqDiff]
        omega
      · exact w2
theorem wD_bk {A e : Nat → Int} (w : w_D A e) (h : Nat) (p : Int) : w_D A (z_bk e h p) := by
  obtain ⟨a1, a2, a3, a4, a5, a6, a7, a8, a9, a10⟩ := w
  have hn : 0 ≤ z_bn e ∧ z_bn e ≤ 29 := by unfold z_bn; split <;> omega
  have hs : ∀ j, j < 24 → z_bs e j = e j := by
    intro j hj
    unfold z_bs
    split
    · simp only []
      rw [if_neg (by omega)]
    · rfl
  have hk : ∀ j, j < 23 → z_bk e h p j = e j := by
    intro j hj
    rw [← hs j (by omega)]
    unfold z_bk z_set
    rw [if_neg (by omega), if_neg (by omega), if_neg (by omega), if_neg (by omega)]
  have h23 : z_bk e h p 23 = z_bn e + 1 := by unfold z_bk z_set; rw [if_pos rfl]
  simp only [w_D]
  rw [hk 0 (by omega), hk 1 (by omega), hk 2 (by omega), hk 3 (by omega), hk 4 (by omega), hk 5 (by omega), hk 6 (by omega), h23]
  refine ⟨a1, a2, a3, a4, a5, a6, a7, fun h hh => ?_, fun h hh => ?_, by omega⟩
  · rw [hk _ (by omega)]; exact a8 h hh
  · rw [hk _ (by omega)]; exact a9 h hh
theorem wD_fall {A e : Nat → Int} (w : w_D A e) (L : x_L) {h : Nat} (hh : h < 8) : w_D A (z_fall A L e h) := by
  have h9 := w.2.2.2.2.2.2.2.2.1 h hh
  unfold z_fall
  refine wD_15 (wD_7 ?_ hh (z_hd_b (by omega))) hh ?_
  · split
    · exact wD_bk w _ _
    · exact w
  · unfold z_pl
    split <;> omega
theorem wD_fd {A e : Nat → Int} (w : w_D A e) (L : x_L) : ∀ h, h ≤ 8 → w_D A (z_fd A L e h) := by
  intro h
  induction h with
  | zero => intro _; exact w
  | succ h ih => intro hh; exact wD_fall (ih (by omega)) L (by omega)
theorem z_bk_lt {e : Nat → Int} {h : Nat} {p : Int} {j : Nat} (hj : j < 23) : z_bk e h p j = e j := by
  unfold z_bk z_set z_bs
  rw [if_neg (by omega), if_neg (by omega), if_neg (by omega), if_neg (by omega)]
  split
  · simp only []
    rw [if_neg (by omega)]
  · rfl
theorem z_fall_lt {A e : Nat → Int} {L : x_L} {h j : Nat} (hj : j < 7) : z_fall A L e h j = e j := by
  unfold z_fall
  rw [z_set_e, z_set_e, if_neg (by omega), if_neg (by omega)]
  split
  · exact z_bk_lt (by omega)
  · rfl
theorem z_fd_lt {A e : Nat → Int} {L : x_L} {j : Nat} (hj : j < 7) : ∀ h, z_fd A L e h j = e j := by
  intro h
  induction h with
  | zero => rfl
  | succ h ih => rw [z_fd, z_fall_lt hj, ih]
theorem z_roll_5 {A e : Nat → Int} {L : x_L} : z_roll A L e 5 = e 5 := by
  unfold z_roll z_lie z_set
  grind
theorem z_roll_ge {A e : Nat → Int} {L : x_L} {j : Nat} (hj : 5 ≤ j) : z_roll A L e j = e j := by
  unfold z_roll z_lie z_set
  grind
theorem wD_pd {A e : Nat → Int} (wA : w_A A) (w : w_D A e) (L : x_L) (h5 : e 5 < 9999) : w_D A (z_pd A L e) := by
  have h0 := wA.1
  have h6 := w.2.2.2.2.2.1
  refine wD_5 (wD_fd (wD_roll wA w L) L _ (by omega)) ?_
  rw [z_fd_lt (by omega), z_roll_5]
  omega
theorem z_pd_5 {A e : Nat → Int} {L : x_L} : z_pd A L e 5 = e 5 + 1 := by
  unfold z_pd
  rw [z_set_e, if_pos rfl, z_fd_lt (by omega), z_roll_5]
theorem wD_dx {A e : Nat → Int} (w : w_D A e) : w_D A (z_dx e) := wD_6 w (by omega)
theorem wD_hap {A e : Nat → Int} (wA : w_A A) (w : w_D A e) (L : x_L) : w_D A (z_hap A L e) := by
  unfold z_hap
  split
  · unfold z_ho
    split
    · exact wD_dx w
    · split
      · rename_i q; exact wD_off wA (wD_dx (wD_dx (wD_dx w))) (z_cb_i.mp q)
      · exact wD_dx (wD_dx (wD_dx w))
  · split
    · split
      · exact wD_dx w
      · exact wD_tip (wD_dx w)
    · split
      · exact wD_4 (wD_dx w) (by omega)
      · split
        · exact wD_dx w
        · exact wD_pd wA (wD_dx w) L (by omega)
