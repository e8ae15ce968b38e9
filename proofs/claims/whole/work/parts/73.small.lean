/-! long numbers -/
theorem l_i (x : Int32) : x.toInt64.toInt = x.toInt := Int32.toInt_toInt64 x
theorem l_lt {x y : Int64} : x < y ↔ x.toInt < y.toInt := Int64.lt_iff_toInt_lt
theorem l_eq {x y : Int64} : x = y ↔ x.toInt = y.toInt := Int64.toInt_inj.symm
theorem l_cge {x y : Int64} : 0 ≤ lg_cmp x y ↔ y.toInt ≤ x.toInt := by
  unfold lg_cmp
  by_cases h : x > y
  · have h1 : y.toInt < x.toInt := l_lt.mp h
    rw [if_pos h]
    exact ⟨fun _ => by omega, fun _ => by decide⟩
  · have h1 : ¬ y.toInt < x.toInt := fun z => h (l_lt.mpr z)
    rw [if_neg h]
    by_cases h2 : x = y
    · rw [if_pos h2, h2]; exact ⟨fun _ => by omega, fun _ => by decide⟩
    · have h3 : ¬ x.toInt = y.toInt := fun z => h2 (l_eq.mpr z)
      rw [if_neg h2]
      exact ⟨fun q => absurd q (by decide), fun q => by omega⟩
theorem l_cle {x y : Int64} : lg_cmp x y ≤ 0 ↔ x.toInt ≤ y.toInt := by
  unfold lg_cmp
  by_cases h : x > y
  · have h1 : y.toInt < x.toInt := l_lt.mp h
    rw [if_pos h]
    exact ⟨fun q => absurd q (by decide), fun q => by omega⟩
  · have h1 : ¬ y.toInt < x.toInt := fun z => h (l_lt.mpr z)
    rw [if_neg h]
    by_cases h2 : x = y
    · rw [if_pos h2, h2]; exact ⟨fun _ => by omega, fun _ => by decide⟩
    · rw [if_neg h2]
      exact ⟨fun _ => by omega, fun _ => by decide⟩
/-- between a least and a most -/
def z_hd (v lo hi : Int) : Int := if v < lo then lo else if hi < v then hi else v
theorem m_held {d : Nat} {w : Int64} {lo hi : Int32} {τ : x_T} {K : x_T → Int32 → Prop} (hlh : lo.toInt ≤ hi.toInt) (h : ∀ v : Int32, v.toInt = z_hd w.toInt lo.toInt hi.toInt → K τ v) : x_CI d mX12_held [.long w, .int lo, .int hi] τ K := by
  have hlo := z_bd lo
  have hhi := z_bd hi
  refine e_X12_held ⟨fun q => ⟨fun r => h _ ?_, fun r => h _ ?_⟩, fun q => h _ ?_⟩
  · rw [l_cge, l_i] at q
    rw [l_cle, l_i] at r
    rw [Int64.toInt_toInt32, z_bm (by omega)]
    unfold z_hd
    rw [if_neg (by omega), if_neg (by omega)]
  · rw [l_cge, l_i] at q
    rw [l_cle, l_i] at r
    unfold z_hd
    rw [if_neg (by omega), if_pos (by omega)]
  · rw [l_cge, l_i] at q
    unfold z_hd
    rw [if_pos (by omega)]
/-- the hour of house i when noon is at b, w apart -/
def z_hr (i b : Nat) (w : Int) : Int := if b < i then z_hd (12 + w) 0 23 else z_hd (12 - w) 0 23
theorem z_12 : (12 : Int32).toInt = 12 := by decide
theorem m_hourAt {d i b : Nat} {τ : x_T} {K : x_T → Int32 → Prop} (hi : i < 8) (hb : b < 8) (hw : 0 ≤ x_z τ 369 (8 * i + b) ∧ x_z τ 369 (8 * i + b) ≤ 99) (h : ∀ v : Int32, v.toInt = z_hr i b (x_z τ 369 (8 * i + b)) → K τ v) : x_CI (d + 1 + 1) mX12_hourAt [.ref 345, .int (nI i), .int (nI b)] τ K := by
  have e8 : (8 : Int32) = nI 8 := rfl
  unfold x_z at hw h
  refine e_X12_hourAt ?_
  rw [e8, n_mul, n_add, nI_clamp (by omega)]
  refine ⟨vp_in_nI (by omega) (by decide), e_X12_hourBy ⟨fun q => k_X12_hourBy_18 (m_held (by decide) (fun v hv => h v ?_)), fun q => k_X12_hourBy_18 (m_held (by decide) (fun v hv => h v ?_))⟩⟩
  · rw [z_lt, z_n (by omega), z_n (by omega)] at q
    rw [hv, l_i, z_add (by rw [z_12]; omega), z_12]
    unfold z_hr
    rw [if_pos (by omega)]
    rfl
  · rw [z_lt, z_n (by omega), z_n (by omega)] at q
    rw [hv, l_i, z_sub (by rw [z_12]; omega), z_12]
    unfold z_hr
    rw [if_neg (by omega)]
    rfl
theorem c_isHouse {d : Nat} {a : Int32} {τ : x_T} {K : x_T → Int32 → Prop} (hn : 0 ≤ x_z τ 1 0 ∧ x_z τ 1 0 ≤ 8) (h : K τ (z_b (decide (0 ≤ a.toInt ∧ a.toInt < x_z τ 1 0)))) : x_CI d mX3_isHouse [.ref 1, .int a] τ K := by
  unfold x_z at hn h
  have e0 : (0 : Int32).toInt = 0 := by decide
  have e8 : (8 : Int32).toInt = 8 := by decide
  refine e_X3_isHouse ⟨fun q => ?_, fun q => ⟨fun r => ?_, fun r => ⟨fun s => ?_, fun s => ?_⟩⟩⟩
  · rw [z_lt, e0] at q; rw [decide_eq_false (by omega)] at h; exact h
  · rw [z_le] at r; rw [decide_eq_false (by omega)] at h; exact h
  · rw [z_lt, e0] at q; rw [z_le] at r; rw [z_le, e8] at s; omega
  · rw [z_lt, e0] at q; rw [z_le] at r; rw [decide_eq_true (by omega)] at h; exact h
theorem c_isPusher {d : Nat} {a : Int32} {τ : x_T} {K : x_T → Int32 → Prop} (hn : 0 ≤ x_z τ 1 1 ∧ x_z τ 1 1 ≤ 4) (h : K τ (z_b (decide (0 ≤ a.toInt ∧ a.toInt < x_z τ 1 1)))) : x_CI d mX3_isPusher [.ref 1, .int a] τ K := by
  unfold x_z at hn h
  have e0 : (0 : Int32).toInt = 0 := by decide
  have e4 : (4 : Int32).toInt = 4 := by decide
  refine e_X3_isPusher ⟨fun q => ?_, fun q => ⟨fun r => ?_, fun r => ⟨fun s => ?_, fun s => ?_⟩⟩⟩
  · rw [z_lt, e0] at q; rw [decide_eq_false (by omega)] at h; exact h
  · rw [z_le] at r; rw [decide_eq_false (by omega)] at h; exact h
  · rw [z_lt, e0] at q; rw [z_le] at r; rw [z_le, e4] at s; omega
  · rw [z_lt, e0] at q; rw [z_le] at r; rw [decide_eq_true (by omega)] at h; exact h
/-- the way between two houses -/
theorem c_wayBetween {d i j : Nat} {τ : x_T} {K : x_T → Int32 → Prop} (hn : x_z τ 1 0 ≤ 8) (hi : (i : Int) < x_z τ 1 0) (hj : (j : Int) < x_z τ 1 0) (h : K τ (τ.1 6 (8 * i + j))) : x_CI d mX3_wayBetween [.ref 1, .int (nI i), .int (nI j)] τ K := by
  unfold x_z at hn hi hj
  have e8 : (8 : Int32) = nI 8 := rfl
  have z8 : (8 : Int32).toInt = 8 := by decide
  have zi : (nI i).toInt = i := z_n (by omega)
  have zj : (nI j).toInt = j := z_n (by omega)
  refine e_X3_wayBetween ⟨fun q => absurd q (nI_pos (by omega)), fun _ => ⟨fun q => ?_, fun _ => ⟨fun q => ?_, fun _ => ⟨fun q => absurd q (nI_pos (by omega)), fun _ => ⟨fun q => ?_, fun _ => ⟨fun _ => ?_, fun q => ?_⟩⟩⟩⟩⟩⟩
  · rw [z_le, zi] at q; omega
  · rw [z_le, zi, z8] at q; omega
  · rw [z_le, zj] at q; omega
  · rw [e8, n_mul, n_add, Nat.mul_comm i 8, nI_clamp (by omega)]
    exact ⟨vp_in_nI (by omega) (by decide), h⟩
  · exfalso; apply q; rw [z_lt, zj, z8]; omega
theorem c_hourBy {d i b : Nat} {τ : x_T} {K : x_T → Int32 → Prop} (hn : x_z τ 1 0 ≤ 8) (hi : (i : Int) < x_z τ 1 0) (hb : (b : Int) < x_z τ 1 0) (hw : 0 ≤ x_z τ 6 (8 * b + i) ∧ x_z τ 6 (8 * b + i) ≤ 99) (h : ∀ v : Int32, v.toInt = z_hr i b (x_z τ 6 (8 * b + i)) → K τ v) : x_CI (d + 1) mX3_hourBy [.ref 1, .int (nI b), .int (nI i)] τ K := by
  have z23 : (23 : Int32).toInt = 23 := by decide
  have z0 : (0 : Int32).toInt = 0 := by decide
  refine e_X3_hourBy (c_wayBetween hn hb hi ⟨fun q y3 e3 => h y3 ?_, fun q y4 e4 => h y4 ?_⟩)
  · unfold x_z at hw ⊢
    unfold x_z at hn hi hb
    have hp : (12 + τ.1 6 (8 * b + i)).toInt = 12 + (τ.1 6 (8 * b + i)).toInt := by rw [z_add (by rw [z_12]; omega), z_12]
    rw [z_lt, z_n (by omega), z_n (by omega)] at q
    unfold z_hr z_hd
    rw [if_pos (by omega), e3]
    by_cases hc : 12 + τ.1 6 (8 * b + i) < 23
    · rw [if_pos hc, hp]
      rw [z_lt, hp, z23] at hc
      rw [if_neg (by omega), if_neg (by omega)]
    · rw [if_neg hc, z23]
      rw [z_lt, hp, z23] at hc
      rw [if_neg (by omega)]
      split <;> omega
  · unfold x_z at hw ⊢
    unfold x_z at hn hi hb
    have hp : (12 - τ.1 6 (8 * b + i)).toInt = 12 - (τ.1 6 (8 * b + i)).toInt := by rw [z_sub (by rw [z_12]; omega), z_12]
    rw [z_lt, z_n (by omega), z_n (by omega)] at q
    unfold z_hr z_hd
    rw [if_neg (by omega), e4]
    by_cases hc : 0 < 12 - τ.1 6 (8 * b + i)
    · rw [if_pos hc, hp]
      rw [z_lt, hp, z0] at hc
      rw [if_neg (by omega), if_neg (by omega)]
    · rw [if_neg hc, z0]
      rw [z_lt, hp, z0] at hc
      split
      · rfl
      · rw [if_neg (by omega)]; omega
