/-! feed -/
def y_cb (v : Int32) (j : Nat) : Int32 := ((v.toUInt32 >>> ((nI (24 - 8 * j)).toUInt32 &&& Int32.toUInt32 31)).toInt32) &&& 255
def y_mb (v : Int32) (j : Nat) : Int32 := vp_nar .byte ((v >>> (nI (24 - 8 * j) &&& 31)).toInt8.toInt32)
theorem yb_shr (v s : Int32) : (v >>> s).toInt = v.toInt / ((2 ^ (s.toBitVec.smod 32).toNat : Nat) : Int) := by
  have : (v >>> s).toInt = v.toInt >>> (s.toBitVec.smod 32).toNat := BitVec.toInt_sshiftRight'
  rw [this, Int.shiftRight_eq_div_pow]
theorem yb_255 (x : UInt32) : (x.toInt32 &&& 255).toInt = ((x.toNat % 256 : Nat) : Int) := by
  have h : (x.toBitVec &&& 255#32).toNat = x.toNat % 256 := by
    rw [BitVec.toNat_and]
    exact Nat.and_two_pow_sub_one_eq_mod x.toNat 8
  show (x.toBitVec &&& 255#32).toInt = _
  rw [BitVec.toInt_eq_toNat_of_lt (by rw [h]; omega), h]
theorem yb_un (v : Int32) : v.toInt = if 2 * v.toUInt32.toNat < 2 ^ 32 then (v.toUInt32.toNat : Int) else (v.toUInt32.toNat : Int) - ((2 ^ 32 : Nat) : Int) := BitVec.toInt_eq_toNat_cond v.toBitVec
theorem yb_nar (x : Int32) : (vp_nar .byte (x.toInt8.toInt32)).toInt = x.toInt.bmod 256 := by
  show (x.toInt8.toInt32.toInt8.toInt32).toInt = _
  rw [Int8.toInt_toInt32, Int32.toInt_toInt8, Int8.toInt_toInt32, Int32.toInt_toInt8]
  exact Int.bmod_bmod
theorem y_b (v : Int32) {j : Nat} (hj : j < 4) : (y_cb v j).toInt = (y_mb v j).toInt % 256 ∧ -128 ≤ (y_mb v j).toInt ∧ (y_mb v j).toInt < 128 := by
  have h1 := yb_un v
  have h2 : v.toUInt32.toNat < 4294967296 := v.toUInt32.toNat_lt
  have key : ∀ n : Nat, ((nI (24 - 8 * j) &&& 31).toBitVec.smod 32).toNat = n → ((nI (24 - 8 * j)).toUInt32 &&& Int32.toUInt32 31).toNat % 32 = n → (y_mb v j).toInt = (v.toInt / ((2 ^ n : Nat) : Int)).bmod 256 ∧ (y_cb v j).toInt = ((v.toUInt32.toNat / 2 ^ n % 256 : Nat) : Int) := by
    intro n e1 e2
    refine ⟨?_, ?_⟩
    · rw [y_mb, yb_nar, yb_shr, e1]
    · rw [y_cb, yb_255, UInt32.toNat_shiftRight, e2, Nat.shiftRight_eq_div_pow]
  have : j = 0 ∨ j = 1 ∨ j = 2 ∨ j = 3 := by omega
  rcases this with rfl | rfl | rfl | rfl
  · obtain ⟨k1, k2⟩ := key 24 (by decide) (by decide)
    rw [k1, k2, Int.bmod_def]
    split at h1 <;> split <;> omega
  · obtain ⟨k1, k2⟩ := key 16 (by decide) (by decide)
    rw [k1, k2, Int.bmod_def]
    split at h1 <;> split <;> omega
  · obtain ⟨k1, k2⟩ := key 8 (by decide) (by decide)
    rw [k1, k2, Int.bmod_def]
    split at h1 <;> split <;> omega
  · obtain ⟨k1, k2⟩ := key 0 (by decide) (by decide)
    rw [k1, k2, Int.bmod_def]
    split at h1 <;> split <;> omega
def y_rc (τ σ : x_T) (n m : Nat) (f : Nat → Int32) : Prop := x_fr (fun c => c = 314 ∨ c = 315) τ σ ∧ (σ.1 314 1).toInt = (n + m : Nat) ∧ ∀ k, σ.1 315 k = if n ≤ k ∧ k < n + m then f (k - n) else τ.1 315 k
def y_rm (τ σ : x_T) (n m : Nat) (f : Nat → Int32) : Prop := x_fr (fun c => c = 345 ∨ c = 348) τ σ ∧ (∀ k, ¬ k = 3 → σ.1 345 k = τ.1 345 k) ∧ (σ.1 345 3).toInt = (n + m : Nat) ∧ ∀ k, σ.1 348 k = if n ≤ k ∧ k < n + m then f (k - n) else τ.1 348 k
theorem cl_addFour {d n m : Nat} {v : Int32} {τ σ : x_T} {f : Nat → Int32} {K : x_T → Prop} (h : y_rc τ σ n m f) (hn : n + m + 4 ≤ 300) (hf : ∀ j, j < 4 → f (m + j) = y_cb v j) (hK : ∀ ρ, y_rc τ ρ n (m + 4) f → K ρ) : x_CV d mX8_addFour [.ref 314, .int v] σ K := by
  refine e_X8_addFour ?_
  have loop : ∀ j, j ≤ 4 → (fun j => ∀ (ρ : x_T) (s : Int32), y_rc τ ρ n (m + j) f → s.toInt = 24 - 8 * (j : Int) → x_WV d mX8_addFour K 3 [(0, .ref 314), (1, .int v), (2, .int s)] [] ρ) j := by
    refine z_down ?_ ?_
    · intro ρ s hr hs
      exact k_X8_addFour_3 ⟨fun _ => hK ρ hr, fun q => absurd (by rw [z_lt, hs]; simp only [Int32.reduceToInt]; omega) q⟩
    · intro j hj ih ρ s hr hs
      have es : s = nI (24 - 8 * j) := z_of (by omega) (by omega)
      have r1 := hr.2.1
      refine k_X8_addFour_3 ⟨fun q => ?_, fun _ => ⟨fun q => ?_, fun _ => ⟨fun q => ?_, fun _ => ⟨ix_n (by omega), fun t1 e1 t2 e2 => k_X8_addFour_50 (fun y1 ey => ih t2 y1 ?_ ?_)⟩⟩⟩⟩
      · rw [z_lt, hs] at q; simp only [Int32.reduceToInt] at q; omega
      · rw [z_lt, r1] at q; simp only [Int32.reduceToInt] at q; omega
      · rw [z_le, r1] at q; simp only [Int32.reduceToInt] at q; omega
      · have c1 : (ρ.1 314 1).toNatClampNeg = n + (m + j) := by rw [z_cl, r1]; omega
        rw [c1, es] at e1
        have t14 : t1.1 314 1 = ρ.1 314 1 := by rw [e1, w1_at, if_neg (by omega)]
        refine ⟨?_, ?_, fun k => ?_⟩
        · rw [e2, e1]; exact fr_w (fr_w hr.1 (Or.inr rfl)) (Or.inl rfl)
        · rw [e2, w1_at, if_pos ⟨rfl, rfl⟩, t14, z_add (by rw [r1]; simp only [Int32.reduceToInt]; omega), r1]; simp only [Int32.reduceToInt]; omega
        · rw [e2, w1_at, if_neg (by omega), e1, w1_at, hr.2.2 k]
          by_cases q : k = n + (m + j)
          · rw [if_pos ⟨rfl, q⟩, if_pos (by omega), show k - n = m + j by omega, hf j hj]; rfl
          · rw [if_neg (fun z => q z.2)]
            by_cases r : n ≤ k ∧ k < n + (m + j)
            · rw [if_pos r, if_pos (by omega)]
            · rw [if_neg r, if_neg (by omega)]
      · rw [ey, z_add (by rw [hs]; simp only [Int32.reduceToInt]; omega), hs]; simp only [Int32.reduceToInt]; omega
  exact loop 0 (by omega) σ 24 h rfl
theorem ml_put {d n m : Nat} {v : Int32} {τ σ : x_T} {f : Nat → Int32} {K : x_T → Prop} (h : y_rm τ σ n m f) (hn : n + m + 4 ≤ 300) (hf : ∀ j, j < 4 → f (m + j) = y_mb v j) (hK : ∀ ρ, y_rm τ ρ n (m + 4) f → K ρ) : x_CV d mX12_put [.ref 345, .int v] σ K := by
  refine e_X12_put ?_
  have loop : ∀ j, j ≤ 4 → (fun j => ∀ (ρ : x_T) (s : Int32), y_rm τ ρ n (m + j) f → s.toInt = 24 - 8 * (j : Int) → x_WV d mX12_put K 3 [(0, .ref 345), (1, .int v), (2, .int s)] [] ρ) j := by
    refine z_down ?_ ?_
    · intro ρ s hr hs
      exact k_X12_put_3 ⟨fun _ => hK ρ hr, fun q => absurd (by rw [z_lt, hs]; simp only [Int32.reduceToInt]; omega) q⟩
    · intro j hj ih ρ s hr hs
      have es : s = nI (24 - 8 * j) := z_of (by omega) (by omega)
      have r1 := hr.2.2.1
      refine k_X12_put_3 ⟨fun q => ?_, fun _ => ⟨ix_n (by omega), fun t1 e1 t2 e2 y1 ey => ih t2 y1 ?_ ?_⟩⟩
      · rw [z_lt, hs] at q; simp only [Int32.reduceToInt] at q; omega
      · have c1 : (ρ.1 345 3).toNatClampNeg = n + (m + j) := by rw [z_cl, r1]; omega
        rw [c1, es] at e1
        have t14 : t1.1 345 3 = ρ.1 345 3 := by rw [e1, w1_at, if_neg (by omega)]
        refine ⟨?_, fun k hk => ?_, ?_, fun k => ?_⟩
        · rw [e2, e1]; exact fr_w (fr_w hr.1 (Or.inr rfl)) (Or.inl rfl)
        · rw [e2, w1_at, if_neg (fun z => hk z.2), e1, w1_at, if_neg (by omega)]; exact hr.2.1 k hk
        · rw [e2, w1_at, if_pos ⟨rfl, rfl⟩, t14, z_add (by rw [r1]; simp only [Int32.reduceToInt]; omega), r1]; simp only [Int32.reduceToInt]; omega
        · rw [e2, w1_at, if_neg (by omega), e1, w1_at, hr.2.2.2 k]
          by_cases q : k = n + (m + j)
          · rw [if_pos ⟨rfl, q⟩, if_pos (by omega), show k - n = m + j by omega, hf j hj]; rfl
          · rw [if_neg (fun z => q z.2)]
            by_cases r : n ≤ k ∧ k < n + (m + j)
            · rw [if_pos r, if_pos (by omega)]
            · rw [if_neg r, if_neg (by omega)]
      · rw [ey, z_sub (by rw [hs]; simp only [Int32.reduceToInt]; omega), hs]; simp only [Int32.reduceToInt]; omega
  exact loop 0 (by omega) σ 24 h rfl
def y_5 (a b c d e : Int32) (k : Nat) : Int32 := if k = 0 then a else if k = 1 then b else if k = 2 then c else if k = 3 then d else e
theorem q_feed {τ : x_T} (h : x_J τ) (a1 a2 a3 a4 a5 : Int32) : x_CI 2000 mX11_feed [.ref 0, .int a1, .int a2, .int a3, .int a4, .int a5] τ (fun τ1 u => x_CI 2000 mX12_feed [.ref 345, .int a1, .int a2, .int a3, .int a4, .int a5] τ1 (fun τ2 v => u = v ∧ x_J τ2)) := by
  have tp := h.2.2.2.1
  obtain ⟨t1, t2, t3, t4⟩ := tp
  obtain ⟨n, hn⟩ : ∃ n : Nat, (τ.1 345 3).toInt = n := ⟨(τ.1 345 3).toInt.toNat, by omega⟩
  rw [hn] at t1 t3
  have m20 : (τ.1 345 3 + 20).toInt = n + 20 := by rw [z_add (by rw [hn]; simp only [Int32.reduceToInt]; omega), hn]; rfl
  let F : Nat → Int32 := fun k => y_cb (y_5 a1 a2 a3 a4 a5 (k / 4)) (k % 4)
  let G : Nat → Int32 := fun k => y_mb (y_5 a1 a2 a3 a4 a5 (k / 4)) (k % 4)
  have hF : ∀ i j, j < 4 → F (4 * i + j) = y_cb (y_5 a1 a2 a3 a4 a5 i) j := fun i j hj => by
    show y_cb (y_5 a1 a2 a3 a4 a5 ((4 * i + j) / 4)) ((4 * i + j) % 4) = _
    rw [show (4 * i + j) / 4 = i by omega, show (4 * i + j) % 4 = j by omega]
  have hG : ∀ i j, j < 4 → G (4 * i + j) = y_mb (y_5 a1 a2 a3 a4 a5 i) j := fun i j hj => by
    show y_mb (y_5 a1 a2 a3 a4 a5 ((4 * i + j) / 4)) ((4 * i + j) % 4) = _
    rw [show (4 * i + j) / 4 = i by omega, show (4 * i + j) % 4 = j by omega]
  refine e_X11_feed ⟨fun q => ?_, fun q => ?_⟩
  · rw [z_le, t1] at q
    simp only [Int32.reduceToInt] at q
    have r0 : y_rc τ τ n 0 F := ⟨fr_r _ _, by rw [t1]; omega, fun k => by rw [if_neg (by omega)]⟩
    refine cl_addFour r0 (by omega) (fun j hj => hF 0 j hj) (fun s1 r1 => cl_addFour r1 (by omega) (fun j hj => hF 1 j hj) (fun s2 r2 => cl_addFour r2 (by omega) (fun j hj => hF 2 j hj) (fun s3 r3 => cl_addFour r3 (by omega) (fun j hj => hF 3 j hj) (fun s4 r4 => cl_addFour r4 (by omega) (fun j hj => hF 4 j hj) (fun s5 r5 => ?_)))))
    have z0 : y_rm s5 s5 n 0 G := ⟨fr_r _ _, fun k _ => rfl, by rw [r5.1.1 345 (by omega), hn]; omega, fun k => by rw [if_neg (by omega)]⟩
    refine e_X12_feed ⟨fun _ => ?_, fun z => absurd (by rw [r5.1.1 345 (by omega), z_le, m20]; simp only [Int32.reduceToInt]; omega) z⟩
    refine ml_put z0 (by omega) (fun j hj => hG 0 j hj) (fun p1 r1 => ml_put r1 (by omega) (fun j hj => hG 1 j hj) (fun p2 r2 => ml_put r2 (by omega) (fun j hj => hG 2 j hj) (fun p3 r3 => ml_put r3 (by omega) (fun j hj => hG 3 j hj) (fun p4 r4 => ml_put r4 (by omega) (fun j hj => hG 4 j hj) (fun p5 y5 => ?_)))))
    have p314 : p5.1 314 = s5.1 314 := y5.1.1 314 (by omega)
    have p315 : p5.1 315 = s5.1 315 := y5.1.1 315 (by omega)
    have l1 := r5.2.1
    have l2 := y5.2.2.1
    refine ⟨z_eq.mpr (by rw [l1, l2]), J_tape h (fun c h1 h2 h3 h4 => ?_) ?_ ?_ ?_ ⟨?_, ?_, ?_, fun k hk => ?_⟩⟩
    · rw [y5.1.1 c (by omega), r5.1.1 c (by omega)]
    · rw [y5.2.1 4 (by omega), r5.1.1 345 (by omega)]
    · rw [y5.2.1 5 (by omega), r5.1.1 345 (by omega)]
    · rw [y5.1.2, r5.1.2]
    · rw [p314, l1, l2]
    · rw [l2]; omega
    · rw [l2]; omega
    · rw [p315, r5.2.2 k, y5.2.2.2 k, r5.1.1 348 (by omega)]
      by_cases r : n ≤ k ∧ k < n + 20
      · rw [if_pos (by omega), if_pos (by omega)]
        exact y_b _ (Nat.mod_lt _ (by omega))
      · rw [if_neg (by omega), if_neg (by omega)]
        exact t4 k hk
  · rw [z_le, t1] at q
    simp only [Int32.reduceToInt] at q
    refine e_X12_feed ⟨fun z => ?_, fun _ => ⟨rfl, h⟩⟩
    rw [z_le, m20] at z
    simp only [Int32.reduceToInt] at z
    omega
