/-! small numbers -/
theorem n_add (a b : Nat) : nI a + nI b = nI (a + b) := (Int32.ofNat_add a b).symm
theorem n_mul (a b : Nat) : nI a * nI b = nI (a * b) := (Int32.ofNat_mul a b).symm
theorem n_sub {a b : Nat} (h : b ≤ a) (ha : a < 2147483648) : nI a - nI b = nI (a - b) := by
  rw [z_eq, z_sub (by rw [z_n ha, z_n (by omega)]; omega), z_n ha, z_n (by omega), z_n (by omega)]
  omega
theorem n_div {a b : Nat} (hb : 0 < b) (ha : a < 2147483648) (hb' : b < 2147483648) : nI a / nI b = nI (a / b) := by
  have hd : a / b ≤ a := Nat.div_le_self a b
  rw [z_eq, Int32.toInt_div, z_n ha, z_n hb', z_n (by omega)]
  rw [Int.tdiv_eq_ediv_of_nonneg (by omega), ← Int.natCast_ediv]
  generalize a / b = q at hd ⊢
  exact z_bm (by omega)
theorem n_mod {a b : Nat} (hb : 0 < b) (ha : a < 2147483648) (hb' : b < 2147483648) : nI a - nI a / nI b * nI b = nI (a % b) := by
  have h1 := Nat.div_add_mod a b
  have h2 : a / b * b ≤ a := Nat.div_mul_le_self a b
  rw [n_div hb ha hb', n_mul, n_sub h2 ha]
  congr 1
  rw [Nat.mul_comm] at h2 ⊢
  omega
/-! the far ways -/
def z_f0 (ln : Nat → Int) (i j : Nat) : Int := if i = j then 0 else if 0 < ln (8 * i + j) then ln (8 * i + j) else 99
def z_fw (ln : Nat → Int) : Nat → Nat → Nat → Int
  | 0, i, j => z_f0 ln i j
  | b + 1, i, j => if z_fw ln b i j ≤ z_fw ln b i b + z_fw ln b b j then z_fw ln b i j else z_fw ln b i b + z_fw ln b b j
theorem z_fw_nn {ln : Nat → Int} (h : ∀ k, 0 ≤ ln k ∧ ln k ≤ 9) : ∀ b i j, 0 ≤ z_fw ln b i j ∧ z_fw ln b i j ≤ 99 := by
  intro b
  induction b with
  | zero =>
    intro i j
    have := h (8 * i + j)
    simp only [z_fw, z_f0]
    split
    · omega
    · split <;> omega
  | succ b ih =>
    intro i j
    have h1 := ih i j
    have h2 := ih i b
    have h3 := ih b j
    simp only [z_fw]
    split <;> omega
theorem z_fw_dg {ln : Nat → Int} (h : ∀ k, 0 ≤ ln k ∧ ln k ≤ 9) : ∀ b i, z_fw ln b i i = 0 := by
  intro b
  induction b with
  | zero => intro i; simp [z_fw, z_f0]
  | succ b ih =>
    intro i
    have h2 := z_fw_nn h b i b
    have h3 := z_fw_nn h b b i
    simp only [z_fw, ih i]
    split <;> omega
theorem z_fw_c {ln : Nat → Int} (h : ∀ k, 0 ≤ ln k ∧ ln k ≤ 9) (b i : Nat) : z_fw ln (b + 1) i b = z_fw ln b i b := by
  simp only [z_fw, z_fw_dg h b b]
  split <;> omega
theorem z_fw_r {ln : Nat → Int} (h : ∀ k, 0 ≤ ln k ∧ ln k ≤ 9) (b j : Nat) : z_fw ln (b + 1) b j = z_fw ln b b j := by
  simp only [z_fw, z_fw_dg h b b]
  split <;> omega
theorem z_fw_sy {ln : Nat → Int} (hs : ∀ i j, i < 8 → j < 8 → ln (8 * i + j) = ln (8 * j + i)) : ∀ b, b ≤ 8 → ∀ i j, i < 8 → j < 8 → z_fw ln b i j = z_fw ln b j i := by
  intro b
  induction b with
  | zero =>
    intro _ i j hi hj
    simp only [z_fw, z_f0, hs i j hi hj, eq_comm (a := i) (b := j)]
  | succ b ih =>
    intro hb i j hi hj
    have h1 := ih (by omega) i j hi hj
    have h2 := ih (by omega) i b hi (by omega)
    have h3 := ih (by omega) b j (by omega) hj
    simp only [z_fw, h1, h2, h3, Int.add_comm (z_fw ln b b i)]
set_option maxRecDepth 20000 in
theorem p_laysFar {d : Nat} {τ : x_T} {K : x_T → Prop} (ln : Nat → Int) (hl : ∀ k, k < 64 → (τ.1 346 (30 + k)).toInt = ln k) (hr : ∀ k, 0 ≤ ln k ∧ ln k ≤ 9) (h : K (x_st τ 369 64 (fun k => z_fw ln 8 (k / 8) (k % 8)))) : x_CV d mX12_laysFar [.ref 345] τ K := by
  refine e_X12_laysFar ?_
  have inner : ∀ b : Nat, b < 8 → (x_WV d mX12_laysFar K 63 [(0, .ref 345), (1, .int (nI (b + 1)))] [] (x_st τ 369 64 (fun j => z_fw ln (b + 1) (j / 8) (j % 8)))) → ∀ n k : Nat, n + k = 64 → x_WV d mX12_laysFar K 71 [(0, .ref 345), (1, .int (nI b)), (2, .int (nI k))] [] (x_st τ 369 64 (fun j => if j < k then z_fw ln (b + 1) (j / 8) (j % 8) else z_fw ln b (j / 8) (j % 8))) := by
    intro b hb hx n
    induction n with
    | zero =>
      intro k hk
      have : k = 64 := by omega
      subst this
      refine k_X12_laysFar_71 ⟨fun _ y1 e1 => ?_, fun q => absurd (by decide) q⟩
      subst e1
      rw [← nI_succ, st_cg (F' := fun j => z_fw ln (b + 1) (j / 8) (j % 8)) (fun j hj => by rw [if_pos hj])]
      exact hx
    | succ n ih =>
      intro k hk
      have hk64 : k < 64 := by omega
      have e8 : (8 : Int32) = nI 8 := rfl
      have hi1 : (nI k - (nI k - nI k / 8 * 8)) + nI b = nI (8 * (k / 8) + b) := by
        rw [e8, n_mod (by decide) (by omega) (by decide), n_sub (Nat.mod_le k 8) (by omega), n_add]
        congr 1
        omega
      have hi2 : (8 * nI b) + (nI k - nI k / 8 * 8) = nI (8 * b + k % 8) := by rw [e8, n_mod (by decide) (by omega) (by decide), n_mul, n_add]
      have fin : ∀ v : Int32, v.toInt = z_fw ln (b + 1) (k / 8) (k % 8) → x_WV d mX12_laysFar K 131 [(0, .ref 345), (1, .int (nI b)), (2, .int (nI k))] [.int v, .int (nI k), .ref 369] (x_st τ 369 64 (fun j => if j < k then z_fw ln (b + 1) (j / 8) (j % 8) else z_fw ln b (j / 8) (j % 8))) := by
        intro v hv
        refine k_X12_laysFar_131 ⟨vp_in_nI hk64 (by decide), fun t1 e1 y2 e2 => ?_⟩
        subst e1; subst e2
        rw [nI_clamp (by omega), st_w hk64, ← nI_succ, hv]
        rw [st_cg (F' := fun j => if j < k + 1 then z_fw ln (b + 1) (j / 8) (j % 8) else z_fw ln b (j / 8) (j % 8)) (fun j hj => by
          by_cases h1 : j = k
          · rw [if_pos h1, if_pos (by omega), h1]
          · rw [if_neg h1]
            by_cases h2 : j < k
            · rw [if_pos h2, if_pos (by omega)]
            · rw [if_neg h2, if_neg (by omega)])]
        exact ih (k + 1) (by omega)
      have g1 : (if 8 * (k / 8) + b < k then z_fw ln (b + 1) ((8 * (k / 8) + b) / 8) ((8 * (k / 8) + b) % 8) else z_fw ln b ((8 * (k / 8) + b) / 8) ((8 * (k / 8) + b) % 8)) = z_fw ln b (k / 8) b := by
        rw [show (8 * (k / 8) + b) / 8 = k / 8 by omega, show (8 * (k / 8) + b) % 8 = b by omega, z_fw_c hr]
        split <;> rfl
      have g2 : (if 8 * b + k % 8 < k then z_fw ln (b + 1) ((8 * b + k % 8) / 8) ((8 * b + k % 8) % 8) else z_fw ln b ((8 * b + k % 8) / 8) ((8 * b + k % 8) % 8)) = z_fw ln b b (k % 8) := by
        rw [show (8 * b + k % 8) / 8 = b by omega, show (8 * b + k % 8) % 8 = k % 8 by omega, z_fw_r hr]
        split <;> rfl
      have r1 := z_fw_nn hr b (k / 8) b
      have r2 := z_fw_nn hr b b (k % 8)
      have r3 := z_fw_nn hr b (k / 8) (k % 8)
      have o1 : (Int32.ofInt (z_fw ln b (k / 8) b)).toInt = z_fw ln b (k / 8) b := z_oi (by omega)
      have o2 : (Int32.ofInt (z_fw ln b b (k % 8))).toInt = z_fw ln b b (k % 8) := z_oi (by omega)
      have o3 : (Int32.ofInt (z_fw ln b (k / 8) (k % 8))).toInt = z_fw ln b (k / 8) (k % 8) := z_oi (by omega)
      refine k_X12_laysFar_71 ⟨fun q => absurd q (nI_ge (a := k) (b := 64) (by omega) (by decide)), fun _ => ?_⟩
      rw [hi1, hi2]
      refine ⟨vp_in_nI (by omega) (by decide), vp_in_nI (by omega) (by decide), fun y2 e2 => ⟨vp_in_nI hk64 (by decide), ?_⟩⟩
      rw [nI_clamp (by omega), nI_clamp (by omega), st_at (by omega), st_at (by omega)] at e2
      simp only [g1, g2] at e2
      rw [nI_clamp (by omega), st_at hk64]
      simp only [Nat.lt_irrefl, if_false]
      have ey : y2.toInt = z_fw ln b (k / 8) b + z_fw ln b b (k % 8) := by rw [e2, z_add (by rw [o1, o2]; omega), o1, o2]
      refine ⟨fun q => ⟨vp_in_nI hk64 (by decide), fin _ ?_⟩, fun q => fin _ ?_⟩
      · rw [z_le, o3, ey] at q
        rw [o3]
        simp only [z_fw, if_pos q]
      · rw [z_le, o3, ey] at q
        rw [ey]
        simp only [z_fw, if_neg q]
  have outer : ∀ n b : Nat, n + b = 8 → x_WV d mX12_laysFar K 63 [(0, .ref 345), (1, .int (nI b))] [] (x_st τ 369 64 (fun j => z_fw ln b (j / 8) (j % 8))) := by
    intro n
    induction n with
    | zero =>
      intro b hb
      have : b = 8 := by omega
      subst this
      exact k_X12_laysFar_63 ⟨fun _ => h, fun q => absurd (by decide) q⟩
    | succ n ih =>
      intro b hb
      refine k_X12_laysFar_63 ⟨fun q => absurd q (nI_ge (a := b) (b := 8) (by omega) (by decide)), fun _ => ?_⟩
      have := inner b (by omega) (ih (b + 1) (by omega)) 64 0 (by omega)
      rw [st_cg (F' := fun j => z_fw ln b (j / 8) (j % 8)) (fun j hj => by rw [if_neg (by omega)])] at this
      exact this
  have first : ∀ n k : Nat, n + k = 64 → x_WV d mX12_laysFar K 2 [(0, .ref 345), (1, .int (nI k))] [] (x_st τ 369 64 (fun j => if j < k then z_f0 ln (j / 8) (j % 8) else (τ.1 369 j).toInt)) := by
    intro n
    induction n with
    | zero =>
      intro k hk
      have : k = 64 := by omega
      subst this
      refine k_X12_laysFar_2 ⟨fun _ => ?_, fun q => absurd (by decide) q⟩
      rw [st_cg (F' := fun j => z_fw ln 0 (j / 8) (j % 8)) (fun j hj => by rw [if_pos hj]; rfl)]
      exact outer 8 0 (by omega)
    | succ n ih =>
      intro k hk
      have hk64 : k < 64 := by omega
      have e8 : (8 : Int32) = nI 8 := rfl
      have e30 : (30 : Int32) = nI 30 := rfl
      have fin : ∀ v : Int32, v.toInt = z_f0 ln (k / 8) (k % 8) → x_WV d mX12_laysFar K 54 [(0, .ref 345), (1, .int (nI k))] [.int v, .int (nI k), .ref 369] (x_st τ 369 64 (fun j => if j < k then z_f0 ln (j / 8) (j % 8) else (τ.1 369 j).toInt)) := by
        intro v hv
        refine k_X12_laysFar_54 ⟨vp_in_nI hk64 (by decide), fun t1 e1 y2 e2 => ?_⟩
        subst e1; subst e2
        rw [nI_clamp (by omega), st_w hk64, ← nI_succ, hv]
        rw [st_cg (F' := fun j => if j < k + 1 then z_f0 ln (j / 8) (j % 8) else (τ.1 369 j).toInt) (fun j hj => by
          by_cases h1 : j = k
          · rw [if_pos h1, if_pos (by omega), h1]
          · rw [if_neg h1]
            by_cases h2 : j < k
            · rw [if_pos h2, if_pos (by omega)]
            · rw [if_neg h2, if_neg (by omega)])]
        exact ih (k + 1) (by omega)
      refine k_X12_laysFar_2 ⟨fun q => absurd q (nI_ge (a := k) (b := 64) (by omega) (by decide)), fun _ => ?_⟩
      rw [e8, n_mod (by decide) (by omega) (by decide), n_div (by decide) (by omega) (by decide), e30, n_add, nI_clamp (by omega), st_ne (by decide)]
      have hv := hl k hk64
      have hkk : 8 * (k / 8) + k % 8 = k := by omega
      refine ⟨fun q => ⟨vp_in_nI (by omega) (by decide), fun r => fin _ ?_, fun r => ⟨vp_in_nI (by omega) (by decide), fin _ ?_⟩⟩, fun q => fin _ ?_⟩
      · rw [z_le, hv] at r
        have hne : ¬ k / 8 = k % 8 := fun z => q (by rw [z])
        have r0 : (0 : Int32).toInt = 0 := by decide
        rw [r0] at r
        simp only [z_f0, if_neg hne, hkk, if_neg (show ¬ 0 < ln k by omega)]
        decide
      · rw [z_le, hv] at r
        have hne : ¬ k / 8 = k % 8 := fun z => q (by rw [z])
        have r0 : (0 : Int32).toInt = 0 := by decide
        rw [r0] at r
        simp only [z_f0, if_neg hne, hkk, if_pos (show 0 < ln k by omega)]
        exact hv
      · have he : k / 8 = k % 8 := by
          have := (z_eq.mp q)
          rw [z_n (by omega), z_n (by omega)] at this
          omega
        simp only [z_f0, if_pos he]
        decide
  have h0 := first 64 0 (by omega)
  rw [st_cg (F' := fun j => (τ.1 369 j).toInt) (fun j hj => by rw [if_neg (by omega)]), st_self] at h0
  exact h0
