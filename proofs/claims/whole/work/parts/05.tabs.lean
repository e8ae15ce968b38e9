theorem x_inX {t : Nat} {C : String} {T : u_T} {n : Nat} (hc : vwCl[t]? = some (C, T, n)) : ∀ w ∈ u_ws C T n, w ∈ x_tb := by
  have h : ∀ q ∈ vwCl, ∀ w ∈ u_ws q.1 q.2.1 q.2.2, w ∈ x_tb := by
    have k : vwCl.all (fun q => (u_ws q.1 q.2.1 q.2.2).all (fun w => goodWord w && lw_tbl.contains w)) = true := by decide +kernel
    intro q hq w hw
    have h1 := List.all_eq_true.mp (List.all_eq_true.mp k q hq) w hw
    rw [Bool.and_eq_true] at h1
    exact x_tb_in (List.contains_iff_mem.mp h1.2) h1.1
  exact h _ (List.mem_of_getElem? hc)
theorem x_tyX {t : Nat} {C : String} {T : u_T} {n : Nat} (hc : vwCl[t]? = some (C, T, n)) : ∀ k, k < n → parseFieldDescriptor (T k).2.2.1 = some (x_ty t k) := by
  match t, hc with
  | 0, hc => cases hc; exact tyX0_ok
  | 1, hc => cases hc; exact tyX1_ok
  | 2, hc => cases hc; exact tyX2_ok
  | 3, hc => cases hc; exact tyX3_ok
  | 4, hc => cases hc; exact tyX4_ok
  | 5, hc => cases hc; exact tyX5_ok
  | 6, hc => cases hc; exact tyX6_ok
  | 7, hc => cases hc; exact tyX7_ok
  | 8, hc => cases hc; exact tyX8_ok
  | 9, hc => cases hc; exact tyX9_ok
  | 10, hc => cases hc; exact tyX10_ok
  | 11, hc => cases hc; exact tyX11_ok
  | 12, hc => cases hc; exact tyX12_ok
  | t + 13, hc => simp [vwCl] at hc
theorem x_nmX {t : Nat} {C : String} {T : u_T} {n : Nat} (hc : vwCl[t]? = some (C, T, n)) : ∀ a, a < n → ∀ b, b < n → a ≠ b → (T a).2.1 ≠ (T b).2.1 := by
  match t, hc with
  | 0, hc => cases hc; exact nmX0
  | 1, hc => cases hc; exact nmX1
  | 2, hc => cases hc; exact nmX2
  | 3, hc => cases hc; exact nmX3
  | 4, hc => cases hc; exact nmX4
  | 5, hc => cases hc; exact nmX5
  | 6, hc => cases hc; exact nmX6
  | 7, hc => cases hc; exact nmX7
  | 8, hc => cases hc; exact nmX8
  | 9, hc => cases hc; exact nmX9
  | 10, hc => cases hc; exact nmX10
  | 11, hc => cases hc; exact nmX11
  | 12, hc => cases hc; exact nmX12
  | t + 13, hc => simp [vwCl] at hc
theorem x_t13 {t : Nat} {q : vw_C} (hc : vwCl[t]? = some q) : t < 13 := (List.getElem?_eq_some_iff.mp hc).1
