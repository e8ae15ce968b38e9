/-! a law asked: the model -/
theorem ml_bound {d : Nat} {w : Int64} {τ : x_T} {K : x_T → Int64 → Prop} (h : ∀ u : Int64, u.toInt = y_bd6 w.toInt → K τ u) : x_CL d mX12_bound [.long w] τ K := by
  have e1 : (1000000 : Int64).toInt = 1000000 := by decide
  have e2 : (-1000000 : Int64).toInt = -1000000 := by decide
  refine e_X12_bound ⟨fun q => ⟨fun r => h _ ?_, fun r => h _ ?_⟩, fun q => h _ ?_⟩
  · rw [l_cle, e1] at q
    rw [l_cge, e2] at r
    rw [bd6_n (by omega)]
  · rw [l_cle, e1] at q
    rw [l_cge, e2] at r
    unfold y_bd6
    rw [if_neg (by omega), if_pos (by omega)]; exact e2
  · rw [l_cle, e1] at q
    unfold y_bd6
    rw [if_pos (by omega)]; exact e1
theorem ml_farBy {d : Nat} {a b : Int64} {x y : Int} {τ : x_T} {A : Nat → Int} {K : x_T → Int64 → Prop} (wA : w_A A) (hm : (τ.1 346 0).toInt = A 0) (hf : ∀ k, k < 64 → (τ.1 369 k).toInt = z_W A (k / 8) (k % 8)) (ha : a.toInt = x) (hb : b.toInt = y) (hx : y_sz x) (hy : y_sz y) (h : ∀ u : Int64, u.toInt = z_far A x y → K τ u) : x_CL d mX12_farBy [.ref 345, .long a, .long b] τ K := by
  have w0 := wA.1
  have z0 : (0 : Int64).toInt = 0 := by decide
  have z99 : (99 : Int64).toInt = 99 := by decide
  have no : ¬ (0 ≤ x ∧ x < A 0 ∧ 0 ≤ y ∧ y < A 0) → K τ 99 := fun z => h _ (by rw [z_far, if_neg z]; exact z99)
  refine e_X12_farBy (fun y1 e1 => ?_)
  have hl : y1.toInt64.toInt = A 0 := by rw [l_i, e1, hm]
  refine ⟨fun q => no ?_, fun q1 => ⟨fun q => no ?_, fun q2 => ⟨fun q => no ?_, fun q3 => ⟨fun q4 => ?_, fun q => no ?_⟩⟩⟩⟩
  · rw [l_clt, ha, z0] at q; omega
  · rw [l_clt, hb, z0] at q; omega
  · rw [l_cge, ha, hl] at q; omega
  · rw [l_clt, ha, z0] at q1
    rw [l_clt, hb, z0] at q2
    rw [l_cge, ha, hl] at q3
    rw [l_clt, hb, hl] at q4
    have ea : a.toInt32 = nI x.toNat := z_of (by omega) (by rw [Int64.toInt_toInt32, ha, z_bm (by omega)]; omega)
    have eb : b.toInt32 = nI y.toNat := z_of (by omega) (by rw [Int64.toInt_toInt32, hb, z_bm (by omega)]; omega)
    have ix : (8 : Int32) * nI x.toNat + nI y.toNat = nI (8 * x.toNat + y.toNat) := by rw [show (8 : Int32) * nI x.toNat = nI (8 * x.toNat) from n_mul 8 _, n_add]
    rw [ea, eb, ix, nI_clamp (by omega)]
    refine ⟨vp_in_nI (by omega) (by decide), h _ ?_⟩
    rw [l_i, hf _ (by omega), z_far, if_pos (by omega), show (8 * x.toNat + y.toNat) / 8 = x.toNat by omega, show (8 * x.toNat + y.toNat) % 8 = y.toNat by omega]
  · rw [l_clt, hb, hl] at q; omega
theorem ml_w42 {d : Nat} {a b : Int64} {x y : Int} {τ : x_T} {A : Nat → Int} {K : x_T → Int64 → Prop} (hx : y_sz x) (hy : y_sz y) (ha : a.toInt = x) (hb : b.toInt = y) (h : ∀ u : Int64, u.toInt = y_jn (z_far A) 42 x y → K τ u) : x_CL (d + 1) mX12_worked [.ref 345, .int 42, .long a, .long b] τ K := by
  refine e_X12_worked ?_
  iterate 1 refine ⟨fun q => absurd q (by decide), fun _ => ?_⟩
  have ej : y_jn (z_far A) 42 x y = y_bd6 (x * y) := by
    unfold y_jn
    rw [if_neg (by decide), if_neg (by decide), if_pos rfl]
  rw [ej] at h
  have mm := mul6 hx hy
  unfold y_sz at hx hy
  exact ⟨fun _ => ml_bound (fun u hu => h u (by rw [hu, l_mul (by rw [ha, hb]; omega), ha, hb])), fun q => absurd rfl q⟩
theorem ml_w43 {d : Nat} {a b : Int64} {x y : Int} {τ : x_T} {A : Nat → Int} {K : x_T → Int64 → Prop} (hx : y_sz x) (hy : y_sz y) (ha : a.toInt = x) (hb : b.toInt = y) (h : ∀ u : Int64, u.toInt = y_jn (z_far A) 43 x y → K τ u) : x_CL (d + 1) mX12_worked [.ref 345, .int 43, .long a, .long b] τ K := by
  refine e_X12_worked ?_
  iterate 2 refine ⟨fun q => absurd q (by decide), fun _ => ?_⟩
  have ej : y_jn (z_far A) 43 x y = y_bd6 (x + y) := by
    unfold y_jn
    rw [if_pos rfl]
  rw [ej] at h
  have mm := mul6 hx hy
  unfold y_sz at hx hy
  exact ⟨fun _ => ml_bound (fun u hu => h u (by rw [hu, l_add (by rw [ha, hb]; omega), ha, hb])), fun q => absurd rfl q⟩
theorem ml_w45 {d : Nat} {a b : Int64} {x y : Int} {τ : x_T} {A : Nat → Int} {K : x_T → Int64 → Prop} (hx : y_sz x) (hy : y_sz y) (ha : a.toInt = x) (hb : b.toInt = y) (h : ∀ u : Int64, u.toInt = y_jn (z_far A) 45 x y → K τ u) : x_CL (d + 1) mX12_worked [.ref 345, .int 45, .long a, .long b] τ K := by
  refine e_X12_worked ?_
  iterate 3 refine ⟨fun q => absurd q (by decide), fun _ => ?_⟩
  have ej : y_jn (z_far A) 45 x y = y_bd6 (x - y) := by
    unfold y_jn
    rw [if_neg (by decide), if_pos rfl]
  rw [ej] at h
  have mm := mul6 hx hy
  unfold y_sz at hx hy
  exact ⟨fun _ => ml_bound (fun u hu => h u (by rw [hu, l_sub (by rw [ha, hb]; omega), ha, hb])), fun q => absurd rfl q⟩
theorem ml_w47 {d : Nat} {a b : Int64} {x y : Int} {τ : x_T} {A : Nat → Int} {K : x_T → Int64 → Prop} (hx : y_sz x) (hy : y_sz y) (ha : a.toInt = x) (hb : b.toInt = y) (h : ∀ u : Int64, u.toInt = y_jn (z_far A) 47 x y → K τ u) : x_CL (d + 1) mX12_worked [.ref 345, .int 47, .long a, .long b] τ K := by
  refine e_X12_worked ?_
  iterate 4 refine ⟨fun q => absurd q (by decide), fun _ => ?_⟩
  have ej : y_jn (z_far A) 47 x y = if y = 0 then 0 else x.tdiv y := by
    unfold y_jn
    rw [if_neg (by decide), if_neg (by decide), if_neg (by decide), if_pos rfl]
  rw [ej] at h
  unfold y_sz at hx hy
  have z0 : (0 : Int64).toInt = 0 := by decide
  refine ⟨fun _ => ⟨fun q => ⟨fun z => q (l_ceq.mpr (by rw [z])), h _ ?_⟩, fun q => h _ ?_⟩, fun q => absurd rfl q⟩
  · rw [l_ceq, hb, z0] at q
    rw [Int64.toInt_div_of_ne_left _ _ (fun z => by
      have : a.toInt = Int64.minValue.toInt := by rw [z]
      rw [ha] at this
      have e : Int64.minValue.toInt = -9223372036854775808 := by decide
      omega), ha, hb, if_neg q]
  · rw [l_ceq, hb, z0] at q
    rw [if_pos q]; exact z0
theorem ml_w35 {d : Nat} {a b : Int64} {x y : Int} {τ : x_T} {A : Nat → Int} {K : x_T → Int64 → Prop} (ha : a.toInt = x) (hb : b.toInt = y) (h : ∀ u : Int64, u.toInt = y_jn (z_far A) 35 x y → K τ u) : x_CL (d + 1) mX12_worked [.ref 345, .int 35, .long a, .long b] τ K := by
  refine e_X12_worked ?_
  have ej : y_jn (z_far A) 35 x y = if x = y then 0 else 1 := by
    unfold y_jn
    rw [if_neg (by decide), if_neg (by decide), if_neg (by decide), if_neg (by decide), if_neg (by decide), if_neg (by decide), if_neg (by decide), if_neg (by decide), if_pos rfl]
  rw [ej] at h
  refine ⟨fun _ => ⟨fun q => h _ ?_, fun q => h _ ?_⟩, fun q => absurd rfl q⟩
  · rw [l_ceq, ha, hb] at q
    rw [if_pos q]; decide
  · rw [l_ceq, ha, hb] at q
    rw [if_neg q]; decide
theorem ml_w60 {d : Nat} {a b : Int64} {x y : Int} {τ : x_T} {A : Nat → Int} {K : x_T → Int64 → Prop} (ha : a.toInt = x) (hb : b.toInt = y) (h : ∀ u : Int64, u.toInt = y_jn (z_far A) 60 x y → K τ u) : x_CL (d + 1) mX12_worked [.ref 345, .int 60, .long a, .long b] τ K := by
  refine e_X12_worked ?_
  iterate 5 refine ⟨fun q => absurd q (by decide), fun _ => ?_⟩
  have ej : y_jn (z_far A) 60 x y = if x < y then 1 else 0 := by
    unfold y_jn
    rw [if_neg (by decide), if_neg (by decide), if_neg (by decide), if_neg (by decide), if_neg (by decide), if_pos rfl]
  rw [ej] at h
  refine ⟨fun _ => ⟨fun q => h _ ?_, fun q => h _ ?_⟩, fun q => absurd rfl q⟩
  · rw [l_cge, ha, hb] at q
    rw [if_neg (by omega)]; decide
  · rw [l_cge, ha, hb] at q
    rw [if_pos (by omega)]; decide
theorem ml_w61 {d : Nat} {a b : Int64} {x y : Int} {τ : x_T} {A : Nat → Int} {K : x_T → Int64 → Prop} (ha : a.toInt = x) (hb : b.toInt = y) (h : ∀ u : Int64, u.toInt = y_jn (z_far A) 61 x y → K τ u) : x_CL (d + 1) mX12_worked [.ref 345, .int 61, .long a, .long b] τ K := by
  refine e_X12_worked ?_
  iterate 6 refine ⟨fun q => absurd q (by decide), fun _ => ?_⟩
  have ej : y_jn (z_far A) 61 x y = if x = y then 1 else 0 := by
    unfold y_jn
    rw [if_neg (by decide), if_neg (by decide), if_neg (by decide), if_neg (by decide), if_neg (by decide), if_neg (by decide), if_neg (by decide), if_pos rfl]
  rw [ej] at h
  refine ⟨fun _ => ⟨fun q => h _ ?_, fun q => h _ ?_⟩, fun q => absurd rfl q⟩
  · rw [l_ceq, ha, hb] at q
    rw [if_neg q]; decide
  · rw [l_ceq, ha, hb] at q
    rw [if_pos q]; decide
theorem ml_w62 {d : Nat} {a b : Int64} {x y : Int} {τ : x_T} {A : Nat → Int} {K : x_T → Int64 → Prop} (ha : a.toInt = x) (hb : b.toInt = y) (h : ∀ u : Int64, u.toInt = y_jn (z_far A) 62 x y → K τ u) : x_CL (d + 1) mX12_worked [.ref 345, .int 62, .long a, .long b] τ K := by
  refine e_X12_worked ?_
  iterate 7 refine ⟨fun q => absurd q (by decide), fun _ => ?_⟩
  have ej : y_jn (z_far A) 62 x y = if y < x then 1 else 0 := by
    unfold y_jn
    rw [if_neg (by decide), if_neg (by decide), if_neg (by decide), if_neg (by decide), if_neg (by decide), if_neg (by decide), if_pos rfl]
  rw [ej] at h
  refine ⟨fun _ => ⟨fun q => h _ ?_, fun q => h _ ?_⟩, fun q => absurd rfl q⟩
  · rw [l_cle, ha, hb] at q
    rw [if_neg (by omega)]; decide
  · rw [l_cle, ha, hb] at q
    rw [if_pos (by omega)]; decide
theorem ml_w300 {d : Nat} {a b : Int64} {x y : Int} {τ : x_T} {A : Nat → Int} {K : x_T → Int64 → Prop} (ha : a.toInt = x) (hb : b.toInt = y) (h : ∀ u : Int64, u.toInt = y_jn (z_far A) 300 x y → K τ u) : x_CL (d + 1) mX12_worked [.ref 345, .int 300, .long a, .long b] τ K := by
  refine e_X12_worked ?_
  iterate 8 refine ⟨fun q => absurd q (by decide), fun _ => ?_⟩
  have ej : y_jn (z_far A) 300 x y = if x ≤ y then 1 else 0 := by
    unfold y_jn
    rw [if_neg (by decide), if_neg (by decide), if_neg (by decide), if_neg (by decide), if_neg (by decide), if_neg (by decide), if_neg (by decide), if_neg (by decide), if_neg (by decide), if_pos rfl]
  rw [ej] at h
  refine ⟨fun _ => ⟨fun q => h _ ?_, fun q => h _ ?_⟩, fun q => absurd rfl q⟩
  · rw [l_cgt, ha, hb] at q
    rw [if_neg (by omega)]; decide
  · rw [l_cgt, ha, hb] at q
    rw [if_pos (by omega)]; decide
theorem ml_w301 {d : Nat} {a b : Int64} {x y : Int} {τ : x_T} {A : Nat → Int} {K : x_T → Int64 → Prop} (ha : a.toInt = x) (hb : b.toInt = y) (h : ∀ u : Int64, u.toInt = y_jn (z_far A) 301 x y → K τ u) : x_CL (d + 1) mX12_worked [.ref 345, .int 301, .long a, .long b] τ K := by
  refine e_X12_worked ?_
  iterate 9 refine ⟨fun q => absurd q (by decide), fun _ => ?_⟩
  have ej : y_jn (z_far A) 301 x y = if y ≤ x then 1 else 0 := by
    unfold y_jn
    rw [if_neg (by decide), if_neg (by decide), if_neg (by decide), if_neg (by decide), if_neg (by decide), if_neg (by decide), if_neg (by decide), if_neg (by decide), if_neg (by decide), if_neg (by decide), if_pos rfl]
  rw [ej] at h
  refine ⟨fun _ => ⟨fun q => h _ ?_, fun q => h _ ?_⟩, fun q => absurd rfl q⟩
  · rw [l_clt, ha, hb] at q
    rw [if_neg (by omega)]; decide
  · rw [l_clt, ha, hb] at q
    rw [if_pos (by omega)]; decide
theorem ml_w403 {d : Nat} {a b : Int64} {x y : Int} {τ : x_T} {A : Nat → Int} {K : x_T → Int64 → Prop} (wA : w_A A) (hm : (τ.1 346 0).toInt = A 0) (hf : ∀ k, k < 64 → (τ.1 369 k).toInt = z_W A (k / 8) (k % 8)) (hx : y_sz x) (hy : y_sz y) (ha : a.toInt = x) (hb : b.toInt = y) (h : ∀ u : Int64, u.toInt = y_jn (z_far A) 403 x y → K τ u) : x_CL (d + 1) mX12_worked [.ref 345, .int 403, .long a, .long b] τ K := by
  refine e_X12_worked ?_
  iterate 10 refine ⟨fun q => absurd q (by decide), fun _ => ?_⟩
  have ej : y_jn (z_far A) 403 x y = z_far A x y := by
    unfold y_jn
    rw [if_neg (by decide), if_neg (by decide), if_neg (by decide), if_neg (by decide), if_pos rfl]
  rw [ej] at h
  exact ⟨fun _ => ml_farBy wA hm hf ha hb hx hy (fun u hu => h u hu), fun q => absurd rfl q⟩
theorem ml_w406 {d : Nat} {a b : Int64} {x y : Int} {τ : x_T} {A : Nat → Int} {K : x_T → Int64 → Prop} (hx : y_01 x) (hy : y_01 y) (ha : a.toInt = x) (hb : b.toInt = y) (h : ∀ u : Int64, u.toInt = y_jn (z_far A) 406 x y → K τ u) : x_CL (d + 1) mX12_worked [.ref 345, .int 406, .long a, .long b] τ K := by
  refine e_X12_worked ?_
  iterate 11 refine ⟨fun q => absurd q (by decide), fun _ => ?_⟩
  have ej : y_jn (z_far A) 406 x y = x * y := by
    unfold y_jn
    rw [if_neg (by decide), if_neg (by decide), if_neg (by decide), if_neg (by decide), if_neg (by decide), if_neg (by decide), if_neg (by decide), if_neg (by decide), if_neg (by decide), if_neg (by decide), if_neg (by decide), if_pos rfl]
  rw [ej] at h
  have hm : -1 ≤ x * y ∧ x * y ≤ 1 := by
    rcases hx with z | z <;> rcases hy with g | g <;> subst z <;> subst g <;> decide
  exact ⟨fun _ => h _ (by rw [l_mul (by rw [ha, hb]; omega), ha, hb]), fun q => absurd rfl q⟩
theorem ml_w407 {d : Nat} {a b : Int64} {x y : Int} {τ : x_T} {A : Nat → Int} {K : x_T → Int64 → Prop} (hx : y_01 x) (hy : y_01 y) (ha : a.toInt = x) (hb : b.toInt = y) (h : ∀ u : Int64, u.toInt = y_jn (z_far A) 407 x y → K τ u) : x_CL (d + 1) mX12_worked [.ref 345, .int 407, .long a, .long b] τ K := by
  refine e_X12_worked ?_
  iterate 12 refine ⟨fun q => absurd q (by decide), fun _ => ?_⟩
  have ej : y_jn (z_far A) 407 x y = if 0 < x + y then 1 else 0 := by
    unfold y_jn
    rw [if_neg (by decide), if_neg (by decide), if_neg (by decide), if_neg (by decide), if_neg (by decide), if_neg (by decide), if_neg (by decide), if_neg (by decide), if_neg (by decide), if_neg (by decide), if_neg (by decide), if_neg (by decide)]
  rw [ej] at h
  unfold y_01 at hx hy
  have z0 : (0 : Int64).toInt = 0 := by decide
  have hs : (a + b).toInt = x + y := by rw [l_add (by rw [ha, hb]; omega), ha, hb]
  refine ⟨fun q => h _ ?_, fun q => h _ ?_⟩
  · rw [l_cle, hs, z0] at q
    rw [if_neg (by omega)]; decide
  · rw [l_cle, hs, z0] at q
    rw [if_pos (by omega)]; decide
theorem ml_worked {d : Nat} {s0 : Int32} {a b : Int64} {o x y : Int} {τ : x_T} {A : Nat → Int} {K : x_T → Int64 → Prop} (wA : w_A A) (hm : (τ.1 346 0).toInt = A 0) (hf : ∀ k, k < 64 → (τ.1 369 k).toInt = z_W A (k / 8) (k % 8)) (hs : s0.toInt = o) (ho : (y_o1 o ∧ y_sz x ∧ y_sz y) ∨ (y_o2 o) ∨ (y_o3 o ∧ y_01 x ∧ y_01 y)) (ha : a.toInt = x) (hb : b.toInt = y) (h : ∀ u : Int64, u.toInt = y_jn (z_far A) o x y → K τ u) : x_CL (d + 1) mX12_worked [.ref 345, .int s0, .long a, .long b] τ K := by
  rcases ho with ⟨ho, hx, hy⟩ | ho | ⟨ho, hx, hy⟩
  · rcases ho with e | e | e | e | e
    · subst e
      have e : s0 = 43 := z_eq.mpr (by rw [hs]; decide)
      subst e
      exact ml_w43 hx hy ha hb h
    · subst e
      have e : s0 = 45 := z_eq.mpr (by rw [hs]; decide)
      subst e
      exact ml_w45 hx hy ha hb h
    · subst e
      have e : s0 = 42 := z_eq.mpr (by rw [hs]; decide)
      subst e
      exact ml_w42 hx hy ha hb h
    · subst e
      have e : s0 = 47 := z_eq.mpr (by rw [hs]; decide)
      subst e
      exact ml_w47 hx hy ha hb h
    · subst e
      have e : s0 = 403 := z_eq.mpr (by rw [hs]; decide)
      subst e
      exact ml_w403 wA hm hf hx hy ha hb h
  · rcases ho with e | e | e | e | e | e
    · subst e
      have e : s0 = 60 := z_eq.mpr (by rw [hs]; decide)
      subst e
      exact ml_w60 ha hb h
    · subst e
      have e : s0 = 62 := z_eq.mpr (by rw [hs]; decide)
      subst e
      exact ml_w62 ha hb h
    · subst e
      have e : s0 = 61 := z_eq.mpr (by rw [hs]; decide)
      subst e
      exact ml_w61 ha hb h
    · subst e
      have e : s0 = 35 := z_eq.mpr (by rw [hs]; decide)
      subst e
      exact ml_w35 ha hb h
    · subst e
      have e : s0 = 300 := z_eq.mpr (by rw [hs]; decide)
      subst e
      exact ml_w300 ha hb h
    · subst e
      have e : s0 = 301 := z_eq.mpr (by rw [hs]; decide)
      subst e
      exact ml_w301 ha hb h
  · rcases ho with e | e
    · subst e
      have e : s0 = 406 := z_eq.mpr (by rw [hs]; decide)
      subst e
      exact ml_w406 hx hy ha hb h
    · subst e
      have e : s0 = 407 := z_eq.mpr (by rw [hs]; decide)
      subst e
      exact ml_w407 hx hy ha hb h
theorem w2_at (τ : x_T) (c k : Nat) (v : Int64) (a b : Nat) : (x_w2 τ c k v).2.1 a b = if a = c ∧ b = k then v else τ.2.1 a b := rfl
def y_km (τ σ : x_T) (s : List Int) : Prop := (σ.1 = τ.1 ∧ σ.2.2 = τ.2.2) ∧ y_stk (fun k => (σ.2.1 372 k).toInt) s
theorem km_w {τ σ : x_T} {s : List Int} {v : Int64} {k : Nat} (h : y_km τ σ s) (hk : k = s.length) : y_km τ (x_w2 σ 372 k v) (v.toInt :: s) := by
  subst hk
  refine ⟨h.1, ?_, stk_cg s (fun j hj => ?_) h.2⟩
  · show ((x_w2 σ 372 s.length v).2.1 372 s.length).toInt = v.toInt
    rw [w2_at, if_pos ⟨rfl, rfl⟩]
  · show (σ.2.1 372 j).toInt = ((x_w2 σ 372 s.length v).2.1 372 j).toInt
    rw [w2_at, if_neg (by omega)]
theorem ml_run {d w P N : Nat} {τ : x_T} {A : Nat → Int} {O V : Nat → Int} {T : Nat → List Bool} {env : Nat → Int} {K : x_T → Int64 → Prop} (hP : P + N < 1600) (hT : z_ty O V N w T)
    (hst : ∀ i, i < N → (τ.1 355 (P + i)).toInt = O i ∧ z_vv P (O i) (V i) (τ.1 356 (P + i)).toInt) (hend : (τ.1 355 (P + N)).toInt = 408)
    (wA : w_A A) (hm : (τ.1 346 0).toInt = A 0) (hfar : ∀ k, k < 64 → (τ.1 369 k).toInt = z_W A (k / 8) (k % 8)) (hb : ∀ j, x_al w j → y_sz (env j)) (he : ∀ j, x_al w j → (τ.1 371 j).toInt = env j) :
    ∀ (f i : Nat) (s : List Int), N - i ≤ f → i ≤ N → y_ok (T i) s → ∀ (σ : x_T), y_km τ σ s → (∀ (ρ : x_T) (u : Int64), ρ.1 = τ.1 → ρ.2.2 = τ.2.2 → u.toInt = y_ev O V N (z_far A) env f i s → K ρ u) → x_WL (d + 1 + 1) mX12_saysOf K 4 [(0, .ref 345), (2, .int (nI s.length)), (3, .int (nI (P + i)))] [] σ := by
  obtain ⟨hT0, hTN, hTl, hTs⟩ := hT
  have fz : ∀ x y, y_sz (z_far A x y) := fun x y => by have := z_far_b wA x y; unfold y_sz; omega
  have len : ∀ i s, i ≤ N → y_ok (T i) s → s.length ≤ 60 := fun i s hi h => by rw [ok_n _ _ h]; exact hTl i hi
  have atN : ∀ (f : Nat) (s : List Int), y_ok (T N) s → ∀ (σ : x_T), y_km τ σ s → (∀ (ρ : x_T) (u : Int64), ρ.1 = τ.1 → ρ.2.2 = τ.2.2 → u.toInt = y_ev O V N (z_far A) env f N s → K ρ u) → x_WL (d + 1 + 1) mX12_saysOf K 4 [(0, .ref 345), (2, .int (nI s.length)), (3, .int (nI (P + N)))] [] σ := by
    intro f s hok σ hk hK
    rw [hTN] at hok
    obtain ⟨v, r, rfl, hv, hr⟩ := ok_f hok
    have hr0 := ok_n _ _ hr
    have e408 : σ.1 355 (P + N) = 408 := z_eq.mpr (by rw [hk.1.1, hend]; decide)
    refine k_X12_saysOf_4 ⟨vp_in_nI (by omega) (by decide), ?_⟩
    rw [nI_clamp (by omega), e408]
    refine ⟨fun _ => hK σ _ hk.1.1 hk.1.2 ?_, fun q => absurd rfl q⟩
    rw [ev_N]
    have := hk.2.1
    rw [hr0] at this
    exact this
  intro f
  induction f with
  | zero =>
    intro i s hf hi hok σ hk hK
    have e : i = N := by omega
    subst e
    exact atN 0 s hok σ hk hK
  | succ f ih =>
    intro i s hf hi hok σ hk hK
    by_cases hiN : i = N
    · subst hiN
      exact atN (f + 1) s hok σ hk hK
    have hi : i < N := by omega
    obtain ⟨g1, g2⟩ := hst i hi
    have sl := len i s (by omega) hok
    have ci : (nI (P + i)).toNatClampNeg = P + i := nI_clamp (by omega)
    have vi : vp_in (nI (P + i)) 1600 := vp_in_nI (by omega) (by decide)
    have nx : ∀ (σ : x_T) (s' : List Int) (v2 : Int32), v2 = nI s'.length → y_km τ σ s' → y_ok (T (i + 1)) s' → y_ev O V N (z_far A) env (f + 1) i s = y_ev O V N (z_far A) env f (i + 1) s' → x_WL (d + 1 + 1) mX12_saysOf K 228 [(0, .ref 345), (2, .int v2), (3, .int (nI (P + i)))] [] σ := by
      intro σ s' v2 hv2 hk' hok' hev
      refine k_X12_saysOf_228 (fun y1 e1 => ?_)
      rw [e1, ← nI_succ, hv2]
      exact ih (i + 1) s' (by omega) (by omega) hok' σ hk' (fun ρ u f1 f2 hu => hK ρ u f1 f2 (by rw [hev]; exact hu))
    have jump : ∀ (j : Nat) (σ : x_T) (s' : List Int) (v2 v3 : Int32), i < j → j ≤ N → v2 = nI s'.length → v3 + 1 = nI (P + j) → y_km τ σ s' → y_ok (T j) s' → y_ev O V N (z_far A) env (f + 1) i s = y_ev O V N (z_far A) env f j s' → x_WL (d + 1 + 1) mX12_saysOf K 228 [(0, .ref 345), (2, .int v2), (3, .int v3)] [] σ := by
      intro j σ s' v2 v3 hij hjN hv2 hv3 hk' hok' hev
      refine k_X12_saysOf_228 (fun y1 e1 => ?_)
      rw [e1, hv3, hv2]
      exact ih j s' (by omega) hjN hok' σ hk' (fun ρ u f1 f2 hu => hK ρ u f1 f2 (by rw [hev]; exact hu))
    have push : ∀ (x : Int64) (v : Int), x.toInt = v → y_ok (T (i + 1)) (v :: s) → y_ev O V N (z_far A) env (f + 1) i s = y_ev O V N (z_far A) env f (i + 1) (v :: s) → x_WL (d + 1 + 1) mX12_saysOf K 75 [(0, .ref 345), (2, .int (nI s.length)), (3, .int (nI (P + i)))] [.long x, .int (nI s.length), .ref 372] σ := by
      intro x v hx hok' hev
      refine k_X12_saysOf_75 ⟨vp_in_nI (by omega) (by decide), fun t1 e1 y2 e2 => ?_⟩
      rw [nI_clamp (by omega)] at e1
      have k1 := km_w (v := x) hk rfl
      rw [hx, ← e1] at k1
      exact nx t1 (v :: s) y2 (by rw [e2, List.length_cons, nI_succ]) k1 hok' hev
    refine k_X12_saysOf_4 ⟨vi, ?_⟩
    rw [ci, hk.1.1]
    generalize hS : τ.1 355 (P + i) = S at g1
    generalize hG : τ.1 356 (P + i) = G at g2
    have n408 : ∀ o : Int, O i = o → ¬ o = 408 → ¬ S = 408 := fun o ho hne z => hne (by rw [← ho, ← g1, z]; decide)
    have p1 : ∀ n : Nat, n < 1000 → nI (n + 1) + (-1) = nI n := fun n hn => z_eq.mpr (by rw [z_add (by rw [z_n (by omega)]; simp only [Int32.reduceToInt]; omega), z_n (by omega), z_n (by omega)]; simp only [Int32.reduceToInt]; omega)
    have p2 : ∀ n : Nat, n < 1000 → nI (n + 1) - 1 = nI n := fun n hn => z_eq.mpr (by rw [z_sub (by rw [z_n (by omega)]; simp only [Int32.reduceToInt]; omega), z_n (by omega), z_n (by omega)]; simp only [Int32.reduceToInt]; omega)
    have ab : ∀ {n m : Int32} {Q : Prop}, ¬ n = m → S = n → S = m → Q := fun h1 h2 h3 => absurd (h2.symm.trans h3) h1
    have bin : y_bin (O i) → ∀ (x y : Int) (r : List Int), s = y :: x :: r → ((y_o1 (O i) ∧ y_sz x ∧ y_sz y) ∨ y_o2 (O i) ∨ (y_o3 (O i) ∧ y_01 x ∧ y_01 y)) → y_ok (T (i + 1)) (y_jn (z_far A) (O i) x y :: r) → ¬ S = 408 ∧ ¬ S = 400 ∧ ¬ S = 401 ∧ ¬ S = 404 ∧ ¬ S = 409 ∧ ¬ S = 402 ∧ ¬ S = 405 ∧ ∀ y2, y2 = nI s.length + (-1) → (vp_in (y2 - 1) 200 ∧ (vp_in y2 200 ∧ (x_CL (d + 1) mX12_worked [.ref 345, .int S, .long (σ.2.1 372 (y2 - 1).toNatClampNeg), .long (σ.2.1 372 y2.toNatClampNeg)] σ (fun t3 a4 => vp_in (y2 - 1) 200 ∧ (∀ t5, t5 = x_w2 t3 372 ((y2 - 1).toNatClampNeg) a4 → (x_WL (d + 1 + 1) mX12_saysOf K 228 [(0, .ref 345), (2, .int y2), (3, .int (nI (P + i)))] [] t5)))))) := by
      intro hb x y r hs hty hok'
      obtain ⟨b1, b2, b3, b4, b5, b6, b7⟩ := bin_o hb
      have ne : ∀ n : Int32, ¬ O i = n.toInt → ¬ S = n := fun n hn z => hn (by rw [← g1, z])
      refine ⟨ne 408 b7, ne 400 b1, ne 401 b2, ne 404 b5, ne 409 b6, ne 402 b3, ne 405 b4, fun y2 e2 => ?_⟩
      subst hs
      rw [List.length_cons, List.length_cons] at sl
      rw [List.length_cons, List.length_cons, p1 _ (by omega)] at e2
      subst e2
      rw [p2 _ (by omega), nI_clamp (n := r.length) (by omega), nI_clamp (n := r.length + 1) (by omega)]
      have k1 : (σ.2.1 372 (r.length + 1)).toInt = y := hk.2.1
      have k2 : (σ.2.1 372 r.length).toInt = x := hk.2.2.1
      refine ⟨vp_in_nI (by omega) (by decide), vp_in_nI (by omega) (by decide), ml_worked wA (by rw [hk.1.1]; exact hm) (fun k hk2 => by rw [hk.1.1]; exact hfar k hk2) g1 hty k2 k1 (fun u hu => ⟨vp_in_nI (by omega) (by decide), fun t5 e5 => ?_⟩)⟩
      have k3 := km_w (τ := τ) (σ := σ) (s := r) (v := u) ⟨hk.1, hk.2.2.2⟩ rfl
      rw [hu, ← e5] at k3
      exact nx t5 _ _ (by rw [List.length_cons]) k3 hok' (ev_bin hi hb)
    rcases hTs i hi with ⟨o1, o2, o3, o4⟩ | ⟨o1, ⟨j, o2, o3, o4⟩, o5⟩ | ⟨o1, r, o2, o3⟩ | ⟨o1, r, o2, o3⟩ | ⟨o1, r, j, o2, o3, o4, o5, o6, o7⟩ | ⟨o1, j, o2, o3, o4, o5⟩ | ⟨o1, r, o2, o3⟩ | ⟨o1, r, o2, o3⟩ | ⟨o1, r, o2, o3⟩
    · have eS : S = 400 := z_eq.mpr (by rw [g1, o1]; decide)
      refine ⟨fun q => ab (by decide) eS q, fun _ => ⟨vi, fun y1 e1 => ⟨fun q => k_X12_saysOf_40 ⟨fun z => absurd q z, fun _ => ⟨vi, ?_⟩⟩, fun q => absurd (e1.trans eS) q⟩⟩⟩
      rw [ci, hk.1.1, hG]
      refine push _ (V i) (by rw [l_i]; exact g2.1 (Or.inl o1)) ?_ ?_
      · rw [o4]; exact ok_cf (by unfold y_sz; omega) hok
      · rw [y_ev, if_neg (by omega), if_pos o1]
    · have eS : S = 401 := z_eq.mpr (by rw [g1, o1]; decide)
      have eG := g2.1 (Or.inr o1)
      rw [o4] at eG
      have eG2 : G = nI j := z_of (by omega) eG
      refine ⟨fun q => ab (by decide) eS q, fun _ => ⟨vi, fun y1 e1 => ⟨fun q => ab (by decide) eS (e1.symm.trans q), fun _ => ⟨fun q => absurd (e1.trans eS) q, fun q => k_X12_saysOf_40 ⟨fun _ => ⟨vi, ?_⟩, fun z => ab (by decide) eS (e1.symm.trans z)⟩⟩⟩⟩⟩
      rw [ci, hk.1.1, hG, eG2, nI_clamp (n := j) (by omega)]
      refine ⟨vp_in_nI (by omega) (by decide), push _ (env j) (by rw [l_i]; exact he j o2) ?_ ?_⟩
      · rw [o5]; exact ok_cf (hb j o2) hok
      · rw [y_ev, if_neg (by omega), if_neg (by omega), if_pos o1, o4, Int.toNat_natCast]
    · have eS : S = 402 := z_eq.mpr (by rw [g1, o1]; decide)
      rw [o2] at hok
      obtain ⟨v, s', rfl, hv, hr⟩ := ok_f hok
      rw [List.length_cons] at sl
      refine ⟨fun q => ab (by decide) eS q, fun _ => ⟨vi, fun y1 e1 => ⟨fun q => ab (by decide) eS (e1.symm.trans q), fun _ => ⟨fun _ => ⟨fun _ => ⟨fun _ => ⟨fun q => absurd (e1.trans eS) q, fun _ => ?_⟩, fun q => ab (by decide) eS (e1.symm.trans q)⟩, fun q => ab (by decide) eS (e1.symm.trans q)⟩, fun q => ab (by decide) eS (e1.symm.trans q)⟩⟩⟩⟩
      rw [List.length_cons, p2 _ (by omega), nI_clamp (n := s'.length) (by omega)]
      refine ⟨vp_in_nI (by omega) (by decide), vp_in_nI (by omega) (by decide), fun t7 e7 => ?_⟩
      have k1 : (σ.2.1 372 s'.length).toInt = v := hk.2.1
      have k3 := km_w (τ := τ) (σ := σ) (s := s') (v := -(σ.2.1 372 s'.length)) ⟨hk.1, hk.2.2⟩ rfl
      unfold y_sz at hv
      rw [l_neg (by rw [k1]; omega), k1, ← e7] at k3
      refine nx t7 _ _ (by rw [List.length_cons]) k3 ?_ ?_
      · rw [o3]; exact ok_cf (by unfold y_sz; omega) hr
      · rw [y_ev, if_neg (by omega), if_neg (by omega), if_neg (by omega), if_pos o1]; rfl
    · have eS : S = 405 := z_eq.mpr (by rw [g1, o1]; decide)
      rw [o2] at hok
      obtain ⟨v, s', rfl, hv, hr⟩ := ok_t hok
      rw [List.length_cons] at sl
      refine ⟨fun q => ab (by decide) eS q, fun _ => ⟨vi, fun y1 e1 => ⟨fun q => ab (by decide) eS (e1.symm.trans q), fun _ => ⟨fun _ => ⟨fun _ => ⟨fun _ => ⟨fun _ => ⟨fun q => absurd (e1.trans eS) q, fun _ => ?_⟩, fun q => ab (by decide) eS (e1.symm.trans q)⟩, fun q => ab (by decide) eS (e1.symm.trans q)⟩, fun q => ab (by decide) eS (e1.symm.trans q)⟩, fun q => ab (by decide) eS (e1.symm.trans q)⟩⟩⟩⟩
      rw [List.length_cons, p2 _ (by omega), nI_clamp (n := s'.length) (by omega)]
      refine ⟨vp_in_nI (by omega) (by decide), vp_in_nI (by omega) (by decide), fun t7 e7 => ?_⟩
      have k1 : (σ.2.1 372 s'.length).toInt = v := hk.2.1
      have z1 : (1 : Int64).toInt = 1 := by decide
      have k3 := km_w (τ := τ) (σ := σ) (s := s') (v := 1 - (σ.2.1 372 s'.length)) ⟨hk.1, hk.2.2⟩ rfl
      unfold y_01 at hv
      rw [l_sub (by rw [k1, z1]; omega), k1, z1, ← e7] at k3
      refine nx t7 _ _ (by rw [List.length_cons]) k3 ?_ ?_
      · rw [o3]; exact ok_ct (by unfold y_01; omega) hr
      · rw [y_ev, if_neg (by omega), if_neg (by omega), if_neg (by omega), if_neg (by omega), if_pos o1]; rfl
    · have eS : S = 404 := z_eq.mpr (by rw [g1, o1]; decide)
      rw [o2] at hok
      obtain ⟨v, s', rfl, hv, hr⟩ := ok_t hok
      rw [List.length_cons] at sl
      have eG := g2.2 (Or.inl o1)
      rw [o4] at eG
      have z0 : (0 : Int64).toInt = 0 := by decide
      have k1 : (σ.2.1 372 s'.length).toInt = v := hk.2.1
      have kr : y_km τ σ s' := ⟨hk.1, hk.2.2⟩
      refine ⟨fun q => ab (by decide) eS q, fun _ => ⟨vi, fun y1 e1 => ⟨fun q => ab (by decide) eS (e1.symm.trans q), fun _ => ⟨fun _ => ⟨fun q => absurd (e1.trans eS) q, fun _ y9 e9 => ?_⟩, fun q => ab (by decide) eS (e1.symm.trans q)⟩⟩⟩⟩
      rw [List.length_cons, p1 _ (by omega)] at e9
      subst e9
      rw [nI_clamp (n := s'.length) (by omega)]
      refine ⟨vp_in_nI (by omega) (by decide), fun q => k_X12_saysOf_116 (nx σ s' _ rfl kr (by rw [o3]; exact hr) ?_), fun q => ⟨vi, k_X12_saysOf_116 ?_⟩⟩
      · rw [l_ceq, k1, z0] at q
        rw [y_ev, if_neg (by omega), if_neg (by omega), if_neg (by omega), if_neg (by omega), if_neg (by omega), if_pos o1, if_neg (by exact q)]; rfl
      · rw [l_ceq, k1, z0] at q
        refine jump j σ s' _ _ o5 o6 rfl ?_ kr (by rw [o7]; exact hr) ?_
        · have e0 : (G - 1).toInt = (P : Int) + j - 1 := by rw [z_sub (by rw [eG]; simp only [Int32.reduceToInt]; omega), eG]; rfl
          exact z_of (by omega) (by rw [z_add (by rw [e0]; simp only [Int32.reduceToInt]; omega), e0]; simp only [Int32.reduceToInt]; omega)
        · rw [y_ev, if_neg (by omega), if_neg (by omega), if_neg (by omega), if_neg (by omega), if_neg (by omega), if_pos o1, if_pos (by exact q), o4, Int.toNat_natCast]; rfl
    · have eS : S = 409 := z_eq.mpr (by rw [g1, o1]; decide)
      have eG := g2.2 (Or.inr o1)
      rw [o2] at eG
      refine ⟨fun q => ab (by decide) eS q, fun _ => ⟨vi, fun y1 e1 => ⟨fun q => ab (by decide) eS (e1.symm.trans q), fun _ => ⟨fun _ => ⟨fun _ => ⟨fun q => absurd (e1.trans eS) q, fun _ => ⟨vi, fun y8 e8 => ?_⟩⟩, fun q => ab (by decide) eS (e1.symm.trans q)⟩, fun q => ab (by decide) eS (e1.symm.trans q)⟩⟩⟩⟩
      refine jump j σ s _ _ o3 o4 rfl ?_ hk (by rw [o5]; exact hok) ?_
      · have e0 : y8.toInt = (P : Int) + j - 1 := by rw [e8, z_sub (by rw [eG]; simp only [Int32.reduceToInt]; omega), eG]; rfl
        exact z_of (by omega) (by rw [z_add (by rw [e0]; simp only [Int32.reduceToInt]; omega), e0]; simp only [Int32.reduceToInt]; omega)
      · rw [y_ev, if_neg (by omega), if_neg (by omega), if_neg (by omega), if_neg (by omega), if_neg (by omega), if_neg (by omega), if_pos o1, o2, Int.toNat_natCast]
    · rw [o2] at hok
      obtain ⟨y, s1, rfl, hy, h1⟩ := ok_f hok
      obtain ⟨x, s2, rfl, hx, h2⟩ := ok_f h1
      obtain ⟨c1, c2, c3, c4, c5, c6, c7, c8⟩ := bin (Or.inl o1) x y s2 rfl (Or.inl ⟨o1, hx, hy⟩) (by rw [o3]; exact ok_cf (jn_1 fz o1 hx) h2)
      refine ⟨fun q => absurd q c1, fun _ => ⟨vi, fun y1 e1 => ?_⟩⟩
      subst e1
      exact ⟨fun q => absurd q c2, fun _ => ⟨fun _ => ⟨fun _ => ⟨fun _ => ⟨fun _ => ⟨fun _ => c8, fun q => absurd q c7⟩, fun q => absurd q c6⟩, fun q => absurd q c5⟩, fun q => absurd q c4⟩, fun q => absurd q c3⟩⟩
    · rw [o2] at hok
      obtain ⟨y, s1, rfl, hy, h1⟩ := ok_f hok
      obtain ⟨x, s2, rfl, hx, h2⟩ := ok_f h1
      obtain ⟨c1, c2, c3, c4, c5, c6, c7, c8⟩ := bin (Or.inr (Or.inl o1)) x y s2 rfl (Or.inr (Or.inl o1)) (by rw [o3]; exact ok_ct (jn_2 o1) h2)
      refine ⟨fun q => absurd q c1, fun _ => ⟨vi, fun y1 e1 => ?_⟩⟩
      subst e1
      exact ⟨fun q => absurd q c2, fun _ => ⟨fun _ => ⟨fun _ => ⟨fun _ => ⟨fun _ => ⟨fun _ => c8, fun q => absurd q c7⟩, fun q => absurd q c6⟩, fun q => absurd q c5⟩, fun q => absurd q c4⟩, fun q => absurd q c3⟩⟩
    · rw [o2] at hok
      obtain ⟨y, s1, rfl, hy, h1⟩ := ok_t hok
      obtain ⟨x, s2, rfl, hx, h2⟩ := ok_t h1
      obtain ⟨c1, c2, c3, c4, c5, c6, c7, c8⟩ := bin (Or.inr (Or.inr o1)) x y s2 rfl (Or.inr (Or.inr ⟨o1, hx, hy⟩)) (by rw [o3]; exact ok_ct (jn_3 o1 hx hy) h2)
      refine ⟨fun q => absurd q c1, fun _ => ⟨vi, fun y1 e1 => ?_⟩⟩
      subst e1
      exact ⟨fun q => absurd q c2, fun _ => ⟨fun _ => ⟨fun _ => ⟨fun _ => ⟨fun _ => ⟨fun _ => c8, fun q => absurd q c7⟩, fun q => absurd q c6⟩, fun q => absurd q c5⟩, fun q => absurd q c4⟩, fun q => absurd q c3⟩⟩
