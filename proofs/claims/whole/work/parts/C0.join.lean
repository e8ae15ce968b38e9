/-! what a law asks, in numbers -/
theorem l_bm {a : Int} (h : -9223372036854775808 ≤ a ∧ a < 9223372036854775808) : a.bmod (2 ^ 64) = a := Int.bmod_eq_of_le (by omega) (by omega)
theorem l_add {a b : Int64} (h : -9223372036854775808 ≤ a.toInt + b.toInt ∧ a.toInt + b.toInt < 9223372036854775808) : (a + b).toInt = a.toInt + b.toInt := by rw [Int64.toInt_add]; exact l_bm h
theorem l_sub {a b : Int64} (h : -9223372036854775808 ≤ a.toInt - b.toInt ∧ a.toInt - b.toInt < 9223372036854775808) : (a - b).toInt = a.toInt - b.toInt := by rw [Int64.toInt_sub]; exact l_bm h
theorem l_mul {a b : Int64} (h : -9223372036854775808 ≤ a.toInt * b.toInt ∧ a.toInt * b.toInt < 9223372036854775808) : (a * b).toInt = a.toInt * b.toInt := by rw [Int64.toInt_mul]; exact l_bm h
theorem l_neg {a : Int64} (h : -1000000 ≤ a.toInt ∧ a.toInt ≤ 1000000) : (-a).toInt = -a.toInt := by rw [Int64.toInt_neg]; exact l_bm (by omega)
theorem l_ceq {x y : Int64} : lg_cmp x y = 0 ↔ x.toInt = y.toInt := by
  have h1 := l_cge (x := x) (y := y)
  have h2 := l_cle (x := x) (y := y)
  constructor
  · intro h
    have a := h1.mp (by rw [h]; decide)
    have b := h2.mp (by rw [h]; decide)
    omega
  · intro h
    have a := h1.mpr (by omega)
    have b := h2.mpr (by omega)
    rw [z_le] at a b
    rw [z_eq]
    simp only [Int32.reduceToInt] at a b ⊢
    omega
theorem l_clt {x y : Int64} : lg_cmp x y < 0 ↔ x.toInt < y.toInt := by
  have h1 := l_cge (x := x) (y := y)
  rw [z_le] at h1
  rw [z_lt]
  simp only [Int32.reduceToInt] at h1 ⊢
  omega
theorem l_cgt {x y : Int64} : 0 < lg_cmp x y ↔ y.toInt < x.toInt := by
  have h1 := l_cle (x := x) (y := y)
  rw [z_le] at h1
  rw [z_lt]
  simp only [Int32.reduceToInt] at h1 ⊢
  omega
def y_bd6 (z : Int) : Int := if 1000000 < z then 1000000 else if z < -1000000 then -1000000 else z
theorem bd6_b (z : Int) : -1000000 ≤ y_bd6 z ∧ y_bd6 z ≤ 1000000 := by unfold y_bd6; split <;> (try split) <;> omega
theorem bd6_n {z : Int} (h : -1000000 ≤ z ∧ z ≤ 1000000) : y_bd6 z = z := by unfold y_bd6; rw [if_neg (by omega), if_neg (by omega)]
def y_jn (far : Int → Int → Int) (o x y : Int) : Int := if o = 43 then y_bd6 (x + y) else if o = 45 then y_bd6 (x - y) else if o = 42 then y_bd6 (x * y) else if o = 47 then (if y = 0 then 0 else x.tdiv y) else if o = 403 then far x y else if o = 60 then (if x < y then 1 else 0) else if o = 62 then (if y < x then 1 else 0) else if o = 61 then (if x = y then 1 else 0) else if o = 35 then (if x = y then 0 else 1) else if o = 300 then (if x ≤ y then 1 else 0) else if o = 301 then (if y ≤ x then 1 else 0) else if o = 406 then x * y else (if 0 < x + y then 1 else 0)
theorem tdiv_b {x y : Int} (h : -1000000 ≤ x ∧ x ≤ 1000000) : -1000000 ≤ x.tdiv y ∧ x.tdiv y ≤ 1000000 := by
  have := Int.natAbs_tdiv_le_natAbs x y
  omega
/-- the three sorts of steps that join two -/
def y_o1 (o : Int) : Prop := o = 43 ∨ o = 45 ∨ o = 42 ∨ o = 47 ∨ o = 403
def y_o2 (o : Int) : Prop := o = 60 ∨ o = 62 ∨ o = 61 ∨ o = 35 ∨ o = 300 ∨ o = 301
def y_o3 (o : Int) : Prop := o = 406 ∨ o = 407
def y_sz (x : Int) : Prop := -1000000 ≤ x ∧ x ≤ 1000000
def y_01 (x : Int) : Prop := x = 0 ∨ x = 1
theorem jn_1 {far : Int → Int → Int} {o x y : Int} (hf : ∀ x y, y_sz (far x y)) (ho : y_o1 o) (hx : y_sz x) : y_sz (y_jn far o x y) := by
  unfold y_jn
  rcases ho with h | h | h | h | h <;> subst h <;> simp only [Int.reduceEq, if_true, if_false]
  · exact bd6_b _
  · exact bd6_b _
  · exact bd6_b _
  · split
    · unfold y_sz; omega
    · exact tdiv_b hx
  · exact hf _ _
theorem jn_2 {far : Int → Int → Int} {o x y : Int} (ho : y_o2 o) : y_01 (y_jn far o x y) := by
  unfold y_jn y_01
  rcases ho with h | h | h | h | h | h <;> subst h <;> simp only [Int.reduceEq, if_true, if_false] <;> split <;> omega
theorem jn_3 {far : Int → Int → Int} {o x y : Int} (ho : y_o3 o) (hx : y_01 x) (hy : y_01 y) : y_01 (y_jn far o x y) := by
  unfold y_jn y_01
  rcases ho with h | h <;> subst h <;> simp only [Int.reduceEq, if_true, if_false]
  · rcases hx with h | h <;> rcases hy with g | g <;> subst h <;> subst g <;> decide
  · split <;> omega
theorem mul6 {x y : Int} (hx : y_sz x) (hy : y_sz y) : -1000000000000 ≤ x * y ∧ x * y ≤ 1000000000000 := by
  have h1 : (x * y).natAbs ≤ 1000000 * 1000000 := by
    rw [Int.natAbs_mul]
    exact Nat.mul_le_mul (by unfold y_sz at hx; omega) (by unfold y_sz at hy; omega)
  omega
theorem cl_250 {d : Nat} {τ : x_T} {K : x_T → Int32 → Prop} {w : Int64} (h : ∀ u : Int32, u.toInt = y_bd6 w.toInt → K τ u) : x_WI d mX4_joined K 250 [(3, .long w)] [] τ := by
  have e1 : (1000000 : Int64).toInt = 1000000 := by decide
  have e2 : (-1000000 : Int64).toInt = -1000000 := by decide
  refine k_X4_joined_250 ⟨fun q => ⟨fun r => h _ ?_, fun r => h _ ?_⟩, fun q => h _ ?_⟩
  · rw [l_cle, e1] at q
    rw [l_cge, e2] at r
    rw [Int64.toInt_toInt32, z_bm (by omega), bd6_n (by omega)]
  · rw [l_cle, e1] at q
    rw [l_cge, e2] at r
    unfold y_bd6
    rw [if_neg (by omega), if_pos (by omega)]; decide
  · rw [l_cle, e1] at q
    unfold y_bd6
    rw [if_pos (by omega)]; decide
set_option maxRecDepth 20000 in
theorem cl_j36 {d : Nat} {a b : Int32} {x y : Int} {far : Int → Int → Int} {τ : x_T} {K : x_T → Int32 → Prop} (hx : y_sz x) (hy : y_sz y) (ha : a.toInt = x) (hb : b.toInt = y) (h : ∀ u : Int32, u.toInt = y_jn far 43 x y → K τ u) : x_CI d mX4_joined [.int 36, .int a, .int b] τ K := by
  have fin : ∀ w : Int64, y_bd6 w.toInt = y_jn far 43 x y → x_WI d mX4_joined K 250 [(3, .long w)] [] τ := fun w hw => cl_250 (fun u hu => h u (hu.trans hw))
  refine e_X4_joined ?_
  iterate 16 refine ⟨fun q => absurd q (by decide), fun _ => ?_⟩
  unfold y_sz at hx hy
  refine ⟨fun _ y3 e3 => fin _ ?_, fun q => absurd rfl q⟩
  rw [e3, l_i, z_add (by omega), ha, hb]
  unfold y_jn
  rw [if_pos rfl]
set_option maxRecDepth 20000 in
theorem cl_j37 {d : Nat} {a b : Int32} {x y : Int} {far : Int → Int → Int} {τ : x_T} {K : x_T → Int32 → Prop} (hx : y_sz x) (hy : y_sz y) (ha : a.toInt = x) (hb : b.toInt = y) (h : ∀ u : Int32, u.toInt = y_jn far 45 x y → K τ u) : x_CI d mX4_joined [.int 37, .int a, .int b] τ K := by
  have fin : ∀ w : Int64, y_bd6 w.toInt = y_jn far 45 x y → x_WI d mX4_joined K 250 [(3, .long w)] [] τ := fun w hw => cl_250 (fun u hu => h u (hu.trans hw))
  refine e_X4_joined ?_
  iterate 17 refine ⟨fun q => absurd q (by decide), fun _ => ?_⟩
  unfold y_sz at hx hy
  refine ⟨fun _ y3 e3 => fin _ ?_, fun q => absurd rfl q⟩
  rw [e3, l_i, z_sub (by omega), ha, hb]
  unfold y_jn
  rw [if_neg (by decide), if_pos rfl]
set_option maxRecDepth 20000 in
theorem cl_j38 {d : Nat} {a b : Int32} {x y : Int} {far : Int → Int → Int} {τ : x_T} {K : x_T → Int32 → Prop} (hx : y_sz x) (hy : y_sz y) (ha : a.toInt = x) (hb : b.toInt = y) (h : ∀ u : Int32, u.toInt = y_jn far 42 x y → K τ u) : x_CI d mX4_joined [.int 38, .int a, .int b] τ K := by
  have fin : ∀ w : Int64, y_bd6 w.toInt = y_jn far 42 x y → x_WI d mX4_joined K 250 [(3, .long w)] [] τ := fun w hw => cl_250 (fun u hu => h u (hu.trans hw))
  refine e_X4_joined ?_
  iterate 18 refine ⟨fun q => absurd q (by decide), fun _ => ?_⟩
  have mm := mul6 hx hy
  refine ⟨fun _ y3 e3 => fin _ ?_, fun q => absurd rfl q⟩
  rw [e3, l_mul (by rw [l_i, l_i, ha, hb]; omega), l_i, l_i, ha, hb]
  unfold y_jn
  rw [if_neg (by decide), if_neg (by decide), if_pos rfl]
set_option maxRecDepth 20000 in
theorem cl_j39 {d : Nat} {a b : Int32} {x y : Int} {far : Int → Int → Int} {τ : x_T} {K : x_T → Int32 → Prop} (hx : y_sz x) (hy : y_sz y) (ha : a.toInt = x) (hb : b.toInt = y) (h : ∀ u : Int32, u.toInt = y_jn far 47 x y → K τ u) : x_CI d mX4_joined [.int 39, .int a, .int b] τ K := by
  have fin : ∀ w : Int64, y_bd6 w.toInt = y_jn far 47 x y → x_WI d mX4_joined K 250 [(3, .long w)] [] τ := fun w hw => cl_250 (fun u hu => h u (hu.trans hw))
  refine e_X4_joined ?_
  iterate 19 refine ⟨fun q => absurd q (by decide), fun _ => ?_⟩
  unfold y_sz at hx hy
  refine ⟨fun _ => ⟨fun q => ⟨q, k_X4_joined_149 (fin _ ?_)⟩, fun q => k_X4_joined_149 (fin _ ?_)⟩, fun q => absurd rfl q⟩
  · have tb := tdiv_b (x := x) (y := y) (by omega)
    have y0 : ¬ y = 0 := fun z => q (z_eq.mpr (by rw [hb, z]; rfl))
    rw [l_i, Int32.toInt_div_of_ne_left _ _ (fun z => by
      have : a.toInt = Int32.minValue.toInt := by rw [z]
      rw [ha] at this
      have e : Int32.minValue.toInt = -2147483648 := by decide
      omega), ha, hb, bd6_n tb]
    show x.tdiv y = if y = 0 then 0 else x.tdiv y
    rw [if_neg y0]
  · have y0 : y = 0 := by rw [← hb, q]; rfl
    show y_bd6 (0 : Int64).toInt = if y = 0 then 0 else x.tdiv y
    rw [if_pos y0]; decide
set_option maxRecDepth 20000 in
theorem cl_j32 {d : Nat} {a b : Int32} {x y : Int} {far : Int → Int → Int} {τ : x_T} {K : x_T → Int32 → Prop} (ha : a.toInt = x) (hb : b.toInt = y) (h : ∀ u : Int32, u.toInt = y_jn far 60 x y → K τ u) : x_CI d mX4_joined [.int 32, .int a, .int b] τ K := by
  have fin : ∀ w : Int64, y_bd6 w.toInt = y_jn far 60 x y → x_WI d mX4_joined K 250 [(3, .long w)] [] τ := fun w hw => cl_250 (fun u hu => h u (hu.trans hw))
  refine e_X4_joined ?_
  iterate 12 refine ⟨fun q => absurd q (by decide), fun _ => ?_⟩
  refine ⟨fun _ => ⟨fun q => k_X4_joined_179 (fin _ ?_), fun q => k_X4_joined_179 (fin _ ?_)⟩, fun q => absurd rfl q⟩
  · rw [z_le, ha, hb] at q
    show y_bd6 (0 : Int64).toInt = if x < y then 1 else 0
    rw [if_neg (by omega)]; decide
  · rw [z_le, ha, hb] at q
    show y_bd6 (1 : Int64).toInt = if x < y then 1 else 0
    rw [if_pos (by omega)]; decide
set_option maxRecDepth 20000 in
theorem cl_j33 {d : Nat} {a b : Int32} {x y : Int} {far : Int → Int → Int} {τ : x_T} {K : x_T → Int32 → Prop} (ha : a.toInt = x) (hb : b.toInt = y) (h : ∀ u : Int32, u.toInt = y_jn far 62 x y → K τ u) : x_CI d mX4_joined [.int 33, .int a, .int b] τ K := by
  have fin : ∀ w : Int64, y_bd6 w.toInt = y_jn far 62 x y → x_WI d mX4_joined K 250 [(3, .long w)] [] τ := fun w hw => cl_250 (fun u hu => h u (hu.trans hw))
  refine e_X4_joined ?_
  iterate 13 refine ⟨fun q => absurd q (by decide), fun _ => ?_⟩
  refine ⟨fun _ => ⟨fun q => k_X4_joined_193 (fin _ ?_), fun q => k_X4_joined_193 (fin _ ?_)⟩, fun q => absurd rfl q⟩
  · rw [z_le, ha, hb] at q
    show y_bd6 (0 : Int64).toInt = if y < x then 1 else 0
    rw [if_neg (by omega)]; decide
  · rw [z_le, ha, hb] at q
    show y_bd6 (1 : Int64).toInt = if y < x then 1 else 0
    rw [if_pos (by omega)]; decide
set_option maxRecDepth 20000 in
theorem cl_j34 {d : Nat} {a b : Int32} {x y : Int} {far : Int → Int → Int} {τ : x_T} {K : x_T → Int32 → Prop} (ha : a.toInt = x) (hb : b.toInt = y) (h : ∀ u : Int32, u.toInt = y_jn far 61 x y → K τ u) : x_CI d mX4_joined [.int 34, .int a, .int b] τ K := by
  have fin : ∀ w : Int64, y_bd6 w.toInt = y_jn far 61 x y → x_WI d mX4_joined K 250 [(3, .long w)] [] τ := fun w hw => cl_250 (fun u hu => h u (hu.trans hw))
  refine e_X4_joined ?_
  iterate 14 refine ⟨fun q => absurd q (by decide), fun _ => ?_⟩
  refine ⟨fun _ => ⟨fun q => k_X4_joined_207 (fin _ ?_), fun q => k_X4_joined_207 (fin _ ?_)⟩, fun q => absurd rfl q⟩
  · rw [z_eq, ha, hb] at q
    show y_bd6 (0 : Int64).toInt = if x = y then 1 else 0
    rw [if_neg q]; decide
  · rw [z_eq, ha, hb] at q
    show y_bd6 (1 : Int64).toInt = if x = y then 1 else 0
    rw [if_pos q]; decide
set_option maxRecDepth 20000 in
theorem cl_j35 {d : Nat} {a b : Int32} {x y : Int} {far : Int → Int → Int} {τ : x_T} {K : x_T → Int32 → Prop} (ha : a.toInt = x) (hb : b.toInt = y) (h : ∀ u : Int32, u.toInt = y_jn far 35 x y → K τ u) : x_CI d mX4_joined [.int 35, .int a, .int b] τ K := by
  have fin : ∀ w : Int64, y_bd6 w.toInt = y_jn far 35 x y → x_WI d mX4_joined K 250 [(3, .long w)] [] τ := fun w hw => cl_250 (fun u hu => h u (hu.trans hw))
  refine e_X4_joined ?_
  iterate 15 refine ⟨fun q => absurd q (by decide), fun _ => ?_⟩
  refine ⟨fun _ => ⟨fun q => k_X4_joined_221 (fin _ ?_), fun q => k_X4_joined_221 (fin _ ?_)⟩, fun q => absurd rfl q⟩
  · rw [z_eq, ha, hb] at q
    show y_bd6 (0 : Int64).toInt = if x = y then 0 else 1
    rw [if_pos q]; decide
  · rw [z_eq, ha, hb] at q
    show y_bd6 (1 : Int64).toInt = if x = y then 0 else 1
    rw [if_neg q]; decide
set_option maxRecDepth 20000 in
theorem cl_j43 {d : Nat} {a b : Int32} {x y : Int} {far : Int → Int → Int} {τ : x_T} {K : x_T → Int32 → Prop} (ha : a.toInt = x) (hb : b.toInt = y) (h : ∀ u : Int32, u.toInt = y_jn far 300 x y → K τ u) : x_CI d mX4_joined [.int 43, .int a, .int b] τ K := by
  have fin : ∀ w : Int64, y_bd6 w.toInt = y_jn far 300 x y → x_WI d mX4_joined K 250 [(3, .long w)] [] τ := fun w hw => cl_250 (fun u hu => h u (hu.trans hw))
  refine e_X4_joined ?_
  iterate 23 refine ⟨fun q => absurd q (by decide), fun _ => ?_⟩
  refine ⟨fun _ => ⟨fun q => k_X4_joined_235 (fin _ ?_), fun q => k_X4_joined_235 (fin _ ?_)⟩, fun q => absurd rfl q⟩
  · rw [z_lt, ha, hb] at q
    show y_bd6 (0 : Int64).toInt = if x ≤ y then 1 else 0
    rw [if_neg (by omega)]; decide
  · rw [z_lt, ha, hb] at q
    show y_bd6 (1 : Int64).toInt = if x ≤ y then 1 else 0
    rw [if_pos (by omega)]; decide
set_option maxRecDepth 20000 in
theorem cl_j44 {d : Nat} {a b : Int32} {x y : Int} {far : Int → Int → Int} {τ : x_T} {K : x_T → Int32 → Prop} (ha : a.toInt = x) (hb : b.toInt = y) (h : ∀ u : Int32, u.toInt = y_jn far 301 x y → K τ u) : x_CI d mX4_joined [.int 44, .int a, .int b] τ K := by
  have fin : ∀ w : Int64, y_bd6 w.toInt = y_jn far 301 x y → x_WI d mX4_joined K 250 [(3, .long w)] [] τ := fun w hw => cl_250 (fun u hu => h u (hu.trans hw))
  refine e_X4_joined ?_
  iterate 24 refine ⟨fun q => absurd q (by decide), fun _ => ?_⟩
  refine ⟨fun q => k_X4_joined_249 (fin _ ?_), fun q => k_X4_joined_249 (fin _ ?_)⟩
  · rw [z_lt, ha, hb] at q
    show y_bd6 (0 : Int64).toInt = if y ≤ x then 1 else 0
    rw [if_neg (by omega)]; decide
  · rw [z_lt, ha, hb] at q
    show y_bd6 (1 : Int64).toInt = if y ≤ x then 1 else 0
    rw [if_pos (by omega)]; decide
set_option maxRecDepth 20000 in
theorem cl_j21 {d : Nat} {a b : Int32} {x y : Int} {far : Int → Int → Int} {τ : x_T} {K : x_T → Int32 → Prop} (hx : y_01 x) (hy : y_01 y) (ha : a.toInt = x) (hb : b.toInt = y) (h : ∀ u : Int32, u.toInt = y_jn far 406 x y → K τ u) : x_CI d mX4_joined [.int 21, .int a, .int b] τ K := by
  have fin : ∀ w : Int64, y_bd6 w.toInt = y_jn far 406 x y → x_WI d mX4_joined K 250 [(3, .long w)] [] τ := fun w hw => cl_250 (fun u hu => h u (hu.trans hw))
  refine e_X4_joined ?_
  iterate 1 refine ⟨fun q => absurd q (by decide), fun _ => ?_⟩
  have ea : a = 0 ∨ a = 1 := by
    rcases hx with z | z
    · left; exact z_eq.mpr (by rw [ha, z]; rfl)
    · right; exact z_eq.mpr (by rw [ha, z]; rfl)
  have eb : b = 0 ∨ b = 1 := by
    rcases hy with z | z
    · left; exact z_eq.mpr (by rw [hb, z]; rfl)
    · right; exact z_eq.mpr (by rw [hb, z]; rfl)
  refine ⟨fun _ y3 e3 => fin _ ?_, fun q => absurd rfl q⟩
  rw [e3, ← ha, ← hb]
  show y_bd6 (a &&& b).toInt64.toInt = a.toInt * b.toInt
  rcases ea with z | z <;> rcases eb with g | g <;> rw [z, g] <;> decide
set_option maxRecDepth 20000 in
theorem cl_j20 {d : Nat} {a b : Int32} {x y : Int} {far : Int → Int → Int} {τ : x_T} {K : x_T → Int32 → Prop} (hx : y_01 x) (hy : y_01 y) (ha : a.toInt = x) (hb : b.toInt = y) (h : ∀ u : Int32, u.toInt = y_jn far 407 x y → K τ u) : x_CI d mX4_joined [.int 20, .int a, .int b] τ K := by
  have fin : ∀ w : Int64, y_bd6 w.toInt = y_jn far 407 x y → x_WI d mX4_joined K 250 [(3, .long w)] [] τ := fun w hw => cl_250 (fun u hu => h u (hu.trans hw))
  refine e_X4_joined ?_
  have ea : a = 0 ∨ a = 1 := by
    rcases hx with z | z
    · left; exact z_eq.mpr (by rw [ha, z]; rfl)
    · right; exact z_eq.mpr (by rw [ha, z]; rfl)
  have eb : b = 0 ∨ b = 1 := by
    rcases hy with z | z
    · left; exact z_eq.mpr (by rw [hb, z]; rfl)
    · right; exact z_eq.mpr (by rw [hb, z]; rfl)
  refine ⟨fun _ y3 e3 => fin _ ?_, fun q => absurd rfl q⟩
  rw [e3, ← ha, ← hb]
  show y_bd6 (a ||| b).toInt64.toInt = if 0 < a.toInt + b.toInt then 1 else 0
  rcases ea with z | z <;> rcases eb with g | g <;> rw [z, g] <;> decide
theorem cl_joined {d : Nat} {s0 a b : Int32} {o x y : Int} {far : Int → Int → Int} {τ : x_T} {K : x_T → Int32 → Prop} (hs : s0.toInt = x_op o) (ho : (y_o1 o ∧ ¬ o = 403 ∧ y_sz x ∧ y_sz y) ∨ (y_o2 o) ∨ (y_o3 o ∧ y_01 x ∧ y_01 y)) (ha : a.toInt = x) (hb : b.toInt = y) (h : ∀ u : Int32, u.toInt = y_jn far o x y → K τ u) : x_CI d mX4_joined [.int s0, .int a, .int b] τ K := by
  rcases ho with ⟨ho, h4, hx, hy⟩ | ho | ⟨ho, hx, hy⟩
  · rcases ho with e | e | e | e | e
    · subst e
      have e : s0 = 36 := z_eq.mpr (by rw [hs]; decide)
      subst e
      exact cl_j36 hx hy ha hb h
    · subst e
      have e : s0 = 37 := z_eq.mpr (by rw [hs]; decide)
      subst e
      exact cl_j37 hx hy ha hb h
    · subst e
      have e : s0 = 38 := z_eq.mpr (by rw [hs]; decide)
      subst e
      exact cl_j38 hx hy ha hb h
    · subst e
      have e : s0 = 39 := z_eq.mpr (by rw [hs]; decide)
      subst e
      exact cl_j39 hx hy ha hb h
    · exact absurd e h4
  · rcases ho with e | e | e | e | e | e
    · subst e
      have e : s0 = 32 := z_eq.mpr (by rw [hs]; decide)
      subst e
      exact cl_j32 ha hb h
    · subst e
      have e : s0 = 33 := z_eq.mpr (by rw [hs]; decide)
      subst e
      exact cl_j33 ha hb h
    · subst e
      have e : s0 = 34 := z_eq.mpr (by rw [hs]; decide)
      subst e
      exact cl_j34 ha hb h
    · subst e
      have e : s0 = 35 := z_eq.mpr (by rw [hs]; decide)
      subst e
      exact cl_j35 ha hb h
    · subst e
      have e : s0 = 43 := z_eq.mpr (by rw [hs]; decide)
      subst e
      exact cl_j43 ha hb h
    · subst e
      have e : s0 = 44 := z_eq.mpr (by rw [hs]; decide)
      subst e
      exact cl_j44 ha hb h
  · rcases ho with e | e
    · subst e
      have e : s0 = 21 := z_eq.mpr (by rw [hs]; decide)
      subst e
      exact cl_j21 hx hy ha hb h
    · subst e
      have e : s0 = 20 := z_eq.mpr (by rw [hs]; decide)
      subst e
      exact cl_j20 hx hy ha hb h
