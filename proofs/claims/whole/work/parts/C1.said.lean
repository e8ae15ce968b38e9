/-! a law asked: the class -/
def y_stk (f : Nat → Int) : List Int → Prop
  | [] => True
  | v :: r => f r.length = v ∧ y_stk f r
theorem stk_cg {f g : Nat → Int} : ∀ s : List Int, (∀ k, k < s.length → f k = g k) → y_stk f s → y_stk g s := by
  intro s
  induction s with
  | nil => intro _ _; trivial
  | cons v r ih =>
    intro h hs
    refine ⟨?_, ih (fun k hk => h k (by rw [List.length_cons]; omega)) hs.2⟩
    rw [← h r.length (by rw [List.length_cons]; omega)]
    exact hs.1
def y_ok : List Bool → List Int → Prop
  | [], [] => True
  | b :: T, v :: s => (if b = true then y_01 v else y_sz v) ∧ y_ok T s
  | _, _ => False
theorem ok_n : ∀ (T : List Bool) (s : List Int), y_ok T s → s.length = T.length := by
  intro T
  induction T with
  | nil => intro s h; cases s with
    | nil => rfl
    | cons v s => exact absurd h (by simp [y_ok])
  | cons b T ih => intro s h; cases s with
    | nil => exact absurd h (by simp [y_ok])
    | cons v s => rw [List.length_cons, List.length_cons, ih s h.2]
theorem ok_f {T : List Bool} {s : List Int} (h : y_ok (false :: T) s) : ∃ v r, s = v :: r ∧ y_sz v ∧ y_ok T r := by
  cases s with
  | nil => exact absurd h (by simp [y_ok])
  | cons v r => exact ⟨v, r, rfl, by have := h.1; simpa using this, h.2⟩
theorem ok_t {T : List Bool} {s : List Int} (h : y_ok (true :: T) s) : ∃ v r, s = v :: r ∧ y_01 v ∧ y_ok T r := by
  cases s with
  | nil => exact absurd h (by simp [y_ok])
  | cons v r => exact ⟨v, r, rfl, by have := h.1; simpa using this, h.2⟩
theorem ok_cf {T : List Bool} {s : List Int} {v : Int} (hv : y_sz v) (h : y_ok T s) : y_ok (false :: T) (v :: s) := ⟨by simpa using hv, h⟩
theorem ok_ct {T : List Bool} {s : List Int} {v : Int} (hv : y_01 v) (h : y_ok T s) : y_ok (true :: T) (v :: s) := ⟨by simpa using hv, h⟩
def y_ev (O V : Nat → Int) (N : Nat) (far : Int → Int → Int) (env : Nat → Int) : Nat → Nat → List Int → Int
  | 0, _, s => s.headD 0
  | f + 1, i, s => if N ≤ i then s.headD 0
    else if O i = 400 then y_ev O V N far env f (i + 1) (V i :: s)
    else if O i = 401 then y_ev O V N far env f (i + 1) (env (V i).toNat :: s)
    else if O i = 402 then y_ev O V N far env f (i + 1) (-(s.headD 0) :: s.tail)
    else if O i = 405 then y_ev O V N far env f (i + 1) ((1 - s.headD 0) :: s.tail)
    else if O i = 404 then (if s.headD 0 = 0 then y_ev O V N far env f (V i).toNat s.tail else y_ev O V N far env f (i + 1) s.tail)
    else if O i = 409 then y_ev O V N far env f (V i).toNat s
    else y_ev O V N far env f (i + 1) (y_jn far (O i) (s.tail.headD 0) (s.headD 0) :: s.tail.tail)
theorem ev_N {O V : Nat → Int} {N : Nat} {far : Int → Int → Int} {env : Nat → Int} {s : List Int} : ∀ f, y_ev O V N far env f N s = s.headD 0 := by
  intro f
  cases f with
  | zero => rfl
  | succ f => rw [y_ev, if_pos (Nat.le_refl _)]
def y_bin (o : Int) : Prop := y_o1 o ∨ y_o2 o ∨ y_o3 o
theorem bin_x {o : Int} (h : y_bin o) : ¬ x_op o = 19 ∧ ¬ x_op o = 45 ∧ ¬ x_op o = 48 ∧ ¬ x_op o = 49 ∧ ¬ x_op o = 50 ∧ ¬ x_op o = 51 ∧ ¬ x_op o = 52 ∧ (x_op o = 14 ↔ o = 403) := by
  rcases h with h | h | h
  · rcases h with h | h | h | h | h <;> subst h <;> decide
  · rcases h with h | h | h | h | h | h <;> subst h <;> decide
  · rcases h with h | h <;> subst h <;> decide
theorem bin_o {o : Int} (h : y_bin o) : ¬ o = 400 ∧ ¬ o = 401 ∧ ¬ o = 402 ∧ ¬ o = 405 ∧ ¬ o = 404 ∧ ¬ o = 409 ∧ ¬ o = 408 := by
  rcases h with h | h | h
  · rcases h with h | h | h | h | h <;> subst h <;> decide
  · rcases h with h | h | h | h | h | h <;> subst h <;> decide
  · rcases h with h | h <;> subst h <;> decide
theorem ev_bin {O V : Nat → Int} {N : Nat} {far : Int → Int → Int} {env : Nat → Int} {f i : Nat} {x y : Int} {r : List Int} (hi : i < N) (h : y_bin (O i)) : y_ev O V N far env (f + 1) i (y :: x :: r) = y_ev O V N far env f (i + 1) (y_jn far (O i) x y :: r) := by
  obtain ⟨h1, h2, h3, h4, h5, h6, h7⟩ := bin_o h
  rw [y_ev, if_neg (by omega), if_neg h1, if_neg h2, if_neg h3, if_neg h4, if_neg h5, if_neg h6]
  rfl
def y_kc (τ σ : x_T) (s : List Int) : Prop := x_fr (fun c => c = 329 ∨ c = 331) τ σ ∧ (σ.1 329 3).toInt = s.length ∧ y_stk (fun k => (σ.1 331 k).toInt) s
theorem cl_lay {d : Nat} {v : Int32} {τ σ : x_T} {s : List Int} {K : x_T → Prop} (h : y_kc τ σ s) (hn : s.length < 64) (hK : ∀ ρ : x_T, y_kc τ ρ (v.toInt :: s) → K ρ) : x_CV d mX4_lay [.ref 329, .int v] σ K := by
  obtain ⟨f, h1, h2⟩ := h
  refine e_X4_lay ⟨fun q => ?_, fun _ => ⟨fun q => ?_, fun _ => ⟨ix_n (by omega), fun t1 e1 t2 e2 => hK t2 ⟨?_, ?_, ?_, ?_⟩⟩⟩⟩
  · rw [z_lt, h1] at q; simp only [Int32.reduceToInt] at q; omega
  · rw [z_le, h1] at q; simp only [Int32.reduceToInt] at q; omega
  · rw [e2, e1]; exact fr_w (fr_w f (Or.inr rfl)) (Or.inl rfl)
  · have t13 : t1.1 329 3 = σ.1 329 3 := by rw [e1, w1_at, if_neg (by omega)]
    rw [e2, w1_at, if_pos ⟨rfl, rfl⟩, t13, z_add (by rw [h1]; simp only [Int32.reduceToInt]; omega), h1, List.length_cons]; simp only [Int32.reduceToInt]; omega
  · have cn : (σ.1 329 3).toNatClampNeg = s.length := by rw [z_cl, h1]; omega
    show (t2.1 331 s.length).toInt = v.toInt
    rw [e2, w1_c (by omega), e1, cn, w1_at, if_pos ⟨rfl, rfl⟩]
  · have cn : (σ.1 329 3).toNatClampNeg = s.length := by rw [z_cl, h1]; omega
    refine stk_cg s (fun k hk => ?_) h2
    show (σ.1 331 k).toInt = (t2.1 331 k).toInt
    rw [e2, w1_c (by omega), e1, cn, w1_at, if_neg (by omega)]
theorem cl_lift {d : Nat} {v : Int} {τ σ : x_T} {s : List Int} {K : x_T → Int32 → Prop} (h : y_kc τ σ (v :: s)) (hn : s.length < 64) (hK : ∀ (ρ : x_T) (u : Int32), y_kc τ ρ s → u.toInt = v → K ρ u) : x_CI d mX4_lift [.ref 329] σ K := by
  obtain ⟨f, h1, h2, h3⟩ := h
  rw [List.length_cons] at h1
  have h2 : (σ.1 331 s.length).toInt = v := h2
  refine e_X4_lift ⟨fun q => ?_, fun _ => ⟨fun _ t1 e1 => ?_, fun q => ?_⟩⟩
  · rw [z_le, h1] at q; simp only [Int32.reduceToInt] at q; omega
  · have t13 : (t1.1 329 3).toInt = s.length := by
      rw [e1, w1_at, if_pos ⟨rfl, rfl⟩, z_sub (by rw [h1]; simp only [Int32.reduceToInt]; omega), h1]; simp only [Int32.reduceToInt]; omega
    have t31 : t1.1 331 = σ.1 331 := by rw [e1]; exact w1_c (by omega)
    have cn : (t1.1 329 3).toNatClampNeg = s.length := by rw [z_cl, t13]; omega
    refine ⟨ix_n (by omega), hK t1 _ ⟨by rw [e1]; exact fr_w f (Or.inl rfl), t13, ?_⟩ ?_⟩
    · rw [t31]; exact h3
    · rw [cn, t31]; exact h2
  · rw [z_le, h1] at q; simp only [Int32.reduceToInt] at q; omega
theorem cl_run {d t w F N : Nat} {τ : x_T} {A : Nat → Int} {O V : Nat → Int} {T : Nat → List Bool} {env : Nat → Int} {K : x_T → Int32 → Prop} (ht : t < 4) (hru : τ.2.2.2 = some (140 + 9 * t)) (hF : F + N ≤ 300) (hT : z_ty O V N w T)
    (hst : ∀ i, i < N → (τ.1 (140 + 9 * t + 7) (F + i)).toInt = x_op (O i) ∧ z_gv F (O i) (V i) (τ.1 (140 + 9 * t + 8) (F + i)).toInt)
    (wA : w_A A) (hc : x_cl 1 τ A) (hb : ∀ j, x_al w j → y_sz (env j)) (he : ∀ j, x_al w j → (τ.1 330 (x_wd j)).toInt = env j) :
    ∀ (f i : Nat) (s : List Int), N - i ≤ f → i ≤ N → y_ok (T i) s → ∀ (σ : x_T) (v3 : Int32), y_kc τ σ s → v3.toInt ≤ (F + i : Nat) → (∀ (ρ : x_T) (u : Int32), x_fr (fun c => c = 329 ∨ c = 331) τ ρ → u.toInt = y_ev O V N (z_far A) env f i s → K ρ u) → x_WI (d + 1) mX4_said K 35 [(0, .ref 329), (2, .int (nI (F + N))), (3, .int v3), (4, .int (nI (F + i)))] [] σ := by
  obtain ⟨hT0, hTN, hTl, hTs⟩ := hT
  have hs9 : x_sh (140 + 9 * t) = (9, 10) := shd_140 ht
  have fz : ∀ x y, y_sz (z_far A x y) := fun x y => by have := z_far_b wA x y; unfold y_sz; omega
  have ruσ : ∀ (σ : x_T) (s : List Int), y_kc τ σ s → σ.2.2.2 = some (140 + 9 * t) := fun σ s h => by rw [h.1.2]; exact hru
  have len : ∀ i s, i ≤ N → y_ok (T i) s → s.length ≤ 60 := fun i s hi h => by rw [ok_n _ _ h]; exact hTl i hi
  -- the end
  have atN : ∀ (f : Nat) (s : List Int), y_ok (T N) s → ∀ (σ : x_T) (v3 : Int32), y_kc τ σ s → (∀ (ρ : x_T) (u : Int32), x_fr (fun c => c = 329 ∨ c = 331) τ ρ → u.toInt = y_ev O V N (z_far A) env f N s → K ρ u) → x_WI (d + 1) mX4_said K 35 [(0, .ref 329), (2, .int (nI (F + N))), (3, .int v3), (4, .int (nI (F + N)))] [] σ := by
    intro f s hok σ v3 hk hK
    rw [hTN] at hok
    obtain ⟨v, r, rfl, hv, hr⟩ := ok_f hok
    have hr0 := ok_n _ _ hr
    refine k_X4_said_35 ⟨fun _ => cl_lift hk (by rw [hr0]; decide) (fun ρ u hρ hu => hK ρ u hρ.1 ?_), fun q => absurd (by rw [z_le]; exact Int.le_refl _) q⟩
    rw [ev_N, hu]; rfl
  -- what is left out
  have skip : ∀ (j : Nat), j ≤ N → ∀ (m i : Nat), i + m = j → ∀ (σ : x_T) (s : List Int), y_kc τ σ s → x_WI (d + 1) mX4_said K 35 [(0, .ref 329), (2, .int (nI (F + N))), (3, .int (nI (F + j))), (4, .int (nI (F + j)))] [] σ → x_WI (d + 1) mX4_said K 35 [(0, .ref 329), (2, .int (nI (F + N))), (3, .int (nI (F + j))), (4, .int (nI (F + i)))] [] σ := by
    intro j hj m
    induction m with
    | zero => intro i e σ s hk h; have : i = j := by omega
              rw [this]; exact h
    | succ m ih =>
      intro i e σ s hk h
      have zi : (nI (F + i)).toInt = ((F + i : Nat) : Int) := z_n (by omega)
      have zj : (nI (F + j)).toInt = ((F + j : Nat) : Int) := z_n (by omega)
      have zN : (nI (F + N)).toInt = ((F + N : Nat) : Int) := z_n (by omega)
      have next := ih (i + 1) (by omega) σ s hk h
      refine k_X4_said_35 ⟨fun q => ?_, fun _ => ⟨_, ruσ σ s hk, hs9, e_X9_givenAt hs9 ⟨fun q => ?_, fun _ => ⟨fun q => ?_, fun _ => ⟨vp_in_nI (by omega) (by decide), fun q => ?_, fun _ => ?_⟩⟩⟩⟩⟩
      · rw [z_le, zN, zi] at q; omega
      · rw [z_lt, zi] at q; simp only [Int32.reduceToInt] at q; omega
      · rw [z_le, zi] at q; simp only [Int32.reduceToInt] at q; omega
      · rw [z_le, zj, zi] at q; omega
      · refine k_X4_said_72 ?_
        iterate 6 refine ⟨fun q => absurd q (by decide), fun _ => ?_⟩
        refine ⟨fun _ => k_X4_said_280 (fun y1 e1 => ?_), fun q => absurd rfl q⟩
        rw [e1, ← nI_succ]
        exact next
  intro f
  induction f with
  | zero =>
    intro i s hf hi hok σ v3 hk h3 hK
    have e : i = N := by omega
    subst e
    exact atN 0 s hok σ v3 hk hK
  | succ f ih =>
    intro i s hf hi hok σ v3 hk h3 hK
    by_cases hiN : i = N
    · subst hiN
      exact atN (f + 1) s hok σ v3 hk hK
    have hi : i < N := by omega
    have zi : (nI (F + i)).toInt = ((F + i : Nat) : Int) := z_n (by omega)
    have zN : (nI (F + N)).toInt = ((F + N : Nat) : Int) := z_n (by omega)
    have ci : (nI (F + i)).toNatClampNeg = F + i := nI_clamp (by omega)
    obtain ⟨g1, g2⟩ := hst i hi
    have e7 : σ.1 (140 + 9 * t + 7) = τ.1 (140 + 9 * t + 7) := hk.1.1 _ (by omega)
    have e8 : σ.1 (140 + 9 * t + 8) = τ.1 (140 + 9 * t + 8) := hk.1.1 _ (by omega)
    have sl := len i s (by omega) hok
    have nx : ∀ (σ : x_T) (s' : List Int) (v3 : Int32), y_kc τ σ s' → y_ok (T (i + 1)) s' → v3.toInt ≤ ((F + i : Nat) : Int) → y_ev O V N (z_far A) env (f + 1) i s = y_ev O V N (z_far A) env f (i + 1) s' → x_WI (d + 1) mX4_said K 280 [(0, .ref 329), (2, .int (nI (F + N))), (3, .int v3), (4, .int (nI (F + i)))] [] σ := by
      intro σ s' v3 hk' hok' h3' hev
      refine k_X4_said_280 (fun y1 e1 => ?_)
      rw [e1, ← nI_succ]
      exact ih (i + 1) s' (by omega) (by omega) hok' σ v3 hk' (by omega) (fun ρ u f1 hu => hK ρ u f1 (by rw [hev]; exact hu))
    have jump : ∀ (j : Nat) (σ : x_T) (s' : List Int), i < j → j ≤ N → y_kc τ σ s' → y_ok (T j) s' → y_ev O V N (z_far A) env (f + 1) i s = y_ev O V N (z_far A) env f j s' → x_WI (d + 1) mX4_said K 280 [(0, .ref 329), (2, .int (nI (F + N))), (3, .int (nI (F + j))), (4, .int (nI (F + i)))] [] σ := by
      intro j σ s' hij hjN hk' hok' hev
      refine k_X4_said_280 (fun y1 e1 => ?_)
      rw [e1, ← nI_succ]
      refine skip j hjN (j - (i + 1)) (i + 1) (by omega) σ s' hk' ?_
      exact ih j s' (by omega) hjN hok' σ (nI (F + j)) hk' (by rw [z_n (by omega)]; exact Int.le_refl _) (fun ρ u f1 hu => hK ρ u f1 (by rw [hev]; exact hu))
    refine k_X4_said_35 ⟨fun q => ?_, fun _ => ⟨_, ruσ σ s hk, hs9, e_X9_givenAt hs9 ⟨fun q => ?_, fun _ => ⟨fun q => ?_, fun _ => ⟨vp_in_nI (by omega) (by decide), fun _ => ⟨_, ruσ σ s hk, hs9, e_X9_stepAt hs9 ⟨fun q => ?_, fun _ => ⟨fun q => ?_, fun _ => ⟨vp_in_nI (by omega) (by decide), ?_⟩⟩⟩⟩, fun q => absurd (by rw [z_le, zi]; omega) q⟩⟩⟩⟩⟩
    · rw [z_le, zN, zi] at q; omega
    · rw [z_lt, zi] at q; simp only [Int32.reduceToInt] at q; omega
    · rw [z_le, zi] at q; simp only [Int32.reduceToInt] at q; omega
    · rw [z_lt, zi] at q; simp only [Int32.reduceToInt] at q; omega
    · rw [z_le, zi] at q; simp only [Int32.reduceToInt] at q; omega
    · rw [ci, e7, e8]
      generalize hS : τ.1 (140 + 9 * t + 7) (F + i) = S at g1
      generalize hG : τ.1 (140 + 9 * t + 8) (F + i) = G at g2
      have bin : y_bin (O i) → ∀ (x y : Int) (r : List Int), s = y :: x :: r → ((y_o1 (O i) ∧ y_sz x ∧ y_sz y) ∨ y_o2 (O i) ∨ (y_o3 (O i) ∧ y_01 x ∧ y_01 y)) → y_ok (T (i + 1)) (y_jn (z_far A) (O i) x y :: r) → x_WI (d + 1) mX4_said K 72 [(0, .ref 329), (2, .int (nI (F + N))), (3, .int v3), (4, .int (nI (F + i))), (5, .int G)] [.int S] σ := by
        intro hb x y r hs hty hok'
        obtain ⟨b1, b2, b3, b4, b5, b6, b7, b8⟩ := bin_x hb
        subst hs
        rw [List.length_cons, List.length_cons] at sl
        have ne : ∀ n : Int32, ¬ x_op (O i) = n.toInt → ¬ S = n := fun n hn z => hn (by rw [← g1, z])
        refine k_X4_said_72 ⟨fun q => absurd q (ne 19 b1), fun _ => ⟨fun q => absurd q (ne 45 b2), fun _ => ⟨fun q => absurd q (ne 48 b3), fun _ => ⟨fun q => absurd q (ne 49 b4), fun _ => ⟨fun q => absurd q (ne 50 b5), fun _ => ⟨fun q => absurd q (ne 51 b6), fun _ => ⟨fun q => absurd q (ne 52 b7), fun _ => ?_⟩⟩⟩⟩⟩⟩⟩
        have ev := ev_bin (V := V) (far := z_far A) (env := env) (f := f) (x := x) (y := y) (r := r) hi hb
        refine cl_lift hk (by rw [List.length_cons]; omega) (fun ρ1 u1 k1 h1 => cl_lift k1 (by omega) (fun ρ2 u2 k2 h2 => ⟨fun q => ?_, fun q => ?_⟩))
        · have n403 : ¬ O i = 403 := fun z => q (z_eq.mpr (by rw [g1, b8.mpr z]; rfl))
          refine cl_joined (far := z_far A) g1 ?_ h2 h1 (fun u hu => k_X4_said_277 (cl_lay k2 (by omega) (fun ρ3 k3 => ?_)))
          · rcases hty with z | z | z
            · exact Or.inl ⟨z.1, n403, z.2⟩
            · exact Or.inr (Or.inl z)
            · exact Or.inr (Or.inr z)
          · rw [hu] at k3
            exact nx ρ3 _ v3 k3 hok' h3 ev
        · have y403 : O i = 403 := b8.mp (by rw [← g1, q]; rfl)
          have cρ : x_cl 1 ρ2 A := clB_fr hc (fun c hc => k2.1.1 c (by omega))
          refine cl_wayBetween cρ wA (fun u hu => k_X4_said_277 (cl_lay k2 (by omega) (fun ρ3 k3 => ?_)))
          have hu : u.toInt = y_jn (z_far A) (O i) x y := by
            rw [hu, h2, h1, y403]; rfl
          rw [hu] at k3
          exact nx ρ3 _ v3 k3 hok' h3 ev
      rcases hTs i hi with ⟨o1, o2, o3, o4⟩ | ⟨o1, ⟨j, o2, o3, o4⟩, o5⟩ | ⟨o1, r, o2, o3⟩ | ⟨o1, r, o2, o3⟩ | ⟨o1, r, j, o2, o3, o4, o5, o6, o7⟩ | ⟨o1, j, o2, o3, o4, o5⟩ | ⟨o1, r, o2, o3⟩ | ⟨o1, r, o2, o3⟩ | ⟨o1, r, o2, o3⟩
      · -- a number
        rw [o1] at g1 g2
        have eS : S = 45 := z_eq.mpr (by rw [g1]; decide)
        have eG := g2.1 rfl
        subst eS
        refine k_X4_said_72 ⟨fun q => absurd q (by decide), fun _ => ⟨fun _ => cl_lay hk (by omega) (fun ρ k1 => ?_), fun q => absurd rfl q⟩⟩
        rw [eG] at k1
        refine nx ρ _ v3 k1 ?_ h3 ?_
        · rw [o4]; exact ok_cf (by unfold y_sz; omega) hok
        · rw [y_ev, if_neg (by omega), if_pos o1]
      · -- a name
        rw [o1] at g1 g2
        have eS : S = 48 := z_eq.mpr (by rw [g1]; decide)
        have eG := g2.2.1 rfl
        rw [o4, Int.toNat_natCast] at eG
        have xb : x_wd j < 32 := by unfold x_wd; split <;> (try split) <;> (try split) <;> omega
        have cG : G.toNatClampNeg = x_wd j := by rw [z_cl, eG]; omega
        subst eS
        refine k_X4_said_72 ?_
        iterate 2 refine ⟨fun q => absurd q (by decide), fun _ => ?_⟩
        refine ⟨fun _ => ⟨fun q => ?_, fun _ => ⟨fun q => ?_, fun _ => ⟨ix_n (by omega), k_X4_said_180 (cl_lay hk (by omega) (fun ρ k1 => ?_))⟩⟩⟩, fun q => absurd rfl q⟩
        · rw [z_lt, eG] at q; simp only [Int32.reduceToInt] at q; omega
        · rw [z_le, eG] at q; simp only [Int32.reduceToInt] at q; omega
        · rw [cG, hk.1.1 330 (by omega), he j o2] at k1
          refine nx ρ _ v3 k1 ?_ h3 ?_
          · rw [o5]; exact ok_cf (hb j o2) hok
          · rw [y_ev, if_neg (by omega), if_neg (by omega), if_pos o1, o4, Int.toNat_natCast]
      · -- negated
        rw [o1] at g1
        have eS : S = 49 := z_eq.mpr (by rw [g1]; decide)
        subst eS
        rw [o2] at hok
        obtain ⟨v, s', rfl, hv, hr⟩ := ok_f hok
        rw [List.length_cons] at sl
        refine k_X4_said_72 ?_
        iterate 3 refine ⟨fun q => absurd q (by decide), fun _ => ?_⟩
        refine ⟨fun _ => cl_lift hk (by omega) (fun ρ u k1 hu => cl_lay k1 (by omega) (fun ρ2 k2 => ?_)), fun q => absurd rfl q⟩
        unfold y_sz at hv
        rw [z_neg (by omega), hu] at k2
        refine nx ρ2 _ v3 k2 ?_ h3 ?_
        · rw [o3]; exact ok_cf (by unfold y_sz; omega) hr
        · rw [y_ev, if_neg (by omega), if_neg (by omega), if_neg (by omega), if_pos o1]; rfl
      · -- not
        rw [o1] at g1
        have eS : S = 19 := z_eq.mpr (by rw [g1]; decide)
        subst eS
        rw [o2] at hok
        obtain ⟨v, s', rfl, hv, hr⟩ := ok_t hok
        rw [List.length_cons] at sl
        refine k_X4_said_72 ⟨fun _ => cl_lift hk (by omega) (fun ρ u k1 hu => cl_lay k1 (by omega) (fun ρ2 k2 => ?_)), fun q => absurd rfl q⟩
        unfold y_01 at hv
        rw [z_sub (by rw [hu]; simp only [Int32.reduceToInt]; omega), hu] at k2
        refine nx ρ2 _ v3 k2 ?_ h3 ?_
        · rw [o3]; exact ok_ct (by unfold y_01; simp only [Int32.reduceToInt]; omega) hr
        · rw [y_ev, if_neg (by omega), if_neg (by omega), if_neg (by omega), if_neg (by omega), if_pos o1]; rfl
      · -- unless so, go
        rw [o1] at g1 g2
        have eS : S = 50 := z_eq.mpr (by rw [g1]; decide)
        have eG := g2.2.2 (Or.inl rfl)
        subst eS
        rw [o2] at hok
        obtain ⟨v, s', rfl, hv, hr⟩ := ok_t hok
        rw [List.length_cons] at sl
        have eG2 : G = nI (F + j) := z_of (by omega) (by rw [eG, o4]; omega)
        refine k_X4_said_72 ?_
        iterate 4 refine ⟨fun q => absurd q (by decide), fun _ => ?_⟩
        refine ⟨fun _ => cl_lift hk (by omega) (fun ρ u k1 hu => ⟨fun q => k_X4_said_205 ?_, fun q => k_X4_said_205 ?_⟩), fun q => absurd rfl q⟩
        · have v0 : ¬ v = 0 := fun z => q (z_eq.mpr (by rw [hu, z]; rfl))
          refine nx ρ s' v3 k1 (by rw [o3]; exact hr) h3 ?_
          rw [y_ev, if_neg (by omega), if_neg (by omega), if_neg (by omega), if_neg (by omega), if_neg (by omega), if_pos o1, if_neg (by exact v0)]; rfl
        · have v0 : v = 0 := by rw [← hu, q]; rfl
          rw [eG2]
          refine jump j ρ s' o5 o6 k1 (by rw [o7]; exact hr) ?_
          rw [y_ev, if_neg (by omega), if_neg (by omega), if_neg (by omega), if_neg (by omega), if_neg (by omega), if_pos o1, if_pos (by exact v0), o4, Int.toNat_natCast]; rfl
      · -- go
        rw [o1] at g1 g2
        have eS : S = 51 := z_eq.mpr (by rw [g1]; decide)
        have eG := g2.2.2 (Or.inr rfl)
        subst eS
        have eG2 : G = nI (F + j) := z_of (by omega) (by rw [eG, o2]; omega)
        refine k_X4_said_72 ?_
        iterate 5 refine ⟨fun q => absurd q (by decide), fun _ => ?_⟩
        refine ⟨fun _ => ?_, fun q => absurd rfl q⟩
        rw [eG2]
        refine jump j σ s o3 o4 hk (by rw [o5]; exact hok) ?_
        rw [y_ev, if_neg (by omega), if_neg (by omega), if_neg (by omega), if_neg (by omega), if_neg (by omega), if_neg (by omega), if_pos o1, o2, Int.toNat_natCast]
      · rw [o2] at hok
        obtain ⟨y, s1, rfl, hy, h1⟩ := ok_f hok
        obtain ⟨x, s2, rfl, hx, h2⟩ := ok_f h1
        refine bin (Or.inl o1) x y s2 rfl (Or.inl ⟨o1, hx, hy⟩) ?_
        rw [o3]; exact ok_cf (jn_1 fz o1 hx) h2
      · rw [o2] at hok
        obtain ⟨y, s1, rfl, hy, h1⟩ := ok_f hok
        obtain ⟨x, s2, rfl, hx, h2⟩ := ok_f h1
        refine bin (Or.inr (Or.inl o1)) x y s2 rfl (Or.inr (Or.inl o1)) ?_
        rw [o3]; exact ok_ct (jn_2 o1) h2
      · rw [o2] at hok
        obtain ⟨y, s1, rfl, hy, h1⟩ := ok_t hok
        obtain ⟨x, s2, rfl, hx, h2⟩ := ok_t h1
        refine bin (Or.inr (Or.inr o1)) x y s2 rfl (Or.inr (Or.inr ⟨o1, hx, hy⟩)) ?_
        rw [o3]; exact ok_ct (jn_3 o1 hx hy) h2
