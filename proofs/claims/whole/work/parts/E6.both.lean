/-! both at once: the levels -/
def q_gd (n w p k p' : Nat) (c : q_co) (bt : Bool) (h : Nat) : Prop := p < p' ∧ p' ≤ n ∧ 1 ≤ c.length ∧ p + c.length ≤ p' ∧ q_ty w k c bt h
def q_TL (b : Nat → Int) (n w t F P N : Nat) (μ : x_M) (s0 s1 : Nat) (R : Int) (r2 o p k a m : Nat) (bt : Bool) (h : Nat) (ex : Int → Prop) : Prop :=
  (∃ (fl : Int32) (pf : Nat), q_Cl b n w t N μ o p a (q_cB b n t fl pf) ∧ q_Lv b n w s0 o p m R r2 (q_EB b n fl pf)) ∨ (∃ (p' : Nat) (c : q_co), q_Cl b n w t N μ o p a (q_cG b n t F a p' c) ∧ q_Lv b n w s0 o p m R r2 (q_EG b n w P o s1 R m p' c) ∧ q_gd n w p k p' c bt h ∧ ex (q_K b n p'))
def q_TH (b : Nat → Int) (n w t F P N : Nat) (μ : x_M) (s0 s1 : Nat) (R : Int) (r2 o p k a m : Nat) (bt : Bool) (h : Nat) (ex : Int → Prop) (p1 : Nat) (c1 : q_co) : Prop :=
  (∃ (fl : Int32) (pf : Nat), q_Ch b n w t F N μ o p1 a c1 (q_cB b n t fl pf) ∧ q_Hd b n w P s0 s1 o p1 m R r2 c1 (q_EB b n fl pf)) ∨ (∃ (p' : Nat) (c : q_co), q_Ch b n w t F N μ o p1 a c1 (q_cG b n t F a p' c) ∧ q_Hd b n w P s0 s1 o p1 m R r2 c1 (q_EG b n w P o s1 R m p' c) ∧ q_gd n w p k p' c bt h ∧ ex (q_K b n p'))
theorem ft_op : ∀ c, c < 40 → 36 ≤ c → x_op (q_ft c) = c ∧ q_rk (q_ft c) = (if c ≤ 37 then 3 else 4) ∧ (¬ q_ft c = 400 ∧ ¬ q_ft c = 401 ∧ ¬ q_ft c = 404 ∧ ¬ q_ft c = 409) ∧ (q_ft c = 43 ∨ q_ft c = 45 ∨ q_ft c = 42 ∨ q_ft c = 47 ∨ q_ft c = 403) := by decide +kernel
theorem tH_prod {b : Nat → Int} {n w t F P N o q p k a m hh : Nat} (ht : t < 4) (hn : n ≤ 300) (hN : 2 ≤ N) (ho : o ≤ 8) (ha : a = F + k) (hm : m = P + k) (hap : a ≤ p) (hmp : m ≤ p) (hsub : ∀ p k a m, q ≤ p → a = F + k → m = P + k → a ≤ p → m ≤ p → q_TL b n w t F P N mX6_readOne 1 2 5 0 o p k a m false hh (fun z => True)) : ∀ r p1 (c1 : q_co), n - p1 ≤ r → q ≤ p1 → q_gd n w p k p1 c1 false (hh + 1) → (fun z : Int => True) (q_K b n p1) → q_TH b n w t F P (N + 1) mX6_readProduct 1 2 4 (0 + 1) o p k a m false (hh + 1) (fun z => ¬ z = 38 ∧ ¬ z = 39) p1 c1 := by
  intro r
  induction r with
  | zero =>
    intro p1 c1 hr hq hg hx
    have e : q_K b n p1 = 46 := by
      by_cases z : q_K b n p1 = 46
      · exact z
      · have := K_lt z; have := hg.2.1; omega
    exact Or.inr ⟨p1, c1, cL_prod_end (by omega) (by omega) (by omega), hd_end, hg, by show _; rw [e]; omega⟩
  | succ r ih =>
    intro p1 c1 hr hq hg hx
    obtain ⟨g1, g2, g3, g4, g5⟩ := hg
    by_cases z : q_K b n p1 = 38 ∨ q_K b n p1 = 39
    · have hp : p1 < n := K_lt (b := b) (n := n) (i := p1) (by omega)
      obtain ⟨kc, hkc, hk2⟩ : ∃ kc : Nat, q_K b n p1 = kc ∧ (kc = 38 ∨ kc = 39) := by
        rcases z with z | z
        · exact ⟨38, z, Or.inl rfl⟩
        · exact ⟨39, z, Or.inr rfl⟩
      obtain ⟨o1, o2, o3, o4⟩ := ft_op kc (by omega) (by omega)
      have st : q_sp1 b n w 1 2 p1 (q_ft kc) := st_sign (by omega) hkc
      have rk : q_rk (q_ft kc) = 4 := by rw [o2, if_neg (by omega)]
      rcases hsub (p1 + 1) (k + c1.length) (a + c1.length) (m + c1.length) (by omega) (by omega) (by omega) (by omega) (by omega) with ⟨fl, pf, s1, s2⟩ | ⟨p2, c2, s1, s2, s3, s4⟩
      · exact Or.inl ⟨fl, pf, cL_prod_bad2 ht (by omega) (by omega) (by omega) s1, hd_bad2 (by omega) ho st rk (by omega) (by omega) s2⟩
      · obtain ⟨j1, j2, j3, j4, j5⟩ := s3
        have l : (c1 ++ c2 ++ [(q_ft kc, (0 : Int))]).length = c1.length + c2.length + 1 := by simp only [List.length_append, List.length_cons, List.length_nil]
        rcases ih p2 (c1 ++ c2 ++ [(q_ft kc, (0 : Int))]) (by omega) (by omega) ⟨by omega, j2, by rw [l]; omega, by rw [l]; omega, ty_bin g5 j5 (Or.inl ⟨o4, rfl, rfl⟩) ⟨Nat.le_refl _, Nat.le_refl _⟩⟩ s4 with ⟨fl, pf, t1, t2⟩ | ⟨p', c, t1, t2, t3, t4⟩
        · exact Or.inl ⟨fl, pf, cL_prod_go ht (by omega) (by omega) (by omega) hkc hk2 o1 o3 s1 t1, hd_go (by omega) ho st rk (by omega) o3 (by omega) s2 t2⟩
        · exact Or.inr ⟨p', c, cL_prod_go ht (by omega) (by omega) (by omega) hkc hk2 o1 o3 s1 t1, hd_go (by omega) ho st rk (by omega) o3 (by omega) s2 t2, t3, t4⟩
    · exact Or.inr ⟨p1, c1, cL_prod_end (by omega) (by omega) (by omega), hd_end, ⟨g1, g2, g3, g4, g5⟩, by show _; have := hx; omega⟩
theorem tL_prod {b : Nat → Int} {n w t F P N o q hh : Nat} (ht : t < 4) (hn : n ≤ 300) (hN : 2 ≤ N) (ho : o ≤ 8) (hsub : ∀ p k a m, q ≤ p → a = F + k → m = P + k → a ≤ p → m ≤ p → q_TL b n w t F P N mX6_readOne 1 2 5 0 o p k a m false hh (fun z => True)) : ∀ p k a m, q ≤ p → a = F + k → m = P + k → a ≤ p → m ≤ p → q_TL b n w t F P (N + 1) mX6_readProduct 1 2 4 (0 + 1) o p k a m false (hh + 1) (fun z => ¬ z = 38 ∧ ¬ z = 39) := by
  intro p k a m hq ha hm hap hmp
  rcases hsub p k a m hq ha hm hap hmp with ⟨fl, pf, s1, s2⟩ | ⟨p1, c1, s1, s2, s3, s4⟩
  · exact Or.inl ⟨fl, pf, cL_prod_bad ht (by omega) s1, hd_bad (by omega) (by omega) s2⟩
  · obtain ⟨j1, j2, j3, j4, j5⟩ := s3
    rcases tH_prod ht hn hN ho ha hm hap hmp hsub (n - p1) p1 c1 (Nat.le_refl _) (by omega) ⟨j1, j2, j3, j4, ty_h j5 (by omega)⟩ s4 with ⟨fl, pf, t1, t2⟩ | ⟨p', c, t1, t2, t3, t4⟩
    · exact Or.inl ⟨fl, pf, cL_prod_first s1 t1, hd_first (by omega) (by omega) s2 t2⟩
    · exact Or.inr ⟨p', c, cL_prod_first s1 t1, hd_first (by omega) (by omega) s2 t2, t3, t4⟩
theorem tH_sum {b : Nat → Int} {n w t F P N o q p k a m hh : Nat} (ht : t < 4) (hn : n ≤ 300) (hN : 2 ≤ N) (ho : o ≤ 8) (ha : a = F + k) (hm : m = P + k) (hap : a ≤ p) (hmp : m ≤ p) (hsub : ∀ p k a m, q ≤ p → a = F + k → m = P + k → a ≤ p → m ≤ p → q_TL b n w t F P N mX6_readProduct 1 2 4 1 o p k a m false hh (fun z => ¬ z = 38 ∧ ¬ z = 39)) : ∀ r p1 (c1 : q_co), n - p1 ≤ r → q ≤ p1 → q_gd n w p k p1 c1 false (hh + 1) → (fun z : Int => ¬ z = 38 ∧ ¬ z = 39) (q_K b n p1) → q_TH b n w t F P (N + 1) mX6_readSum 1 2 3 (1 + 1) o p k a m false (hh + 1) (fun z => ¬ z = 36 ∧ ¬ z = 37 ∧ ¬ z = 38 ∧ ¬ z = 39) p1 c1 := by
  intro r
  induction r with
  | zero =>
    intro p1 c1 hr hq hg hx
    have e : q_K b n p1 = 46 := by
      by_cases z : q_K b n p1 = 46
      · exact z
      · have := K_lt z; have := hg.2.1; omega
    exact Or.inr ⟨p1, c1, cL_sum_end (by omega) (by omega) (by omega), hd_end, hg, by show _; rw [e]; omega⟩
  | succ r ih =>
    intro p1 c1 hr hq hg hx
    obtain ⟨g1, g2, g3, g4, g5⟩ := hg
    by_cases z : q_K b n p1 = 36 ∨ q_K b n p1 = 37
    · have hp : p1 < n := K_lt (b := b) (n := n) (i := p1) (by omega)
      obtain ⟨kc, hkc, hk2⟩ : ∃ kc : Nat, q_K b n p1 = kc ∧ (kc = 36 ∨ kc = 37) := by
        rcases z with z | z
        · exact ⟨36, z, Or.inl rfl⟩
        · exact ⟨37, z, Or.inr rfl⟩
      obtain ⟨o1, o2, o3, o4⟩ := ft_op kc (by omega) (by omega)
      have st : q_sp1 b n w 1 2 p1 (q_ft kc) := st_sign (by omega) hkc
      have rk : q_rk (q_ft kc) = 3 := by rw [o2, if_pos (by omega)]
      rcases hsub (p1 + 1) (k + c1.length) (a + c1.length) (m + c1.length) (by omega) (by omega) (by omega) (by omega) (by omega) with ⟨fl, pf, s1, s2⟩ | ⟨p2, c2, s1, s2, s3, s4⟩
      · exact Or.inl ⟨fl, pf, cL_sum_bad2 ht (by omega) (by omega) (by omega) s1, hd_bad2 (by omega) ho st rk (by omega) (by omega) s2⟩
      · obtain ⟨j1, j2, j3, j4, j5⟩ := s3
        have l : (c1 ++ c2 ++ [(q_ft kc, (0 : Int))]).length = c1.length + c2.length + 1 := by simp only [List.length_append, List.length_cons, List.length_nil]
        rcases ih p2 (c1 ++ c2 ++ [(q_ft kc, (0 : Int))]) (by omega) (by omega) ⟨by omega, j2, by rw [l]; omega, by rw [l]; omega, ty_bin g5 j5 (Or.inl ⟨o4, rfl, rfl⟩) ⟨Nat.le_refl _, Nat.le_refl _⟩⟩ s4 with ⟨fl, pf, t1, t2⟩ | ⟨p', c, t1, t2, t3, t4⟩
        · exact Or.inl ⟨fl, pf, cL_sum_go ht (by omega) (by omega) (by omega) hkc hk2 o1 o3 s1 t1, hd_go (by omega) ho st rk (by omega) o3 (by omega) s2 t2⟩
        · exact Or.inr ⟨p', c, cL_sum_go ht (by omega) (by omega) (by omega) hkc hk2 o1 o3 s1 t1, hd_go (by omega) ho st rk (by omega) o3 (by omega) s2 t2, t3, t4⟩
    · exact Or.inr ⟨p1, c1, cL_sum_end (by omega) (by omega) (by omega), hd_end, ⟨g1, g2, g3, g4, g5⟩, by show _; have := hx; omega⟩
theorem tL_sum {b : Nat → Int} {n w t F P N o q hh : Nat} (ht : t < 4) (hn : n ≤ 300) (hN : 2 ≤ N) (ho : o ≤ 8) (hsub : ∀ p k a m, q ≤ p → a = F + k → m = P + k → a ≤ p → m ≤ p → q_TL b n w t F P N mX6_readProduct 1 2 4 1 o p k a m false hh (fun z => ¬ z = 38 ∧ ¬ z = 39)) : ∀ p k a m, q ≤ p → a = F + k → m = P + k → a ≤ p → m ≤ p → q_TL b n w t F P (N + 1) mX6_readSum 1 2 3 (1 + 1) o p k a m false (hh + 1) (fun z => ¬ z = 36 ∧ ¬ z = 37 ∧ ¬ z = 38 ∧ ¬ z = 39) := by
  intro p k a m hq ha hm hap hmp
  rcases hsub p k a m hq ha hm hap hmp with ⟨fl, pf, s1, s2⟩ | ⟨p1, c1, s1, s2, s3, s4⟩
  · exact Or.inl ⟨fl, pf, cL_sum_bad ht (by omega) s1, hd_bad (by omega) (by omega) s2⟩
  · obtain ⟨j1, j2, j3, j4, j5⟩ := s3
    rcases tH_sum ht hn hN ho ha hm hap hmp hsub (n - p1) p1 c1 (Nat.le_refl _) (by omega) ⟨j1, j2, j3, j4, ty_h j5 (by omega)⟩ s4 with ⟨fl, pf, t1, t2⟩ | ⟨p', c, t1, t2, t3, t4⟩
    · exact Or.inl ⟨fl, pf, cL_sum_first s1 t1, hd_first (by omega) (by omega) s2 t2⟩
    · exact Or.inr ⟨p', c, cL_sum_first s1 t1, hd_first (by omega) (by omega) s2 t2, t3, t4⟩
theorem tH_both {b : Nat → Int} {n w t F P N o q p k a m hh : Nat} (ht : t < 4) (hn : n ≤ 300) (hN : 2 ≤ N) (ho : o ≤ 8) (ha : a = F + k) (hm : m = P + k) (hap : a ≤ p) (hmp : m ≤ p) (hsub : ∀ p k a m, q ≤ p → a = F + k → m = P + k → a ≤ p → m ≤ p → q_TL b n w t F P N mX6_readAsk 0 3 5 0 o p k a m true hh (fun z => True)) : ∀ r p1 (c1 : q_co), n - p1 ≤ r → q ≤ p1 → q_gd n w p k p1 c1 true (hh + 1) → (fun z : Int => True) (q_K b n p1) → q_TH b n w t F P (N + 1) mX6_readBoth 0 3 2 (0 + 1) o p k a m true (hh + 1) (fun z => ¬ z = 21) p1 c1 := by
  intro r
  induction r with
  | zero =>
    intro p1 c1 hr hq hg hx
    have e : q_K b n p1 = 46 := by
      by_cases z : q_K b n p1 = 46
      · exact z
      · have := K_lt z; have := hg.2.1; omega
    exact Or.inr ⟨p1, c1, cL_both_end (by omega) (by omega), hd_end, hg, by show _; rw [e]; omega⟩
  | succ r ih =>
    intro p1 c1 hr hq hg hx
    obtain ⟨g1, g2, g3, g4, g5⟩ := hg
    by_cases z : q_K b n p1 = 21
    · have hp : p1 < n := K_lt (b := b) (n := n) (i := p1) (by omega)
      have st : q_sp1 b n w 0 3 p1 406 := st_and z
      have rk : q_rk 406 = 2 := by decide
      rcases hsub (p1 + 1) (k + c1.length) (a + c1.length) (m + c1.length) (by omega) (by omega) (by omega) (by omega) (by omega) with ⟨fl, pf, s1, s2⟩ | ⟨p2, c2, s1, s2, s3, s4⟩
      · exact Or.inl ⟨fl, pf, cL_both_bad2 ht (by omega) (by omega) z s1, hd_bad2 (by omega) ho st rk (by omega) (by omega) s2⟩
      · obtain ⟨j1, j2, j3, j4, j5⟩ := s3
        have l : (c1 ++ c2 ++ [((406 : Int), (0 : Int))]).length = c1.length + c2.length + 1 := by simp only [List.length_append, List.length_cons, List.length_nil]
        rcases ih p2 (c1 ++ c2 ++ [(406, 0)]) (by omega) (by omega) ⟨by omega, j2, by rw [l]; omega, by rw [l]; omega, ty_bin g5 j5 (Or.inr (Or.inr ⟨by decide, rfl, rfl⟩)) ⟨Nat.le_refl _, Nat.le_refl _⟩⟩ s4 with ⟨fl, pf, t1, t2⟩ | ⟨p', c, t1, t2, t3, t4⟩
        · exact Or.inl ⟨fl, pf, cL_both_go ht (by omega) (by omega) (by omega) z s1 t1, hd_go (by omega) ho st rk (by omega) (by unfold q_gz; decide) (by omega) s2 t2⟩
        · exact Or.inr ⟨p', c, cL_both_go ht (by omega) (by omega) (by omega) z s1 t1, hd_go (by omega) ho st rk (by omega) (by unfold q_gz; decide) (by omega) s2 t2, t3, t4⟩
    · exact Or.inr ⟨p1, c1, cL_both_end (by omega) z, hd_end, ⟨g1, g2, g3, g4, g5⟩, by show _; have := hx; omega⟩
theorem tL_both {b : Nat → Int} {n w t F P N o q hh : Nat} (ht : t < 4) (hn : n ≤ 300) (hN : 2 ≤ N) (ho : o ≤ 8) (hsub : ∀ p k a m, q ≤ p → a = F + k → m = P + k → a ≤ p → m ≤ p → q_TL b n w t F P N mX6_readAsk 0 3 5 0 o p k a m true hh (fun z => True)) : ∀ p k a m, q ≤ p → a = F + k → m = P + k → a ≤ p → m ≤ p → q_TL b n w t F P (N + 1) mX6_readBoth 0 3 2 (0 + 1) o p k a m true (hh + 1) (fun z => ¬ z = 21) := by
  intro p k a m hq ha hm hap hmp
  rcases hsub p k a m hq ha hm hap hmp with ⟨fl, pf, s1, s2⟩ | ⟨p1, c1, s1, s2, s3, s4⟩
  · exact Or.inl ⟨fl, pf, cL_both_bad ht (by omega) s1, hd_bad (by omega) (by omega) s2⟩
  · obtain ⟨j1, j2, j3, j4, j5⟩ := s3
    rcases tH_both ht hn hN ho ha hm hap hmp hsub (n - p1) p1 c1 (Nat.le_refl _) (by omega) ⟨j1, j2, j3, j4, ty_h j5 (by omega)⟩ s4 with ⟨fl, pf, t1, t2⟩ | ⟨p', c, t1, t2, t3, t4⟩
    · exact Or.inl ⟨fl, pf, cL_both_first s1 t1, hd_first (by omega) (by omega) s2 t2⟩
    · exact Or.inr ⟨p', c, cL_both_first s1 t1, hd_first (by omega) (by omega) s2 t2, t3, t4⟩
theorem tH_either {b : Nat → Int} {n w t F P N o q p k a m hh : Nat} (ht : t < 4) (hn : n ≤ 300) (hN : 2 ≤ N) (ho : o ≤ 8) (ha : a = F + k) (hm : m = P + k) (hap : a ≤ p) (hmp : m ≤ p) (hsub : ∀ p k a m, q ≤ p → a = F + k → m = P + k → a ≤ p → m ≤ p → q_TL b n w t F P N mX6_readBoth 0 3 2 1 o p k a m true hh (fun z => ¬ z = 21)) : ∀ r p1 (c1 : q_co), n - p1 ≤ r → q ≤ p1 → q_gd n w p k p1 c1 true (hh + 1) → (fun z : Int => ¬ z = 21) (q_K b n p1) → q_TH b n w t F P (N + 1) mX6_readEither 0 3 1 (1 + 1) o p k a m true (hh + 1) (fun z => ¬ z = 20 ∧ ¬ z = 21) p1 c1 := by
  intro r
  induction r with
  | zero =>
    intro p1 c1 hr hq hg hx
    have e : q_K b n p1 = 46 := by
      by_cases z : q_K b n p1 = 46
      · exact z
      · have := K_lt z; have := hg.2.1; omega
    exact Or.inr ⟨p1, c1, cL_either_end (by omega) (by omega), hd_end, hg, by show _; rw [e]; omega⟩
  | succ r ih =>
    intro p1 c1 hr hq hg hx
    obtain ⟨g1, g2, g3, g4, g5⟩ := hg
    by_cases z : q_K b n p1 = 20
    · have hp : p1 < n := K_lt (b := b) (n := n) (i := p1) (by omega)
      have st : q_sp1 b n w 0 3 p1 407 := st_or z
      have rk : q_rk 407 = 1 := by decide
      rcases hsub (p1 + 1) (k + c1.length) (a + c1.length) (m + c1.length) (by omega) (by omega) (by omega) (by omega) (by omega) with ⟨fl, pf, s1, s2⟩ | ⟨p2, c2, s1, s2, s3, s4⟩
      · exact Or.inl ⟨fl, pf, cL_either_bad2 ht (by omega) (by omega) z s1, hd_bad2 (by omega) ho st rk (by omega) (by omega) s2⟩
      · obtain ⟨j1, j2, j3, j4, j5⟩ := s3
        have l : (c1 ++ c2 ++ [((407 : Int), (0 : Int))]).length = c1.length + c2.length + 1 := by simp only [List.length_append, List.length_cons, List.length_nil]
        rcases ih p2 (c1 ++ c2 ++ [(407, 0)]) (by omega) (by omega) ⟨by omega, j2, by rw [l]; omega, by rw [l]; omega, ty_bin g5 j5 (Or.inr (Or.inr ⟨by decide, rfl, rfl⟩)) ⟨Nat.le_refl _, Nat.le_refl _⟩⟩ s4 with ⟨fl, pf, t1, t2⟩ | ⟨p', c, t1, t2, t3, t4⟩
        · exact Or.inl ⟨fl, pf, cL_either_go ht (by omega) (by omega) (by omega) z s1 t1, hd_go (by omega) ho st rk (by omega) (by unfold q_gz; decide) (by omega) s2 t2⟩
        · exact Or.inr ⟨p', c, cL_either_go ht (by omega) (by omega) (by omega) z s1 t1, hd_go (by omega) ho st rk (by omega) (by unfold q_gz; decide) (by omega) s2 t2, t3, t4⟩
    · exact Or.inr ⟨p1, c1, cL_either_end (by omega) z, hd_end, ⟨g1, g2, g3, g4, g5⟩, by show _; have := hx; omega⟩
theorem tL_either {b : Nat → Int} {n w t F P N o q hh : Nat} (ht : t < 4) (hn : n ≤ 300) (hN : 2 ≤ N) (ho : o ≤ 8) (hsub : ∀ p k a m, q ≤ p → a = F + k → m = P + k → a ≤ p → m ≤ p → q_TL b n w t F P N mX6_readBoth 0 3 2 1 o p k a m true hh (fun z => ¬ z = 21)) : ∀ p k a m, q ≤ p → a = F + k → m = P + k → a ≤ p → m ≤ p → q_TL b n w t F P (N + 1) mX6_readEither 0 3 1 (1 + 1) o p k a m true (hh + 1) (fun z => ¬ z = 20 ∧ ¬ z = 21) := by
  intro p k a m hq ha hm hap hmp
  rcases hsub p k a m hq ha hm hap hmp with ⟨fl, pf, s1, s2⟩ | ⟨p1, c1, s1, s2, s3, s4⟩
  · exact Or.inl ⟨fl, pf, cL_either_bad ht (by omega) s1, hd_bad (by omega) (by omega) s2⟩
  · obtain ⟨j1, j2, j3, j4, j5⟩ := s3
    rcases tH_either ht hn hN ho ha hm hap hmp hsub (n - p1) p1 c1 (Nat.le_refl _) (by omega) ⟨j1, j2, j3, j4, ty_h j5 (by omega)⟩ s4 with ⟨fl, pf, t1, t2⟩ | ⟨p', c, t1, t2, t3, t4⟩
    · exact Or.inl ⟨fl, pf, cL_either_first s1 t1, hd_first (by omega) (by omega) s2 t2⟩
    · exact Or.inr ⟨p', c, cL_either_first s1 t1, hd_first (by omega) (by omega) s2 t2, t3, t4⟩
