/-! both at once: one thing, what is asked, and all of it -/
theorem Cl_le {b : Nat → Int} {n w t N N' o p a : Nat} {μ : x_M} {E : x_T → x_T → Prop} (h : q_Cl b n w t N μ o p a E) (hN : N ≤ N') : q_Cl b n w t N' μ o p a E := fun D σ V K hD => h D σ V K (by omega)
def q_T1 (b : Nat → Int) (n w t F P o p k a m : Nat) : Prop :=
  (∃ (fl : Int32) (pf : Nat), q_Cl b n w t (7 * (8 - o) + 3) mX6_readOne o p a (q_cB b n t fl pf) ∧ q_Rw b n w 1 o p m (q_EB b n fl pf)) ∨ (∃ (p' : Nat) (c : q_co), q_Cl b n w t (7 * (8 - o) + 3) mX6_readOne o p a (q_cG b n t F a p' c) ∧ q_Rw b n w 1 o p m (q_EO b n w P o m p' c) ∧ q_gd n w p k p' c false (5 * (8 - o) + 1))
def q_TA (b : Nat → Int) (n w t F P o p k a m : Nat) : Prop :=
  (∃ (fl : Int32) (pf : Nat), q_Cl b n w t (7 * (8 - o) + 6) mX6_readAsk o p a (q_cB b n t fl pf) ∧ q_Rw b n w 0 o p m (q_EB b n fl pf)) ∨ (∃ (p' : Nat) (c : q_co), q_Cl b n w t (7 * (8 - o) + 6) mX6_readAsk o p a (q_cG b n t F a p' c) ∧ q_Rw b n w 0 o p m (q_EA b n w P o m p' c) ∧ q_gd n w p k p' c true (5 * (8 - o) + 4))
def q_H1 (b : Nat → Int) (n w t F P q : Nat) : Prop := ∀ o, o ≤ 8 → ∀ p k a m, q ≤ p → a = F + k → m = P + k → a ≤ p → m ≤ p → q_T1 b n w t F P o p k a m
theorem h_sum {b : Nat → Int} {n w t F P q : Nat} (ht : t < 4) (hn : n ≤ 300) (H : q_H1 b n w t F P q) : ∀ o, o ≤ 8 → ∀ p k a m, q ≤ p → a = F + k → m = P + k → a ≤ p → m ≤ p → q_TL b n w t F P (7 * (8 - o) + 5) mX6_readSum 1 2 3 2 o p k a m false (5 * (8 - o) + 3) (fun z => ¬ z = 36 ∧ ¬ z = 37 ∧ ¬ z = 38 ∧ ¬ z = 39) := by
  intro o ho
  refine tL_sum (N := 7 * (8 - o) + 4) (hh := 5 * (8 - o) + 2) ht hn (by omega) ho (tL_prod (N := 7 * (8 - o) + 3) (hh := 5 * (8 - o) + 1) ht hn (by omega) ho (fun p k a m hq ha hm hap hmp => ?_))
  rcases H o ho p k a m hq ha hm hap hmp with ⟨fl, pf, s1, s2⟩ | ⟨p1, c1, s1, s2, s3⟩
  · exact Or.inl ⟨fl, pf, s1, lv_1B s2⟩
  · obtain ⟨j1, j2, j3, j4, j5⟩ := s3
    exact Or.inr ⟨p1, c1, s1, lv_1G ho (by omega) s2, ⟨j1, j2, j3, j4, j5⟩, trivial⟩
theorem cp_op : ∀ c, c < 45 → ((32 ≤ c ∧ c ≤ 35) ∨ c = 43 ∨ c = 44) → x_op (q_ft c) = c ∧ (¬ q_ft c = 400 ∧ ¬ q_ft c = 401 ∧ ¬ q_ft c = 404 ∧ ¬ q_ft c = 409) ∧ (q_ft c = 60 ∨ q_ft c = 62 ∨ q_ft c = 61 ∨ q_ft c = 35 ∨ q_ft c = 300 ∨ q_ft c = 301) := by decide +kernel
theorem ask_s {b : Nat → Int} {n w t F P q o p : Nat} (ht : t < 4) (hn : n ≤ 300) (HS : ∀ p k a m, q ≤ p → a = F + k → m = P + k → a ≤ p → m ≤ p → q_TL b n w t F P (7 * (8 - o) + 5) mX6_readSum 1 2 3 2 o p k a m false (5 * (8 - o) + 3) (fun z => ¬ z = 36 ∧ ¬ z = 37 ∧ ¬ z = 38 ∧ ¬ z = 39)) (h19 : ¬ q_K b n p = 19) (ho : o ≤ 8) (k a m : Nat) (hq : q ≤ p) (ha : a = F + k) (hm : m = P + k) (hap : a ≤ p) (hmp : m ≤ p) : q_TA b n w t F P o p k a m := by
  rcases HS p k a m hq ha hm hap hmp with ⟨fl, pf, s1, s2⟩ | ⟨p1, c1, s1, s2, s3, s4⟩
  · exact Or.inl ⟨fl, pf, cA_B1 ht (by omega) h19 s1, mA_B1 ho h19 s2⟩
  · obtain ⟨j1, j2, j3, j4, j5⟩ := s3
    by_cases hc : q_cp (q_K b n p1)
    · have hp : p1 < n := K_lt (b := b) (n := n) (i := p1) (by unfold q_cp at hc; omega)
      have hb := K_b b n p1
      have hc' := hc
      unfold q_cp at hc'
      obtain ⟨o1, o2, o3⟩ := cp_op (q_K b n p1).toNat (by omega) (by omega)
      rcases HS (p1 + 1) (k + c1.length) (a + c1.length) (m + c1.length) (by omega) (by omega) (by omega) (by omega) (by omega) with ⟨fl, pf, t1, t2⟩ | ⟨p2, c2, t1, t2, t3, t4⟩
      · exact Or.inl ⟨fl, pf, cA_B2 ht (by omega) (by omega) h19 hc s1 t1, mA_B2 ho (by omega) h19 s4 hc s2 t2⟩
      · obtain ⟨i1, i2, i3, i4, i5⟩ := t3
        have l : (c1 ++ c2 ++ [(q_ft (q_K b n p1).toNat, (0 : Int))]).length = c1.length + c2.length + 1 := by simp only [List.length_append, List.length_cons, List.length_nil]
        exact Or.inr ⟨p2, c1 ++ c2 ++ [(q_ft (q_K b n p1).toNat, 0)], cA_G ht (by omega) (by omega) h19 hc (by rw [o1]; omega) o2 s1 t1, mA_G ho (by omega) h19 s4 hc t4 s2 t2 o2, by omega, i2, by rw [l]; omega, by rw [l]; omega, ty_bin j5 i5 (Or.inr (Or.inl ⟨o3, rfl, rfl⟩)) ⟨by omega, by omega⟩⟩
    · exact Or.inl ⟨1, p1, cA_C ht (by omega) h19 hc s1, mA_C ho (by omega) h19 s4 hc s2⟩
theorem h_ask {b : Nat → Int} {n w t F P q : Nat} (ht : t < 4) (hn : n ≤ 300) (H : q_H1 b n w t F P q) : ∀ e o, o ≤ 8 → 8 - o = e → ∀ p k a m, q ≤ p → a = F + k → m = P + k → a ≤ p → m ≤ p → q_TA b n w t F P o p k a m := by
  have HS := h_sum ht hn H
  intro e
  induction e with
  | zero =>
    intro o ho he p k a m hq ha hm hap hmp
    obtain rfl : o = 8 := by omega
    by_cases h19 : q_K b n p = 19
    · exact Or.inl ⟨3, p, cA_8 ht (by omega) h19, mA_8 h19⟩
    · exact ask_s ht hn (HS 8 ho) h19 ho k a m hq ha hm hap hmp
  | succ e ih =>
    intro o ho he p k a m hq ha hm hap hmp
    by_cases h19 : q_K b n p = 19
    · have hp : p < n := K_lt (b := b) (n := n) (i := p) (by omega)
      rcases ih (o + 1) (by omega) (by omega) (p + 1) k a m (by omega) ha hm (by omega) (by omega) with ⟨fl, pf, s1, s2⟩ | ⟨p1, c1, s1, s2, s3⟩
      · exact Or.inl ⟨fl, pf, Cl_le (cA_notB ht (by omega) (by omega) h19 s1) (by omega), mA_notB (by omega) h19 s2⟩
      · obtain ⟨j1, j2, j3, j4, j5⟩ := s3
        have l : (c1 ++ [((405 : Int), (0 : Int))]).length = c1.length + 1 := by simp only [List.length_append, List.length_cons, List.length_nil]
        exact Or.inr ⟨p1, c1 ++ [(405, 0)], Cl_le (cA_notG ht (by omega) (by omega) (by omega) h19 s1) (by omega), mA_notG (by omega) (by omega) h19 s2, by omega, j2, by rw [l]; omega, by rw [l]; omega, ty_h (ty_un j5 (by omega) (Or.inr ⟨rfl, rfl, rfl⟩)) (by omega)⟩
    · exact ask_s ht hn (HS o ho) h19 ho k a m hq ha hm hap hmp
theorem h_either {b : Nat → Int} {n w t F P q : Nat} (ht : t < 4) (hn : n ≤ 300) (H : q_H1 b n w t F P q) : ∀ o, o ≤ 8 → ∀ p k a m, q ≤ p → a = F + k → m = P + k → a ≤ p → m ≤ p → q_TL b n w t F P (7 * (8 - o) + 8) mX6_readEither 0 3 1 2 o p k a m true (5 * (8 - o) + 6) (fun z => ¬ z = 20 ∧ ¬ z = 21) := by
  intro o ho
  refine tL_either (N := 7 * (8 - o) + 7) (hh := 5 * (8 - o) + 5) ht hn (by omega) ho (tL_both (N := 7 * (8 - o) + 6) (hh := 5 * (8 - o) + 4) ht hn (by omega) ho (fun p k a m hq ha hm hap hmp => ?_))
  rcases h_ask ht hn H (8 - o) o ho rfl p k a m hq ha hm hap hmp with ⟨fl, pf, s1, s2⟩ | ⟨p1, c1, s1, s2, s3⟩
  · exact Or.inl ⟨fl, pf, s1, lv_1B s2⟩
  · obtain ⟨j1, j2, j3, j4, j5⟩ := s3
    exact Or.inr ⟨p1, c1, s1, lv_AG ho (by omega) s2, ⟨j1, j2, j3, j4, j5⟩, trivial⟩
/-- one thing that is short, or no thing at all -/
theorem one_0 {b : Nat → Int} {n w t F P o p k a m : Nat} (ht : t < 4) (hw4 : w < 4) (hn : n ≤ 300) (ho : o ≤ 8) (ha : a ≤ p) (hm : m ≤ p) (hk : (¬ q_K b n p = 14 ∧ ¬ q_K b n p = 15 ∧ ¬ q_K b n p = 37 ∧ ¬ q_K b n p = 40) ∨ o = 8) : q_T1 b n w t F P o p k a m := by
  by_cases h45 : q_K b n p = 45
  · have hp : p < n := K_lt (b := b) (n := n) (i := p) (by omega)
    by_cases hv : 0 ≤ q_V b n p ∧ q_V b n p ≤ 9999
    · exact Or.inr ⟨p + 1, [(400, q_V b n p)], cO_num ht (by omega) (by omega) h45 hv, mO_num ho (by omega) h45 hv, by omega, by omega, by simp, by simp, ty_h (ty_num hv) (by omega)⟩
    · exact Or.inl ⟨2, p, cO_num2 ht (by omega) h45 hv, mO_num2 h45 hv⟩
  · by_cases hj : ∃ j, j < 12 ∧ q_K b n p = x_wd j
    · obtain ⟨j, j1, j2⟩ := hj
      have wk := wd_k j j1
      have hp : p < n := K_lt (b := b) (n := n) (i := p) (by omega)
      by_cases hal : x_al w j
      · exact Or.inr ⟨p + 1, [(401, (j : Int))], cO_nameG ht (by omega) (by omega) j1 hw4 j2 hal, mO_nameG ho (by omega) hw4 j1 j2 hal, by omega, by omega, by simp, by simp, ty_h (ty_name ⟨hal, j1⟩) (by omega)⟩
      · exact Or.inl ⟨5, p, cO_name5 ht (by omega) j1 hw4 j2 hal, mO_name5 hw4 j1 j2 hal⟩
    · have hj' : ∀ j, j < 12 → ¬ q_K b n p = x_wd j := fun j j1 j2 => hj ⟨j, j1, j2⟩
      by_cases h8 : q_K b n p = 14 ∨ q_K b n p = 15 ∨ q_K b n p = 37 ∨ q_K b n p = 40
      · obtain rfl : o = 8 := by omega
        exact Or.inl ⟨3, p, cO_8 ht (by omega) h8, mO_8 h8⟩
      · exact Or.inl ⟨1, p, cO_name1 ht (by omega) (by omega) hj', mO_name1 hj' (by omega)⟩
theorem one_min {b : Nat → Int} {n w t F P o p k a m : Nat} (ht : t < 4) (hn : n ≤ 300) (ho : o < 8) (ha : a = F + k) (hm : m = P + k) (hap : a ≤ p) (hmp : m ≤ p) (H : q_H1 b n w t F P (p + 1)) (hk : q_K b n p = 37) : q_T1 b n w t F P o p k a m := by
  have hp : p < n := K_lt (b := b) (n := n) (i := p) (by omega)
  rcases H (o + 1) (by omega) (p + 1) k a m (by omega) ha hm (by omega) (by omega) with ⟨fl, pf, s1, s2⟩ | ⟨p1, c1, s1, s2, s3⟩
  · exact Or.inl ⟨fl, pf, Cl_le (cO_minB ht (by omega) ho hk s1) (by omega), mO_minB ho hk s2⟩
  · obtain ⟨j1, j2, j3, j4, j5⟩ := s3
    have l : (c1 ++ [((402 : Int), (0 : Int))]).length = c1.length + 1 := by simp only [List.length_append, List.length_cons, List.length_nil]
    exact Or.inr ⟨p1, c1 ++ [(402, 0)], Cl_le (cO_minG ht (by omega) ho (by omega) hk s1) (by omega), mO_minG ho (by omega) hk s2, by omega, j2, by rw [l]; omega, by rw [l]; omega, ty_h (ty_un j5 (by omega) (Or.inl ⟨rfl, rfl, rfl⟩)) (by omega)⟩
theorem one_par {b : Nat → Int} {n w t F P o p k a m : Nat} (ht : t < 4) (hn : n ≤ 300) (ho : o < 8) (ha : a = F + k) (hm : m = P + k) (hap : a ≤ p) (hmp : m ≤ p) (H : q_H1 b n w t F P (p + 1)) (hk : q_K b n p = 40) : q_T1 b n w t F P o p k a m := by
  have hp : p < n := K_lt (b := b) (n := n) (i := p) (by omega)
  rcases h_sum ht hn H (o + 1) (by omega) (p + 1) k a m (by omega) ha hm (by omega) (by omega) with ⟨fl, pf, s1, s2⟩ | ⟨p1, c1, s1, s2, s3, s4⟩
  · exact Or.inl ⟨fl, pf, Cl_le (cO_parB ht (by omega) ho hk s1) (by omega), mO_parB ho hk s2⟩
  · obtain ⟨j1, j2, j3, j4, j5⟩ := s3
    by_cases h41 : q_K b n p1 = 41
    · have hp1 : p1 < n := K_lt (b := b) (n := n) (i := p1) (by omega)
      exact Or.inr ⟨p1 + 1, c1, Cl_le (cO_parG ht (by omega) ho (by omega) (by omega) hk s1 (fun _ _ _ g => g) (fun q => absurd h41 q)) (by omega), mO_par ho (by omega) hk s4 s2 (fun _ => rfl) (fun q => absurd h41 q), by omega, by omega, j3, by omega, ty_h j5 (by omega)⟩
    · exact Or.inl ⟨1, p1, Cl_le (cO_parG ht (by omega) ho (by omega) (by omega) hk s1 (fun q => absurd q h41) (fun _ _ _ g => g)) (by omega), mO_par ho (by omega) hk s4 s2 (fun q => absurd q h41) (fun _ => rfl)⟩
theorem one_far {b : Nat → Int} {n w t F P o p k a m : Nat} (ht : t < 4) (hn : n ≤ 300) (ho : o < 8) (ha : a = F + k) (hm : m = P + k) (hap : a ≤ p) (hmp : m ≤ p) (H : q_H1 b n w t F P (p + 1)) (hk : q_K b n p = 14) : q_T1 b n w t F P o p k a m := by
  have hp : p < n := K_lt (b := b) (n := n) (i := p) (by omega)
  rcases H (o + 1) (by omega) (p + 1) k a m (by omega) ha hm (by omega) (by omega) with ⟨fl, pf, s1, s2⟩ | ⟨p1, c1, s1, s2, s3⟩
  · exact Or.inl ⟨fl, pf, Cl_le (cO_far ht (by omega) ho Es_B hk (cF_B1 ht (by omega) s1)) (by omega), mO_farB1 ho hk s2⟩
  · obtain ⟨j1, j2, j3, j4, j5⟩ := s3
    by_cases h11 : q_K b n p1 = 11
    · have hp1 : p1 < n := K_lt (b := b) (n := n) (i := p1) (by omega)
      rcases H (o + 1) (by omega) (p1 + 1) (k + c1.length) (a + c1.length) (m + c1.length) (by omega) (by omega) (by omega) (by omega) (by omega) with ⟨fl, pf, t1, t2⟩ | ⟨p2, c2, t1, t2, t3⟩
      · exact Or.inl ⟨fl, pf, Cl_le (cO_far ht (by omega) ho Es_B hk (cF_B2 ht (by omega) (by omega) (by omega) h11 s1 t1)) (by omega), mO_farB2 ho (by omega) hk h11 s2 t2⟩
      · obtain ⟨i1, i2, i3, i4, i5⟩ := t3
        have l : (c1 ++ c2 ++ [((403 : Int), (0 : Int))]).length = c1.length + c2.length + 1 := by simp only [List.length_append, List.length_cons, List.length_nil]
        exact Or.inr ⟨p2, c1 ++ c2 ++ [(403, 0)], Cl_le (cO_far ht (by omega) ho (Es_G (by omega)) hk (cF_G ht (by omega) (by omega) (by omega) h11 s1 t1)) (by omega), mO_farG ho (by omega) hk h11 s2 t2, by omega, i2, by rw [l]; omega, by rw [l]; omega, ty_bin j5 i5 (Or.inl ⟨by decide, rfl, rfl⟩) ⟨by omega, by omega⟩⟩
    · exact Or.inl ⟨1, p1, Cl_le (cO_far ht (by omega) ho Es_B hk (cF_T ht (by omega) (by omega) h11 s1)) (by omega), mO_farT ho (by omega) hk h11 s2⟩
theorem one_if {b : Nat → Int} {n w t F P o p k a m : Nat} (ht : t < 4) (hn : n ≤ 300) (ho : o < 8) (ha : a = F + k) (hm : m = P + k) (hap : a ≤ p) (hmp : m ≤ p) (H : q_H1 b n w t F P (p + 1)) (hk : q_K b n p = 15) : q_T1 b n w t F P o p k a m := by
  have hp : p < n := K_lt (b := b) (n := n) (i := p) (by omega)
  have HS := h_sum ht hn H (o + 1) (by omega)
  have up : ∀ {E : x_T → x_T → Prop} {p k}, q_Cl b n w t (7 * (8 - (o + 1)) + 5) mX6_readSum (o + 1) p k E → q_Cl b n w t (7 * (8 - (o + 1)) + 8) mX6_readSum (o + 1) p k E := fun h => Cl_le h (by omega)
  rcases h_either ht hn H (o + 1) (by omega) (p + 1) k a m (by omega) ha hm (by omega) (by omega) with ⟨fl, pf, s1, s2⟩ | ⟨p1, c1, s1, s2, s3, s4⟩
  · exact Or.inl ⟨fl, pf, Cl_le (cO_if ht (by omega) ho Es_B hk (cI_B1 ht (by omega) s1)) (by omega), mI_B1 ho hk s2⟩
  obtain ⟨j1, j2, j3, j4, j5⟩ := s3
  by_cases h16 : q_K b n p1 = 16
  · have hp1 : p1 < n := K_lt (b := b) (n := n) (i := p1) (by omega)
    rcases HS (p1 + 1) (k + c1.length + 1) (a + c1.length + 1) (m + c1.length + 1) (by omega) (by omega) (by omega) (by omega) (by omega) with ⟨fl, pf, t1, t2⟩ | ⟨p2, c2, t1, t2, t3, t4⟩
    · exact Or.inl ⟨fl, pf, Cl_le (cO_if ht (by omega) ho Es_B hk (cI_B2 ht (by omega) (by omega) (by omega) h16 s1 (up t1))) (by omega), mI_B2 ho (by omega) hk s4 h16 s2 t2⟩
    obtain ⟨i1, i2, i3, i4, i5⟩ := t3
    by_cases h17 : q_K b n p2 = 17
    · have hp2 : p2 < n := K_lt (b := b) (n := n) (i := p2) (by omega)
      rcases HS (p2 + 1) (k + c1.length + 1 + c2.length + 1) (a + c1.length + 1 + c2.length + 1) (m + c1.length + 1 + c2.length + 1) (by omega) (by omega) (by omega) (by omega) (by omega) with ⟨fl, pf, r1, r2⟩ | ⟨p3, c3, r1, r2, r3, r4⟩
      · exact Or.inl ⟨fl, pf, Cl_le (cO_if ht (by omega) ho Es_B hk (cI_B3 ht (by omega) ha (by omega) (by omega) (by omega) h16 h17 s1 (up t1) (up r1))) (by omega), mI_B3 ho hm (by omega) hk s4 h16 t4 h17 s2 t2 r2⟩
      obtain ⟨y1, y2, y3, y4, y5⟩ := r3
      by_cases h18 : q_K b n p3 = 18
      · have hp3 : p3 < n := K_lt (b := b) (n := n) (i := p3) (by omega)
        refine Or.inr ⟨p3 + 1, c1 ++ [(404, ((k + c1.length + 1 + c2.length + 1 : Nat) : Int))] ++ c2 ++ [(409, ((k + c1.length + 1 + c2.length + 1 + c3.length : Nat) : Int))] ++ c3, Cl_le (cO_if ht (by omega) ho (Es_G (by omega)) hk (cI_G ht (by omega) ha (by omega) (by omega) (by omega) (by omega) h16 h17 h18 s1 (up t1) (up r1))) (by omega), mI_3 ho hm (by omega) hk s4 h16 t4 h17 r4 s2 t2 r2 (fun q => absurd h18 q) (fun _ => rfl), by omega, by omega, ?_, ?_, ?_⟩
        · simp only [List.length_append, List.length_cons, List.length_nil]; omega
        · simp only [List.length_append, List.length_cons, List.length_nil]; omega
        · exact ty_h (ty_if j5 (ty_h i5 (by omega)) (ty_h y5 (by omega)) (by omega)) (by omega)
      · exact Or.inl ⟨1, p3, Cl_le (cO_if ht (by omega) ho Es_B hk (cI_E ht (by omega) ha (by omega) (by omega) (by omega) (by omega) h16 h17 h18 s1 (up t1) (up r1))) (by omega), mI_3 ho hm (by omega) hk s4 h16 t4 h17 r4 s2 t2 r2 (fun _ => rfl) (fun q => absurd q h18)⟩
    · exact Or.inl ⟨1, p2, Cl_le (cO_if ht (by omega) ho Es_B hk (cI_L ht (by omega) (by omega) (by omega) (by omega) h16 h17 s1 (up t1))) (by omega), mI_L ho hm (by omega) hk s4 h16 t4 h17 s2 t2⟩
  · exact Or.inl ⟨1, p1, Cl_le (cO_if ht (by omega) ho Es_B hk (cI_T ht (by omega) (by omega) h16 s1)) (by omega), mI_T ho (by omega) hk s4 h16 s2⟩
theorem one_s {b : Nat → Int} {n w t F P q : Nat} (ht : t < 4) (hw4 : w < 4) (hn : n ≤ 300) (H : q_H1 b n w t F P (q + 1)) : q_H1 b n w t F P q := by
  intro o ho p k a m hq ha hm hap hmp
  by_cases e : q = p
  · subst e
    by_cases ho8 : o = 8
    · exact one_0 ht hw4 hn ho hap hmp (Or.inr ho8)
    · by_cases h14 : q_K b n q = 14
      · exact one_far ht hn (by omega) ha hm hap hmp H h14
      · by_cases h15 : q_K b n q = 15
        · exact one_if ht hn (by omega) ha hm hap hmp H h15
        · by_cases h37 : q_K b n q = 37
          · exact one_min ht hn (by omega) ha hm hap hmp H h37
          · by_cases h40 : q_K b n q = 40
            · exact one_par ht hn (by omega) ha hm hap hmp H h40
            · exact one_0 ht hw4 hn ho hap hmp (Or.inl ⟨h14, h15, h37, h40⟩)
  · exact H o ho p k a m (by omega) ha hm hap hmp
theorem one_n {b : Nat → Int} {n w t F P : Nat} (ht : t < 4) (hw4 : w < 4) (hn : n ≤ 300) : q_H1 b n w t F P n := by
  intro o ho p k a m hq ha hm hap hmp
  have e : q_K b n p = 46 := by
    by_cases z : q_K b n p = 46
    · exact z
    · have := K_lt z; omega
  exact one_0 ht hw4 hn ho hap hmp (Or.inl ⟨by omega, by omega, by omega, by omega⟩)
theorem one_all {b : Nat → Int} {n w t F P : Nat} (ht : t < 4) (hw4 : w < 4) (hn : n ≤ 300) : q_H1 b n w t F P 0 :=
  z_down (P := fun q => q_H1 b n w t F P q) (N := n) (one_n ht hw4 hn) (fun q _ h => one_s ht hw4 hn h) 0 (Nat.zero_le _)
/-- a law, read by both -/
theorem law_all {b : Nat → Int} {n w t F P p : Nat} (ht : t < 4) (hw4 : w < 4) (hn : n ≤ 300) (hF : F ≤ p) (hP : P ≤ p) : q_TL b n w t F P 61 mX6_readSum 1 2 3 2 0 p 0 F P false 43 (fun z => ¬ z = 36 ∧ ¬ z = 37 ∧ ¬ z = 38 ∧ ¬ z = 39) :=
  h_sum ht hn (one_all ht hw4 hn) 0 (by omega) p 0 F P (Nat.zero_le _) rfl rfl hF hP
