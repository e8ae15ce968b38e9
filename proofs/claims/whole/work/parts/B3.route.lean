/-! the lowest route, in numbers -/
def y_gt (ln : Nat → Nat → Bool) (dn : Nat → Nat → Nat) (N : Nat) (Y : Nat → Int) (k : Nat) : Nat := (z_first (fun t => decide (ln (k / 9) t = true ∧ 1 + Y (y_nk dn k t) = Y k)) N 0).toNat
def y_gk (ln : Nat → Nat → Bool) (dn : Nat → Nat → Nat) (N : Nat) (Y : Nat → Int) (k0 : Nat) : Nat → Nat
  | 0 => k0
  | i + 1 => y_nk dn (y_gk ln dn N Y k0 i) (y_gt ln dn N Y (y_gk ln dn N Y k0 i))
theorem gk_all {ln : Nat → Nat → Bool} {dn : Nat → Nat → Nat} {N M : Nat} {Y : Nat → Int} (h8 : N ≤ 8) (hd : ∀ t q, q ≤ 8 → dn t q ≤ 8) (hdM : ∀ t q, q ≤ M → dn t q ≤ M) (hM : M ≤ 8) (h0 : ∀ k, Y k = 0 ↔ k % 9 = M) (wit : ∀ k, Y k = 999 ∨ k % 9 = M ∨ (k < 9 * N ∧ ∃ t, t < N ∧ ln (k / 9) t = true ∧ 1 + Y (y_nk dn k t) = Y k)) {k0 l : Nat} (hk : k0 < 9 * N) (hkM : k0 % 9 ≤ M) (hl : Y k0 = l) (hl9 : l < 999) : ∀ i, i ≤ l → y_gk ln dn N Y k0 i < 9 * N ∧ y_gk ln dn N Y k0 i % 9 ≤ M ∧ Y (y_gk ln dn N Y k0 i) = l - (i : Int) ∧ (i < l → y_gt ln dn N Y (y_gk ln dn N Y k0 i) < N ∧ ln (y_gk ln dn N Y k0 i / 9) (y_gt ln dn N Y (y_gk ln dn N Y k0 i)) = true ∧ 1 + Y (y_gk ln dn N Y k0 (i + 1)) = Y (y_gk ln dn N Y k0 i) ∧ ∀ t, t < y_gt ln dn N Y (y_gk ln dn N Y k0 i) → ln (y_gk ln dn N Y k0 i / 9) t = true → ¬ 1 + Y (y_nk dn (y_gk ln dn N Y k0 i) t) = Y (y_gk ln dn N Y k0 i)) := by
  intro i
  induction i with
  | zero =>
    intro _
    refine ⟨hk, hkM, by rw [y_gk, hl]; omega, fun hlt => ?_⟩
    rcases wit k0 with z | z | ⟨z, t, z1, z2, z3⟩
    · omega
    · have := (h0 k0).mpr z; omega
    · obtain ⟨n, n1, n2, n3, n4, n5⟩ := first_s (P := fun t => decide (ln (k0 / 9) t = true ∧ 1 + Y (y_nk dn k0 t) = Y k0)) N 0 ⟨t, by omega, by omega, decide_eq_true ⟨z2, z3⟩⟩
      have e : y_gt ln dn N Y k0 = n := by unfold y_gt; rw [n5]; rfl
      have n3 := of_decide_eq_true n3
      simp only [y_gk]
      rw [e]
      refine ⟨by omega, n3.1, n3.2, fun t ht hlt2 hz => ?_⟩
      have := of_decide_eq_false (n4 t (by omega) ht)
      exact this ⟨hlt2, hz⟩
  | succ i ih =>
    intro hi
    obtain ⟨a1, a2, a3, a4⟩ := ih (by omega)
    obtain ⟨b1, b2, b3, b4⟩ := a4 (by omega)
    have hY : Y (y_gk ln dn N Y k0 (i + 1)) = l - ((i + 1 : Nat) : Int) := by omega
    have hr : y_gk ln dn N Y k0 (i + 1) < 9 * N ∧ y_gk ln dn N Y k0 (i + 1) % 9 ≤ M := by
      rw [y_gk, y_nk]
      have d1 := hd (y_gt ln dn N Y (y_gk ln dn N Y k0 i)) (y_gk ln dn N Y k0 i % 9) (by omega)
      have d2 := hdM (y_gt ln dn N Y (y_gk ln dn N Y k0 i)) (y_gk ln dn N Y k0 i % 9) a2
      omega
    refine ⟨hr.1, hr.2, hY, fun hlt => ?_⟩
    have e9 : y_gk ln dn N Y k0 (i + 1 + 1) = y_nk dn (y_gk ln dn N Y k0 (i + 1)) (y_gt ln dn N Y (y_gk ln dn N Y k0 (i + 1))) := rfl
    rw [e9]
    generalize y_gk ln dn N Y k0 (i + 1) = k at hY hr
    rcases wit k with z | z | ⟨z, t, z1, z2, z3⟩
    · omega
    · have := (h0 k).mpr z; omega
    · obtain ⟨n, n1, n2, n3, n4, n5⟩ := first_s (P := fun t => decide (ln (k / 9) t = true ∧ 1 + Y (y_nk dn k t) = Y k)) N 0 ⟨t, by omega, by omega, decide_eq_true ⟨z2, z3⟩⟩
      have e : y_gt ln dn N Y k = n := by unfold y_gt; rw [n5]; rfl
      have n3 := of_decide_eq_true n3
      rw [e]
      refine ⟨by omega, n3.1, n3.2, fun t ht hlt2 hz => ?_⟩
      have := of_decide_eq_false (n4 t (by omega) ht)
      exact this ⟨hlt2, hz⟩
/-! the class's search -/
def y_W (A : Nat → Int) (h q : Nat) : Bool := decide (z_hour A h (A (94 + 2 * q)) = A (95 + 2 * q))
def y_Dn (A : Nat → Int) (h q : Nat) : Nat := y_dn (y_W A) (A 5).toNat h q
def y_Ln (A : Nat → Int) (h t : Nat) : Bool := decide (0 < z_ln A h t)
def y_B (τ σ : x_T) (N M n : Nat) : Prop := x_fr y_Sl τ σ ∧ (σ.1 333 4).toInt = n ∧ n = y_ct (fun p => decide (¬ σ.1 335 p = -2)) 72 ∧ ∀ m, m < n → ∃ p, p < 72 ∧ σ.1 334 m = nI p ∧ ¬ σ.1 335 p = -2 ∧ p % 8 < N ∧ p / 8 ≤ M
theorem cl_comeTo {d t q n N M : Nat} {v : Int32} {τ σ : x_T} {A : Nat → Int} {K : x_T → Prop} (hc : x_cl 1 τ A) (wA : w_A A) (hN : A 0 = N) (hM : A 5 = M) (ht : t < N) (hq : q ≤ M) (hv : ¬ v = -2) (hB : y_B τ σ N M n)
    (h0 : ¬ σ.1 335 (8 * y_Dn A t q + t) = -2 → K σ)
    (h1 : σ.1 335 (8 * y_Dn A t q + t) = -2 → ∀ ρ : x_T, y_B τ ρ N M (n + 1) → (∀ x, ρ.1 335 x = if x = 8 * y_Dn A t q + t then v else σ.1 335 x) → (∀ m, ρ.1 334 m = if m = n then nI (8 * y_Dn A t q + t) else σ.1 334 m) → K ρ) : x_CV (d + 1 + 1) mX10_comeTo [.ref 333, .int (nI t), .int (nI q), .int v] σ K := by
  obtain ⟨f, b4, bc, bq⟩ := hB
  have w0 := wA.1
  have w5 := wA.2.2.2.2.2.2.1
  have hMt : (A 5).toNat = M := by omega
  have cσ : x_cl 1 σ A := clB_fr hc (fun c hc => f.1 c (by unfold y_Sl x_sL; omega))
  have cw := cσ.2.2.2.2.2.2.2.1
  have zt : (nI t).toInt = t := z_n (by omega)
  refine e_X10_comeTo ?_
  have db : y_Dn A t q ≤ M := by
    unfold y_Dn; rw [hMt]; exact (dn_b (by omega)).2.2 hq
  have fin : ∀ q', q' = y_Dn A t q → x_WV (d + 1 + 1) mX10_comeTo K 67 [(0, .ref 333), (1, .int (nI t)), (3, .int v), (5, .int (nI q'))] [] σ := by
    intro q' e
    subst e
    generalize hP : 8 * y_Dn A t q + t = P at h0 h1
    have ey : nI (y_Dn A t q) * 8 + nI t = nI P := by rw [show nI (y_Dn A t q) * (8 : Int32) = nI (y_Dn A t q * 8) from n_mul _ 8, n_add, ← hP, Nat.mul_comm]
    have P72 : P < 72 := by omega
    have zP : (nI P).toInt = P := z_n (by omega)
    have cP : (nI P).toNatClampNeg = P := nI_clamp (by omega)
    refine k_X10_comeTo_67 (fun y1 e1 => ?_)
    rw [ey] at e1
    subst e1
    rw [cP]
    refine ⟨fun r => ?_, fun _ => ⟨fun r => ?_, fun _ => ⟨vp_in_nI (by omega) (by decide), fun r => h0 r, fun r => ⟨fun s => ?_, fun _ => ?_⟩⟩⟩⟩
    · rw [z_lt, zP] at r; simp only [Int32.reduceToInt] at r; omega
    · rw [z_le, zP] at r; simp only [Int32.reduceToInt] at r; omega
    · rw [z_lt, b4] at s; simp only [Int32.reduceToInt] at s; omega
    · have n72 : n < 72 := by
        have := (ct_lt (Q := fun p => decide (¬ σ.1 335 p = -2)) (Q' := fun _ => true) (fun _ _ => rfl) (j0 := P) (decide_eq_false (fun z => z r)) rfl 72).2 P72
        have h8 := ct_le (fun _ => true) 72
        omega
      refine ⟨fun s => ?_, fun _ => ⟨vp_in_nI (by omega) (by decide), fun t2 e2 => ?_⟩⟩
      · rw [z_le, b4] at s; simp only [Int32.reduceToInt] at s; omega
      have t24 : t2.1 333 4 = σ.1 333 4 := by rw [e2, w1_c (by omega)]
      have cn : (t2.1 333 4).toNatClampNeg = n := by rw [t24, z_cl, b4]; omega
      rw [cn]
      refine ⟨ix_n (by rw [t24, b4]; omega), fun t3 e3 t4 e4 => ?_⟩
      have E : ∀ x, t4.1 335 x = if x = P then v else σ.1 335 x := by
        intro x
        rw [e4, w1_c (by omega), e3, w1_c (by omega), e2, w1_at]
        by_cases z : x = P
        · rw [if_pos ⟨rfl, z⟩, if_pos z]
        · rw [if_neg (fun y => z y.2), if_neg z]
      have Q : ∀ m, t4.1 334 m = if m = n then nI P else σ.1 334 m := by
        intro m
        rw [e4, w1_c (by omega), e3, w1_at, e2]
        by_cases z : m = n
        · rw [if_pos ⟨rfl, z⟩, if_pos z]
        · rw [if_neg (fun y => z y.2), if_neg z, w1_c (by omega)]
      refine h1 r t4 ⟨by rw [e4, e3, e2]; exact fr_w (fr_w (fr_w f (Or.inr (by omega))) (Or.inr (by omega))) (Or.inr (by omega)), ?_, ?_, fun m hm => ?_⟩ E Q
      · have t34 : t3.1 333 4 = σ.1 333 4 := by rw [e3, w1_c (by omega), t24]
        rw [e4, w1_at, if_pos ⟨rfl, rfl⟩, t34, z_add (by rw [b4]; simp only [Int32.reduceToInt]; omega), b4]; simp only [Int32.reduceToInt]; omega
      · have u := ct_upd (S := fun p => decide (¬ σ.1 335 p = -2)) (m := P) (decide_eq_false (fun z => z r)) 72 P72
        have g : y_ct (fun p => decide (¬ t4.1 335 p = -2)) 72 = y_ct (fun x => if x = P then true else decide (¬ σ.1 335 x = -2)) 72 := by
          refine ct_cg 72 (fun j _ => ?_)
          show decide (¬ t4.1 335 j = -2) = _
          rw [E j]
          by_cases z : j = P
          · rw [if_pos z, if_pos z, decide_eq_true hv]
          · rw [if_neg z, if_neg z]
        rw [g, u, ← bc]
      · by_cases z : m = n
        · refine ⟨P, P72, by rw [Q m, if_pos z], by rw [E P, if_pos rfl]; exact hv, by omega, by omega⟩
        · obtain ⟨p, p1, p2, p3, p4, p5⟩ := bq m (by omega)
          refine ⟨p, p1, by rw [Q m, if_neg z]; exact p2, ?_, p4, p5⟩
          rw [E p]
          by_cases y : p = P
          · rw [if_pos y]; exact hv
          · rw [if_neg y]; exact p3
  have loop : ∀ (f q' : Nat), q' + f = M → y_Dn A t q' = y_Dn A t q → q' ≤ M → x_WV (d + 1 + 1) mX10_comeTo K 12 [(0, .ref 333), (1, .int (nI t)), (3, .int v), (4, .ref 7), (5, .int (nI q'))] [] σ := by
    intro f
    induction f with
    | zero =>
      intro q' e1 e2 e3
      have zq : (nI q').toInt = q' := z_n (by omega)
      have eq : y_Dn A t q' = q' := by unfold y_Dn; exact dn_no (by omega)
      refine k_X10_comeTo_12 ⟨fun r => ?_, fun _ => ⟨fun _ => fin q' (by omega), fun r => absurd (by rw [z_le, cw.1, zq]; omega) r⟩⟩
      rw [z_lt, zq] at r; simp only [Int32.reduceToInt] at r; omega
    | succ f ih =>
      intro q' e1 e2 e3
      have zq : (nI q').toInt = q' := z_n (by omega)
      have cq : (nI q').toNatClampNeg = q' := nI_clamp (by omega)
      obtain ⟨v1, v2⟩ := cw.2 q' (by omega)
      refine k_X10_comeTo_12 ⟨fun r => ?_, fun _ => ⟨fun r => ?_, fun _ => ⟨fun r => ?_, fun _ => ⟨vp_in_nI (by omega) (by decide), ?_⟩⟩⟩⟩
      · rw [z_lt, zq] at r; simp only [Int32.reduceToInt] at r; omega
      · rw [z_le, cw.1, zq] at r; omega
      · rw [z_le, zq] at r; simp only [Int32.reduceToInt] at r; omega
      · rw [cq]
        have v1 : (σ.1 8 q').toInt = A (94 + 2 * q') := v1
        have v2 : (σ.1 9 q').toInt = A (95 + 2 * q') := v2
        refine cl_hourBy cσ wA (fun u hu => ⟨vp_in_nI (by omega) (by decide), fun r => fin q' ?_, fun r y3 e3 => ?_⟩)
        · rw [z_eq, hu, zt, v1, v2] at r
          rw [← e2]
          unfold y_Dn
          rw [dn_no]
          rintro ⟨-, z⟩
          exact r (of_decide_eq_true z)
        · rw [z_eq, hu, zt, v1, v2] at r
          rw [e3, ← nI_succ]
          refine ih (q' + 1) (by omega) ?_ (by omega)
          rw [← e2]
          unfold y_Dn
          exact (dn_go (by omega) (by omega) (decide_eq_true r)).symm
  exact loop (M - q) q (by omega) rfl hq
theorem cl_goOnFrom {d p n N M : Nat} {τ σ : x_T} {A : Nat → Int} {K : x_T → Prop} (hc : x_cl 1 τ A) (wA : w_A A) (hN : A 0 = N) (hM : A 5 = M) (hp : p < 72) (hp8 : p % 8 < N) (hpM : p / 8 ≤ M) (I : Nat → x_T → Nat → Prop)
    (hskip : ∀ t, t < N → ∀ (σ : x_T) (n : Nat), y_B τ σ N M n → I t σ n → ¬ y_Ln A (p % 8) t = true → I (t + 1) σ n)
    (hold : ∀ t, t < N → ∀ (σ : x_T) (n : Nat), y_B τ σ N M n → I t σ n → y_Ln A (p % 8) t = true → ¬ σ.1 335 (8 * y_Dn A t (p / 8) + t) = -2 → I (t + 1) σ n)
    (hnew : ∀ t, t < N → ∀ (σ : x_T) (n : Nat), y_B τ σ N M n → I t σ n → y_Ln A (p % 8) t = true → σ.1 335 (8 * y_Dn A t (p / 8) + t) = -2 → ∀ ρ : x_T, y_B τ ρ N M (n + 1) → (∀ x, ρ.1 335 x = if x = 8 * y_Dn A t (p / 8) + t then nI p else σ.1 335 x) → (∀ m, ρ.1 334 m = if m = n then nI (8 * y_Dn A t (p / 8) + t) else σ.1 334 m) → I (t + 1) ρ (n + 1))
    (hB : y_B τ σ N M n) (hI : I 0 σ n) (hK : ∀ (ρ : x_T) (n : Nat), y_B τ ρ N M n → I N ρ n → K ρ) : x_CV (d + 1 + 1 + 1) mX10_goOnFrom [.ref 333, .int (nI p)] σ K := by
  have w0 := wA.1
  have w5 := wA.2.2.2.2.2.2.1
  have dv : nI p / 8 = nI (p / 8) := n_div (b := 8) (by omega) (by omega) (by omega)
  refine e_X10_goOnFrom (fun y1 e1 => ?_)
  have ey : y1 = nI (p % 8) := by rw [e1]; exact n_mod (b := 8) (by omega) (by omega) (by omega)
  subst ey
  have zh : (nI (p % 8)).toInt = ((p % 8 : Nat) : Int) := z_n (by omega)
  have vn : ¬ nI p = -2 := fun z => by
    have : (nI p).toInt = -2 := by rw [z]; decide
    rw [z_n (by omega)] at this
    omega
  have loop : ∀ t, t ≤ N → (fun t => ∀ (σ : x_T) (n : Nat), y_B τ σ N M n → I t σ n → x_WV (d + 1 + 1 + 1) mX10_goOnFrom K 7 [(0, .ref 333), (1, .int (nI p)), (2, .int (nI (p % 8))), (3, .int (nI t))] [] σ) t := by
    refine z_down ?_ ?_
    · intro σ n hB hI
      have cσ : x_cl 1 σ A := clB_fr hc (fun c hc => hB.1.1 c (by unfold y_Sl x_sL; omega))
      exact k_X10_goOnFrom_7 ⟨fun _ => hK σ n hB hI, fun q => absurd (by rw [z_le, cσ.1, z_n (by omega)]; omega) q⟩
    · intro t ht ih σ n hB hI
      have cσ : x_cl 1 σ A := clB_fr hc (fun c hc => hB.1.1 c (by unfold y_Sl x_sL; omega))
      have zt : (nI t).toInt = t := z_n (by omega)
      have bl := z_ln_b wA (p % 8 : Nat) t
      have nx : ∀ (σ : x_T) (n : Nat), y_B τ σ N M n → I (t + 1) σ n → x_WV (d + 1 + 1 + 1) mX10_goOnFrom K 40 [(0, .ref 333), (1, .int (nI p)), (2, .int (nI (p % 8))), (3, .int (nI t))] [] σ := by
        intro σ n hB hI
        refine k_X10_goOnFrom_40 (fun y1 e1 => ?_)
        rw [e1, ← nI_succ]
        exact ih σ n hB hI
      refine k_X10_goOnFrom_7 ⟨fun q => ?_, fun _ => cl_laneBetween cσ wA (fun u hu => ⟨fun q => nx σ n hB (hskip t ht σ n hB hI ?_), fun q => ?_⟩)⟩
      · rw [z_le, cσ.1, zt] at q; omega
      · rw [zh, zt] at hu
        rw [z_le, hu] at q
        simp only [Int32.reduceToInt] at q
        unfold y_Ln
        rw [decide_eq_true_iff]
        omega
      · rw [zh, zt] at hu
        rw [z_le, hu] at q
        simp only [Int32.reduceToInt] at q
        have hl : y_Ln A (p % 8) t = true := decide_eq_true (by omega)
        rw [dv]
        exact cl_comeTo hc wA hN hM ht hpM vn hB (fun z => nx σ n hB (hold t ht σ n hB hI hl z)) (fun z ρ b e q => nx ρ (n + 1) b (hnew t ht σ n hB hI hl z ρ b e q))
  exact loop 0 (by omega) σ n hB hI
