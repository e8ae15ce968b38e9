/-! fair -/
def y_ah (A : Nat → Int) (H : Nat → Nat) (i j : Nat) : Bool := decide ((H i : Int) * A (22 + j) < H j * A (22 + i) ∨ ((H i : Int) * A (22 + j) = H j * A (22 + i) ∧ A (22 + j) < A (22 + i)))
def y_ls (A : Nat → Int) (H : Nat → Nat) : Nat → Nat
  | 0 => 0
  | k + 1 => if k = 0 ∨ y_ah A H k (y_ls A H k) = true then k else y_ls A H k
theorem ls_lt (A : Nat → Int) (H : Nat → Nat) : ∀ k, 0 < k → y_ls A H k < k := by
  intro k
  induction k with
  | zero => intro h; omega
  | succ k ih =>
    intro _
    rw [y_ls]
    split
    · omega
    · rename_i q
      have := ih (by omega)
      omega
def y_fh (A : Nat → Int) (N : Nat) : Nat → Nat → Nat
  | 0 => fun _ => 0
  | t + 1 => fun j => y_fh A N t j + if j = y_ls A (y_fh A N t) N then 1 else 0
theorem fh_s (A : Nat → Int) (N t j : Nat) : y_fh A N (t + 1) j = y_fh A N t j + if j = y_ls A (y_fh A N t) N then 1 else 0 := rfl
theorem fh_b (A : Nat → Int) (N : Nat) : ∀ t j, y_fh A N t j ≤ t := by
  intro t
  induction t with
  | zero => intro j; simp [y_fh]
  | succ t ih =>
    intro j
    have := ih j
    simp only [y_fh]
    split <;> omega
theorem ah_b {a b : Int} (ha : 0 ≤ a ∧ a ≤ 9) (hb : 0 ≤ b ∧ b ≤ 9) : 0 ≤ a * b ∧ a * b ≤ 81 := by
  refine ⟨Int.mul_nonneg ha.1 hb.1, ?_⟩
  have := Int.mul_le_mul ha.2 hb.2 hb.1 (by omega : (0 : Int) ≤ 9)
  omega
theorem q_fair {τ : x_T} (h : x_J τ) (a1 : Int32) : x_CI 2000 mX11_fair [.ref 0, .int a1] τ (fun τ1 u => x_CI 2000 mX12_fair [.ref 345, .int a1] τ1 (fun τ2 v => u = v ∧ x_J τ2)) := by
  generalize hA : j_A τ = A
  have hJ := h.1
  rw [hA] at hJ
  have wA := hJ.1
  have w0 := wA.1
  have wW := wA.2.2.2.1
  have hc := hJ.2.1
  have n1 : (-1 : Int32).toInt = -1 := by decide
  obtain ⟨N, hN⟩ : ∃ N : Nat, A 0 = N := ⟨(A 0).toNat, by omega⟩
  by_cases ok : 1 ≤ a1.toInt ∧ a1.toInt ≤ 9
  · obtain ⟨m, hm⟩ : ∃ m : Nat, a1.toInt = (m + 1 : Nat) := ⟨a1.toInt.toNat - 1, by omega⟩
    obtain ⟨Z, hZ1, hZ0⟩ : ∃ Z : Int, (0 < N → Z = y_ls A (y_fh A N m) N) ∧ (N = 0 → Z = -1) := by
      by_cases q : 0 < N
      · exact ⟨_, fun _ => rfl, fun z => by omega⟩
      · exact ⟨-1, fun z => absurd z q, fun _ => rfl⟩
    refine pair_q h Z (fun K hK => ?_) (fun σ f K hK => ?_)
    · refine e_X11_fair ⟨fun q => ?_, fun _ => ⟨fun _ => e_X0_fairTurn ?_, fun q => ?_⟩⟩
      · rw [z_lt] at q; simp only [Int32.reduceToInt] at q; omega
      · have least : ∀ (t : Nat) (σ : x_T) (P : x_T → Int32 → Prop), t ≤ m → x_fr x_sc τ σ → (0 < N → ∀ j, j < 8 → σ.1 340 j = nI (y_fh A N t j)) → (∀ v : Int32, (0 < N → v.toInt = y_ls A (y_fh A N t) N) → (N = 0 → v = -1) → P σ v) → x_CI 1998 mX0_leastServed [.ref 339] σ P := by
          intro t σ P ht fσ hH hP
          have cσ : x_cl 1 σ A := clB_fr hc (fun c hc => fσ.1 c (by unfold x_sc; omega))
          have c0 := cσ.1
          have cw := cσ.2.2.2.1
          refine e_X0_leastServed ?_
          have loop : ∀ k, k ≤ N → (fun k => ∀ v : Int32, (0 < k → v.toInt = y_ls A (y_fh A N t) k) → (k = 0 → v = -1) → x_WI 1998 mX0_leastServed P 4 [(0, .ref 339), (1, .int v), (2, .int (nI k))] [] σ) k := by
            refine z_down ?_ ?_
            · intro v h1 h2
              exact k_X0_leastServed_4 ⟨fun _ => hP v h1 h2, fun q => absurd (by rw [z_le, c0, z_n (by omega)]; omega) q⟩
            · intro k hk ih v h1 h2
              have zk : (nI k).toInt = k := z_n (by omega)
              have ck : (nI k).toNatClampNeg = k := nI_clamp (by omega)
              have up : (k = 0 ∨ y_ah A (y_fh A N t) k (y_ls A (y_fh A N t) k) = true) → x_WI 1998 mX0_leastServed P 35 [(0, .ref 339), (2, .int (nI k))] [] σ := by
                intro z
                refine k_X0_leastServed_35 (k_X0_leastServed_37 (fun y1 e1 => ?_))
                rw [e1, ← nI_succ]
                exact ih (nI k) (fun _ => by rw [y_ls, if_pos z, zk]) (fun z => by omega)
              refine k_X0_leastServed_4 ⟨fun q => ?_, fun _ => ⟨fun q => ?_, fun _ => ⟨fun q => up (Or.inl ?_), fun q => ?_⟩⟩⟩
              · rw [z_le, c0, zk] at q; omega
              · rw [z_le, zk] at q; simp only [Int32.reduceToInt] at q; omega
              · rcases Nat.eq_zero_or_pos k with r | r
                · exact r
                · have := h1 r; rw [q, n1] at this; omega
              · have k0 : 0 < k := by
                  rcases Nat.eq_zero_or_pos k with r | r
                  · exact absurd (h2 r) q
                  · exact r
                have hv := h1 k0
                have lt := ls_lt A (y_fh A N t) k k0
                generalize hg : y_ls A (y_fh A N t) k = g at hv lt up
                have cg : v.toNatClampNeg = g := by rw [z_cl, hv]; omega
                have b1 := fh_b A N t k
                have b2 := fh_b A N t g
                have wk := wW k (by omega)
                have wg := wW g (by omega)
                have r1 := hH (by omega) k (by omega)
                have r2 := hH (by omega) g (by omega)
                have u1 := cw k (by omega) (by omega)
                have u2 := cw g (by omega) (by omega)
                have p1 := ah_b (a := (y_fh A N t k : Int)) (b := A (22 + g)) (by omega) (by omega)
                have p2 := ah_b (a := (y_fh A N t g : Int)) (b := A (22 + k)) (by omega) (by omega)
                have z1 : (σ.1 340 k).toInt = y_fh A N t k := by rw [r1, z_n (by omega)]
                have z2 : (σ.1 340 g).toInt = y_fh A N t g := by rw [r2, z_n (by omega)]
                have nope : ¬ y_ah A (y_fh A N t) k g = true → x_WI 1998 mX0_leastServed P 37 [(0, .ref 339), (1, .int v), (2, .int (nI k))] [] σ := by
                  intro z
                  refine k_X0_leastServed_37 (fun y1 e1 => ?_)
                  rw [e1, ← nI_succ]
                  refine ih v (fun _ => ?_) (fun z => by omega)
                  rw [y_ls, hg, if_neg (by rintro (r | r); omega; exact z r), hv]
                refine e_X0_isServedLess (cl_isHouse cσ wA (fun _ _ => ⟨fun z => absurd z z_10, fun _ => cl_isHouse cσ wA (fun _ _ => ⟨fun _ => ?_, fun z => absurd z z_10⟩) (fun z => ?_)⟩) (fun z => ?_))
                · rw [ck, cg]
                  refine ⟨vp_in_nI (by omega) (by decide), ix_n (by omega), fun y5 e5 => ⟨ix_n (by omega), vp_in_nI (by omega) (by decide), fun y6 e6 => ?_⟩⟩
                  have e5 : y5.toInt = y_fh A N t k * A (22 + g) := by rw [e5, z_mul (by rw [z1, u2]; omega), z1, u2]
                  have e6 : y6.toInt = y_fh A N t g * A (22 + k) := by rw [e6, z_mul (by rw [z2, u1]; omega), z2, u1]
                  refine ⟨fun q => ⟨fun z => absurd z z_10, fun _ => up (Or.inr ?_)⟩, fun q2 => ⟨fun q => ⟨fun _ => nope ?_, fun z => absurd rfl z⟩, fun q3 => ⟨vp_in_nI (by omega) (by decide), ix_n (by omega), fun q => ⟨fun _ => nope ?_, fun z => absurd rfl z⟩, fun q => ⟨fun z => absurd z z_10, fun _ => up (Or.inr ?_)⟩⟩⟩⟩
                  · rw [z_lt, e5, e6] at q; exact decide_eq_true (Or.inl q)
                  · rw [z_lt, e5, e6] at q2; rw [z_eq, e5, e6] at q; rw [y_ah, decide_eq_true_iff]; omega
                  · rw [z_eq, e5, e6] at q3; rw [z_le, u1, u2] at q; rw [y_ah, decide_eq_true_iff]; omega
                  · rw [z_eq, e5, e6] at q3; rw [z_le, u1, u2] at q; exact decide_eq_true (Or.inr ⟨q3, by omega⟩)
                · exact absurd (by omega : 0 ≤ v.toInt ∧ v.toInt < A 0) z
                · exact absurd (by omega : 0 ≤ (nI k).toInt ∧ (nI k).toInt < A 0) z
          exact loop 0 (by omega) (-1) (fun z => by omega) (fun _ => rfl)
        have pos : ∀ {t : Nat} (u : Int32), (0 < N → u.toInt = y_ls A (y_fh A N t) N) → (N = 0 → u = -1) → ¬ u < 0 → 0 ≤ u.toInt ∧ u.toInt < ((8 : Nat) : Int) := by
          intro t u hu hu0 q
          rcases Nat.eq_zero_or_pos N with r | r
          · rw [z_lt, hu0 r, n1] at q; simp only [Int32.reduceToInt] at q; omega
          · have := ls_lt A (y_fh A N t) N r
            have := hu r
            omega
        have turns : ∀ t, t ≤ m + 1 → (fun t => ∀ (σ : x_T) (v : Int32), x_fr x_sc τ σ → (0 < N → ∀ j, j < 8 → σ.1 340 j = nI (y_fh A N t j)) → (0 < t → (0 < N → v.toInt = y_ls A (y_fh A N (t - 1)) N) ∧ (N = 0 → v = -1)) → x_WI 1999 mX0_fairTurn K 25 [(0, .ref 339), (1, .int a1), (2, .int v), (3, .int (nI t))] [] σ) t := by
          refine z_down ?_ ?_
          · intro σ v fσ hH hv
            refine k_X0_fairTurn_25 ⟨fun _ => hK σ v fσ ?_, fun q => absurd (by rw [z_le, hm, z_n (by omega)]; omega) q⟩
            have hv := hv (by omega)
            rw [Nat.add_sub_cancel] at hv
            rcases Nat.eq_zero_or_pos N with r | r
            · rw [hv.2 r, hZ0 r, n1]
            · rw [hv.1 r, hZ1 r]
          · intro t ht ih σ v fσ hH _
            refine k_X0_fairTurn_25 ⟨fun q => ?_, fun _ => least t σ _ (by omega) fσ hH (fun u hu hu0 => ⟨fun q => k_X0_fairTurn_55 (fun y1 e1 => ?_), fun q => ⟨fun q2 => ?_, fun _ => ⟨ix_n ?_, ix_n ?_, fun t3 e3 => k_X0_fairTurn_55 (fun y1 e1 => ?_)⟩⟩⟩)⟩
            · rw [z_le, hm, z_n (by omega)] at q; omega
            · have r : N = 0 := by
                rcases Nat.eq_zero_or_pos N with r | r
                · exact r
                · rw [z_lt, hu r] at q; simp only [Int32.reduceToInt] at q; omega
              rw [e1, ← nI_succ]
              exact ih σ u fσ (fun z => by omega) (fun _ => ⟨fun z => by omega, fun _ => hu0 r⟩)
            · have r : 0 < N := by
                rcases Nat.eq_zero_or_pos N with r | r
                · rw [z_lt, hu0 r, n1] at q; simp only [Int32.reduceToInt] at q; omega
                · exact r
              have := ls_lt A (y_fh A N t) N r
              rw [z_le, hu r] at q2; simp only [Int32.reduceToInt] at q2; omega
            · exact pos u hu hu0 q
            · exact pos u hu hu0 q
            · have r : 0 < N := by
                rcases Nat.eq_zero_or_pos N with r | r
                · rw [z_lt, hu0 r, n1] at q; simp only [Int32.reduceToInt] at q; omega
                · exact r
              have hu := hu r
              have lt := ls_lt A (y_fh A N t) N r
              have cu : u.toNatClampNeg = y_ls A (y_fh A N t) N := by rw [z_cl, hu]; omega
              rw [e1, ← nI_succ]
              rw [cu, hH r _ (by omega), ← nI_succ] at e3
              refine ih t3 u (by rw [e3]; exact fr_w fσ (by unfold x_sc; omega)) (fun _ j hj => ?_) (fun _ => ⟨fun _ => by rw [Nat.add_sub_cancel]; exact hu, fun z => by omega⟩)
              rw [e3, w1_at, fh_s]
              by_cases r2 : j = y_ls A (y_fh A N t) N
              · rw [if_pos ⟨rfl, r2⟩, if_pos r2, r2]
              · rw [if_neg (fun z => r2 z.2), if_neg r2]; exact hH r j hj
        have fill : ∀ k, k ≤ 8 → (fun k => ∀ σ : x_T, x_fr x_sc τ σ → (∀ j, j < k → σ.1 340 j = 0) → x_WI 1999 mX0_fairTurn K 2 [(0, .ref 339), (1, .int a1), (2, .int (nI k))] [] σ) k := by
          refine z_down ?_ ?_
          · intro σ fσ hz
            exact k_X0_fairTurn_2 ⟨fun _ => turns 0 (by omega) σ (-1) fσ (fun _ j hj => hz j hj) (fun z => by omega), fun q => absurd (by decide) q⟩
          · intro k hk ih σ fσ hz
            refine k_X0_fairTurn_2 ⟨fun q => absurd q (nI_ge (a := k) (b := 8) (by omega) (by decide)), fun _ => ⟨vp_in_nI (by omega) (by decide), fun t1 e1 y2 e2 => ?_⟩⟩
            rw [e2, ← nI_succ]
            rw [nI_clamp (by omega)] at e1
            refine ih t1 (by rw [e1]; exact fr_w fσ (by unfold x_sc; omega)) (fun j hj => ?_)
            rw [e1, w1_at]
            by_cases r : j = k
            · rw [if_pos ⟨rfl, r⟩]
            · rw [if_neg (fun z => r z.2)]; exact hz j (by omega)
        exact fill 0 (by omega) τ (fr_r _ _) (fun j hj => by omega)
      · rw [z_le] at q; simp only [Int32.reduceToInt] at q; omega
    · have s46 : σ.1 346 = τ.1 346 := f.1 346 (by unfold x_sc; omega)
      have m0 : ∀ ρ : x_T, x_fr (fun c => c = 375) σ ρ → ∀ k, (ρ.1 346 k).toInt = A k := fun ρ g k => by rw [g.1 346 (by omega), s46, ← hA]; rfl
      have fx : ∀ ρ : x_T, x_fr (fun c => c = 375) σ ρ → x_fr x_sc σ ρ := fun ρ g => fr_m (fun c hc => by unfold x_sc; omega) g
      refine e_X12_fair (ml_in (fun _ _ => ⟨fun z => absurd z z_10, fun _ => ⟨fun q => ?_, fun q => hK σ _ (fr_r _ _) ?_⟩⟩) (fun z => ?_))
      · have N0 : 0 < N := by
          rw [z_eq, m0 σ (fr_r _ _)] at q; simp only [Int32.reduceToInt] at q; omega
        have turns : ∀ t, t ≤ m + 1 → (fun t => ∀ (ρ : x_T) (v : Int32), x_fr (fun c => c = 375) σ ρ → (∀ j, j < 8 → ρ.1 375 j = nI (y_fh A N t j)) → (0 < t → v.toInt = y_ls A (y_fh A N (t - 1)) N) → x_WI 2000 mX12_fair K 46 [(0, .ref 345), (1, .int a1), (2, .int v), (3, .int (nI t))] [] ρ) t := by
          refine z_down ?_ ?_
          · intro ρ v fρ hH hv
            refine k_X12_fair_46 ⟨fun _ => hK ρ v (fx ρ fρ) ?_, fun q => absurd (by rw [z_le, hm, z_n (by omega)]; omega) q⟩
            have hv := hv (by omega)
            rw [Nat.add_sub_cancel] at hv
            rw [hv, hZ1 N0]
          · intro t ht ih ρ v fρ hH _
            refine k_X12_fair_46 ⟨fun q => ?_, fun _ => ?_⟩
            · rw [z_le, hm, z_n (by omega)] at q; omega
            have mA := m0 ρ fρ
            have loop : ∀ k, k ≤ N → (fun k => 0 < k → ∀ u : Int32, u.toInt = y_ls A (y_fh A N t) k → x_WI 2000 mX12_fair K 56 [(0, .ref 345), (1, .int a1), (2, .int u), (3, .int (nI t)), (4, .int (nI k))] [] ρ) k := by
              refine z_down ?_ ?_
              · intro _ u hu
                have lt := ls_lt A (y_fh A N t) N N0
                have cu : u.toNatClampNeg = y_ls A (y_fh A N t) N := by rw [z_cl, hu]; omega
                refine k_X12_fair_56 ⟨fun _ => ⟨ix_n (by omega), ix_n (by omega), fun t1 e1 y2 e2 => ?_⟩, fun q => absurd (by rw [z_le, mA 0, z_n (by omega)]; omega) q⟩
                rw [e2, ← nI_succ]
                rw [cu, hH _ (by omega), ← nI_succ] at e1
                refine ih t1 u (by rw [e1]; exact fr_w fρ rfl) (fun j hj => ?_) (fun _ => by rw [Nat.add_sub_cancel]; exact hu)
                rw [e1, w1_at, fh_s]
                by_cases r2 : j = y_ls A (y_fh A N t) N
                · rw [if_pos ⟨rfl, r2⟩, if_pos r2, r2]
                · rw [if_neg (fun z => r2 z.2), if_neg r2]; exact hH j hj
              · intro k hk ih2 k0 u hu
                have zk : (nI k).toInt = k := z_n (by omega)
                have ck : (nI k).toNatClampNeg = k := nI_clamp (by omega)
                have lt := ls_lt A (y_fh A N t) k k0
                generalize hg : y_ls A (y_fh A N t) k = g at hu lt
                have eu : u = nI g := z_of (by omega) hu
                have cg : u.toNatClampNeg = g := by rw [z_cl, hu]; omega
                have i1 : (22 : Int32) + nI k = nI (22 + k) := n_add 22 k
                have i2 : (22 : Int32) + u = nI (22 + g) := by rw [eu]; exact n_add 22 g
                have b1 := fh_b A N t k
                have b2 := fh_b A N t g
                have wk := wW k (by omega)
                have wg := wW g (by omega)
                have z1 : (ρ.1 375 k).toInt = y_fh A N t k := by rw [hH k (by omega), z_n (by omega)]
                have z2 : (ρ.1 375 g).toInt = y_fh A N t g := by rw [hH g (by omega), z_n (by omega)]
                have u1 := mA (22 + k)
                have u2 := mA (22 + g)
                have p1 := ah_b (a := (y_fh A N t k : Int)) (b := A (22 + g)) (by omega) (by omega)
                have p2 := ah_b (a := (y_fh A N t g : Int)) (b := A (22 + k)) (by omega) (by omega)
                have nx : ∀ s : Int32, s.toInt = y_ls A (y_fh A N t) (k + 1) → x_WI 2000 mX12_fair K 83 [(0, .ref 345), (1, .int a1), (3, .int (nI t)), (4, .int (nI k))] [.int s] ρ := by
                  intro s hs
                  refine k_X12_fair_83 (fun y1 e1 => ?_)
                  rw [e1, ← nI_succ]
                  exact ih2 (by omega) s hs
                have up : y_ah A (y_fh A N t) k g = true → x_WI 2000 mX12_fair K 83 [(0, .ref 345), (1, .int a1), (3, .int (nI t)), (4, .int (nI k))] [.int (nI k)] ρ := fun z => nx _ (by rw [y_ls, hg, if_pos (Or.inr z), zk])
                have nope : ¬ y_ah A (y_fh A N t) k g = true → x_WI 2000 mX12_fair K 83 [(0, .ref 345), (1, .int a1), (3, .int (nI t)), (4, .int (nI k))] [.int u] ρ := fun z => nx _ (by rw [y_ls, hg, if_neg (by rintro (r | r); omega; exact z r), hu])
                refine k_X12_fair_56 ⟨fun q => ?_, fun _ => e_X12_isAhead ?_⟩
                · rw [z_le, mA 0, zk] at q; omega
                · rw [i1, i2, ck, cg, nI_clamp (by omega), nI_clamp (by omega)]
                  refine ⟨ix_n (by omega), vp_in_nI (by omega) (by decide), vp_in_nI (by omega) (by decide), vp_in_nI (by omega) (by decide), fun y1 e1 => ?_⟩
                  have m1 : (ρ.1 375 g * ρ.1 346 (22 + k)).toInt = y_fh A N t g * A (22 + k) := by rw [z_mul (by rw [z2, u1]; omega), z2, u1]
                  have m2 : (ρ.1 375 k * ρ.1 346 (22 + g)).toInt = y_fh A N t k * A (22 + g) := by rw [z_mul (by rw [z1, u2]; omega), z1, u2]
                  have e1 : y1.toInt = y_fh A N t g * A (22 + k) - y_fh A N t k * A (22 + g) := by rw [e1, z_sub (by rw [m1, m2]; omega), m1, m2]
                  refine ⟨fun q => ⟨fun z => absurd z z_10, fun _ => up ?_⟩, fun q2 => ⟨fun q => ⟨fun _ => nope ?_, fun z => absurd rfl z⟩, fun q3 => ⟨vp_in_nI (by omega) (by decide), vp_in_nI (by omega) (by decide), fun q => ⟨fun _ => nope ?_, fun z => absurd rfl z⟩, fun q => ⟨fun z => absurd z z_10, fun _ => up ?_⟩⟩⟩⟩
                  · rw [z_lt, e1] at q; simp only [Int32.reduceToInt] at q; exact decide_eq_true (Or.inl (by omega))
                  · rw [z_lt, e1] at q2; rw [z_eq, e1] at q; simp only [Int32.reduceToInt] at q q2; rw [y_ah, decide_eq_true_iff]; omega
                  · rw [z_eq, e1] at q3; rw [z_le, u1, u2] at q; simp only [Int32.reduceToInt] at q3; rw [y_ah, decide_eq_true_iff]; omega
                  · rw [z_eq, e1] at q3; rw [z_le, u1, u2] at q; simp only [Int32.reduceToInt] at q3; exact decide_eq_true (Or.inr ⟨by omega, by omega⟩)
            exact loop 1 (by omega) (by omega) 0 (by rw [y_ls, if_pos (Or.inl rfl)]; rfl)
        have fill : ∀ k, k ≤ 8 → (fun k => ∀ ρ : x_T, x_fr (fun c => c = 375) σ ρ → (∀ j, j < k → ρ.1 375 j = 0) → x_WI 2000 mX12_fair K 23 [(0, .ref 345), (1, .int a1), (2, .int (nI k))] [] ρ) k := by
          refine z_down ?_ ?_
          · intro ρ fρ hz
            exact k_X12_fair_23 ⟨fun _ => turns 0 (by omega) ρ 0 fρ (fun j hj => hz j hj) (fun z => by omega), fun q => absurd (by decide) q⟩
          · intro k hk ih ρ fρ hz
            refine k_X12_fair_23 ⟨fun q => absurd q (nI_ge (a := k) (b := 8) (by omega) (by decide)), fun _ => ⟨vp_in_nI (by omega) (by decide), fun t1 e1 y2 e2 => ?_⟩⟩
            rw [e2, ← nI_succ]
            rw [nI_clamp (by omega)] at e1
            refine ih t1 (by rw [e1]; exact fr_w fρ rfl) (fun j hj => ?_)
            rw [e1, w1_at]
            by_cases r : j = k
            · rw [if_pos ⟨rfl, r⟩]
            · rw [if_neg (fun z => r z.2)]; exact hz j (by omega)
        exact fill 0 (by omega) σ (fr_r _ _) (fun j hj => by omega)
      · rw [z_eq, m0 σ (fr_r _ _)] at q
        simp only [Int32.reduceToInt] at q
        rw [hZ0 (by omega), n1]
      · simp only [Int32.reduceToInt] at z; omega
  · refine pair_q h (-1) (fun K hK => ?_) (fun σ f K hK => ?_)
    · have bad : K τ (-1) := hK τ _ (fr_r _ _) (by decide)
      refine e_X11_fair ⟨fun q => bad, fun q1 => ⟨fun q2 => ?_, fun q => bad⟩⟩
      rw [z_lt] at q1
      rw [z_le] at q2
      simp only [Int32.reduceToInt] at q1 q2
      omega
    · have bad : K σ (-1) := hK σ _ (fr_r _ _) (by decide)
      refine e_X12_fair (ml_in (fun r1 r2 => ?_) (fun q => ⟨fun _ => bad, fun z => absurd rfl z⟩))
      simp only [Int32.reduceToInt] at r1 r2
      omega
