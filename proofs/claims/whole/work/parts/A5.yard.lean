/-! yard -/
def y_new (W : Nat → Int) (P : Nat → Bool) (n k : Nat) : Bool := decide (P n = true ∧ ∀ j, j < k → P j = true → ¬ W j = W n)
def y_nu (W : Nat → Int) (P : Nat → Bool) : Nat → Nat
  | 0 => 0
  | n + 1 => y_nu W P n + if y_new W P n n = true then 1 else 0
theorem nu_le (W : Nat → Int) (P : Nat → Bool) : ∀ n, y_nu W P n ≤ n := by
  intro n
  induction n with
  | zero => simp [y_nu]
  | succ n ih => rw [y_nu]; split <;> omega
theorem nu_0 {W : Nat → Int} {P : Nat → Bool} : ∀ n, (∀ j, j < n → P j = false) → y_nu W P n = 0 := by
  intro n
  induction n with
  | zero => intro _; rfl
  | succ n ih =>
    intro h
    rw [y_nu, ih (fun j hj => h j (by omega)), if_neg]
    rw [y_new, decide_eq_true_iff]
    rintro ⟨z, -⟩
    rw [h n (by omega)] at z
    exact absurd z (by decide)
theorem nu_pos {W : Nat → Int} {P : Nat → Bool} : ∀ n j, j < n → P j = true → 0 < y_nu W P n := by
  intro n
  induction n with
  | zero => intro j hj; omega
  | succ n ih =>
    intro j hj hp
    rw [y_nu]
    by_cases q : ∃ i, i < n ∧ P i = true
    · obtain ⟨i, hi, hq⟩ := q
      have := ih i hi hq
      omega
    · rw [if_pos]
      · omega
      · rw [y_new, decide_eq_true_iff]
        have e : j = n := by
          rcases Nat.lt_or_ge j n with r | r
          · exact absurd ⟨j, r, hp⟩ q
          · omega
        exact ⟨by rw [← e]; exact hp, fun i hi hq => absurd ⟨i, hi, hq⟩ q⟩
def y_bst (c : Nat → Nat) : Nat → Nat
  | 0 => 0
  | k + 1 => if k = 0 ∨ c (y_bst c k) < c k then k else y_bst c k
theorem bst_lt (c : Nat → Nat) : ∀ k, 0 < k → y_bst c k < k := by
  intro k
  induction k with
  | zero => intro h; omega
  | succ k ih =>
    intro _
    rw [y_bst]
    split
    · omega
    · have := ih (by omega)
      omega
theorem bn_all0 {P : Nat → Bool} {N : Nat} : y_bn P N = 0 ↔ ∀ j, j < N → P j = false := by
  constructor
  · intro h j hj
    have := bn_bit P j N
    rw [h, decide_eq_true hj, Nat.zero_testBit, Bool.true_and] at this
    exact this.symm
  · intro h
    apply Nat.eq_of_testBit_eq
    intro i
    rw [bn_bit, Nat.zero_testBit]
    by_cases q : i < N
    · rw [h i q, Bool.and_false]
    · rw [decide_eq_false q, Bool.false_and]
def y_S (c : Nat) : Prop := x_sL c ∨ c = 340
theorem q_yard (hL : x_HL) {τ : x_T} (h : x_J τ) : x_CI 2000 mX11_yard [.ref 0] τ (fun τ1 u => x_CI 2000 mX12_yard [.ref 345] τ1 (fun τ2 v => u = v ∧ x_J τ2)) := by
  obtain ⟨L, l1, l2⟩ := hL τ h
  generalize hA : j_A τ = A
  have hJ := h.1
  rw [hA] at hJ
  have wA := hJ.1
  have w0 := wA.1
  have wD : w_D A (z_dy A) := hJ.2.2.1
  have he : x_cd 13 τ (z_dy A) := hJ.2.2.2.1
  have hmm : x_hm τ A L := ⟨hA, l2⟩
  have hcc := hc_cc (τ := τ) (A := A) (L := L) ⟨hJ, l1⟩
  have n1 : (-1 : Int32).toInt = -1 := by decide
  obtain ⟨N, hN⟩ : ∃ N : Nat, A 0 = N := ⟨(A 0).toNat, by omega⟩
  have hNt : (A 0).toNat = N := by omega
  generalize hP : z_fog A L = P
  let W : Nat → Nat → Int := fun h n => z_warm A (x_La L A) (z_dy A) h n
  have We : ∀ h n : Nat, W h n = z_warm A (x_La L A) (z_dy A) h n := fun _ _ => rfl
  let c : Nat → Nat := fun h => y_nu (W h) P N
  have ce : ∀ h, c h = y_nu (W h) P N := fun _ => rfl
  have cb : ∀ h, c h ≤ N := fun h => nu_le _ _ _
  have bl : y_bn P N < 2 ^ 8 := Nat.lt_of_lt_of_le (bn_lt P N) (Nat.pow_le_pow_right (by decide) (by omega))
  obtain ⟨Z, hZ1, hZ0⟩ : ∃ Z : Int, (¬ y_bn P N = 0 → Z = y_bst c N) ∧ (y_bn P N = 0 → Z = -1) := by
    by_cases q : y_bn P N = 0
    · exact ⟨-1, fun z => absurd q z, fun _ => rfl⟩
    · exact ⟨_, fun _ => rfl, fun z => absurd z q⟩
  have S_x : ∀ k, y_S k → x_sc k := fun k hk => by unfold y_S x_sL at hk; unfold x_sc; omega
  have S_cc : ∀ k, y_S k → (13 ≤ k ∧ k ≤ 138) ∨ 176 ≤ k := fun k hk => by unfold y_S x_sL at hk; omega
  refine pair_q h Z (fun K hK => ?_) (fun σ f K hK => ?_)
  · have ans : ∀ (σ : x_T) (k : Nat) (Q : x_T → Int32 → Prop), x_fr y_S τ σ → k < N → (∀ ρ : x_T, x_fr y_S τ ρ → Q ρ (nI (c k))) → x_CI 1998 mX0_answersAt [.ref 339, .ref 13, .int (nI k), .int (nI (y_bn P N))] σ Q := by
      intro σ k Q fσ hk hQ
      have zk : (nI k).toInt = k := z_n (by omega)
      refine e_X0_answersAt rfl ?_
      have loop : ∀ n, n ≤ N → (fun n => ∀ σ : x_T, x_fr y_S τ σ → (∀ x : Int, (∃ i, i < y_nu (W k) P n ∧ (σ.1 340 i).toInt = x) ↔ ∃ j, j < n ∧ P j = true ∧ W k j = x) → x_WI 1998 mX0_answersAt Q 6 [(0, .ref 339), (1, .ref 13), (2, .int (nI k)), (3, .int (nI (y_bn P N))), (4, .int (nI (y_nu (W k) P n))), (5, .int (nI n))] [] σ) n := by
        refine z_down ?_ ?_
        · intro σ fσ hs
          have c0 := (cc_fr hcc fσ S_cc).1.1
          exact k_X0_answersAt_6 rfl ⟨fun _ => hQ σ fσ, fun q => absurd (by rw [z_le, c0, z_n (by omega)]; omega) q⟩
        · intro n hn ih σ fσ hs
          have ccσ := cc_fr hcc fσ S_cc
          have c0 := ccσ.1.1
          have zn : (nI n).toInt = n := z_n (by omega)
          have ul := nu_le (W k) P n
          refine k_X0_answersAt_6 rfl ⟨fun q => ?_, fun _ => ⟨fun q => k_X0_answersAt_46 rfl (fun y1 e1 => ?_), fun q => ?_⟩⟩
          · rw [z_le, c0, zn] at q; omega
          · rw [yb_b0 (by omega) (by omega), bn_bit, decide_eq_true hn, Bool.true_and] at q
            rw [e1, ← nI_succ]
            have e2 : y_nu (W k) P (n + 1) = y_nu (W k) P n := by
              have hno : ¬ y_new (W k) P n n = true := by
                rw [y_new, decide_eq_true_iff]
                rintro ⟨z, -⟩
                rw [q] at z
                exact absurd z (by decide)
              rw [y_nu, if_neg hno, Nat.add_zero]
            have := ih σ fσ
            rw [e2] at this
            refine this (fun x => (hs x).trans ⟨?_, ?_⟩)
            · rintro ⟨j, h1, h2, h3⟩; exact ⟨j, by omega, h2, h3⟩
            · rintro ⟨j, h1, h2, h3⟩
              by_cases r : j = n
              · rw [r, q] at h2; exact absurd h2 (by decide)
              · exact ⟨j, by omega, h2, h3⟩
          · rw [yb_b0 (by omega) (by omega), bn_bit, decide_eq_true hn, Bool.true_and] at q
            have hp : P n = true := by
              cases hb : P n
              · exact absurd hb q
              · rfl
            have heσ : x_cd 13 σ (z_dy A) := cd_fr he (fσ.1 _ (by unfold y_S x_sL; omega)) (fσ.1 _ (by unfold y_S x_sL; omega)) (fσ.1 _ (by unfold y_S x_sL; omega)) (fσ.1 _ (by unfold y_S x_sL; omega))
            refine cl_warmth rfl (by omega) ccσ wA heσ wD.2.2.2.2.2.1 (by omega) (by omega) (fun ρ u fρ hu => e_X0_withAnswer ?_)
            have fρ2 : x_fr y_S τ ρ := fr_t fσ (fr_m (fun k hk => Or.inl hk) fρ)
            have hu : u.toInt = W k n := by rw [hu, zk, zn]
            have r340 : ρ.1 340 = σ.1 340 := fρ.1 340 (by unfold x_sL; omega)
            generalize hU : y_nu (W k) P n = U at ul hs
            have zU : (nI U).toInt = U := z_n (by omega)
            have done : ∀ ρ' : x_T, x_fr y_S τ ρ' → ∀ v : Int32, v = nI (y_nu (W k) P (n + 1)) → (∀ x : Int, (∃ i, i < y_nu (W k) P (n + 1) ∧ (ρ'.1 340 i).toInt = x) ↔ ∃ j, j < n + 1 ∧ P j = true ∧ W k j = x) → x_WI 1998 mX0_answersAt Q 46 [(0, .ref 339), (1, .ref 13), (2, .int (nI k)), (3, .int (nI (y_bn P N))), (4, .int v), (5, .int (nI n))] [] ρ' := by
              intro ρ' f' v hv hs'
              refine k_X0_answersAt_46 rfl (fun y1 e1 => ?_)
              rw [e1, ← nI_succ, hv]
              exact ih ρ' f' hs'
            have lp : ∀ i, i ≤ U → (fun i => (∀ j, j < i → ¬ (σ.1 340 j).toInt = W k n) → x_WI 1997 mX0_withAnswer (fun t3 a4 => x_WI 1998 mX0_answersAt Q 46 [(0, .ref 339), (1, .ref 13), (2, .int (nI k)), (3, .int (nI (y_bn P N))), (4, .int a4), (5, .int (nI n))] [] t3) 2 [(0, .ref 339), (1, .int u), (2, .int (nI U)), (3, .int (nI i))] [] ρ) i := by
              refine z_down ?_ ?_
              · intro hno
                have e2 : y_nu (W k) P (n + 1) = U + 1 := by
                  rw [y_nu, hU, if_pos]
                  rw [y_new, decide_eq_true_iff]
                  refine ⟨hp, fun j hj hpj e => ?_⟩
                  obtain ⟨i, hi, hx⟩ := (hs (W k j)).mpr ⟨j, hj, hpj, rfl⟩
                  exact hno i hi (by rw [hx, e])
                refine k_X0_withAnswer_2 ⟨fun _ => k_X0_withAnswer_31 ⟨fun q => ?_, fun _ => ⟨fun _ => ⟨vp_in_nI (by omega) (by decide), fun t1 e1 => ?_⟩, fun q => ?_⟩⟩, fun q => absurd (by rw [z_le]; omega) q⟩
                · rw [z_lt, zU] at q; simp only [Int32.reduceToInt] at q; omega
                · rw [nI_clamp (by omega)] at e1
                  refine done t1 (by rw [e1]; exact fr_w fρ2 (Or.inr rfl)) _ (by rw [e2, nI_succ]) (fun x => ?_)
                  rw [e2]
                  have rd : ∀ i, t1.1 340 i = if i = U then u else σ.1 340 i := by
                    intro i
                    rw [e1, w1_at, r340]
                    by_cases r : i = U
                    · rw [if_pos ⟨rfl, r⟩, if_pos r]
                    · rw [if_neg (fun z => r z.2), if_neg r]
                  constructor
                  · rintro ⟨i, hi, hx⟩
                    rw [rd] at hx
                    by_cases r : i = U
                    · rw [if_pos r, hu] at hx
                      exact ⟨n, by omega, hp, hx⟩
                    · rw [if_neg r] at hx
                      obtain ⟨j, h1, h2, h3⟩ := (hs x).mp ⟨i, by omega, hx⟩
                      exact ⟨j, by omega, h2, h3⟩
                  · rintro ⟨j, h1, h2, h3⟩
                    by_cases r : j = n
                    · exact ⟨U, by omega, by rw [rd, if_pos rfl, hu, ← h3, r]⟩
                    · obtain ⟨i, hi, hx⟩ := (hs x).mpr ⟨j, by omega, h2, h3⟩
                      exact ⟨i, by omega, by rw [rd, if_neg (by omega)]; exact hx⟩
                · rw [z_lt, zU] at q; simp only [Int32.reduceToInt] at q; omega
              · intro i hi ih2 hno
                have zi : (nI i).toInt = i := z_n (by omega)
                refine k_X0_withAnswer_2 ⟨fun q => ?_, fun _ => ⟨fun q => ?_, fun _ => ⟨vp_in_nI (by omega) (by decide), fun q y1 e1 => ?_, fun q => ?_⟩⟩⟩
                · rw [z_le, zU, zi] at q; omega
                · rw [z_le, zi] at q; simp only [Int32.reduceToInt] at q; omega
                · rw [nI_clamp (by omega), r340, z_eq, hu] at q
                  rw [e1, ← nI_succ]
                  refine ih2 (fun j hj => ?_)
                  by_cases r : j = i
                  · rw [r]; exact q
                  · exact hno j (by omega)
                · rw [nI_clamp (by omega), r340, z_eq, hu] at q
                  obtain ⟨j, h1, h2, h3⟩ := (hs (W k n)).mp ⟨i, hi, q⟩
                  have e2 : y_nu (W k) P (n + 1) = U := by
                    have hno : ¬ y_new (W k) P n n = true := by
                      rw [y_new, decide_eq_true_iff]
                      rintro ⟨-, z⟩
                      exact z j h1 h2 h3
                    rw [y_nu, hU, if_neg hno, Nat.add_zero]
                  refine done ρ fρ2 _ (by rw [e2]) (fun x => ?_)
                  rw [e2, r340]
                  refine (hs x).trans ⟨?_, ?_⟩
                  · rintro ⟨j, h1, h2, h3⟩; exact ⟨j, by omega, h2, h3⟩
                  · rintro ⟨j', g1, g2, g3⟩
                    by_cases r : j' = n
                    · exact ⟨j, h1, h2, by rw [h3, ← g3, r]⟩
                    · exact ⟨j', by omega, g2, g3⟩
            exact lp 0 (by omega) (fun j hj => by omega)
      exact loop 0 (by omega) σ fσ (fun x => ⟨fun ⟨i, hi, _⟩ => absurd hi (by simp [y_nu]), fun ⟨j, hj, _⟩ => absurd hj (by omega)⟩)
    refine e_X11_yard (e_X0_yardToFeel rfl (cl_lost hJ l1 (fun σ f => ?_)))
    rw [hP, hNt, bn_z P N (by omega)]
    have loop : ∀ k, k ≤ N → (fun k => ∀ (σ : x_T) (v m : Int32), x_fr y_S τ σ → (y_bn P N = 0 ∨ k = 0 → v = -1 ∧ m = 0) → (¬ y_bn P N = 0 → 0 < k → v = nI (y_bst c k) ∧ m = nI (c (y_bst c k))) → x_WI 1999 mX0_yardToFeel K 14 [(0, .ref 339), (1, .ref 13), (2, .int (nI (y_bn P N))), (3, .int v), (4, .int m), (5, .int (nI k))] [] σ) k := by
      refine z_down ?_ ?_
      · intro σ v m fσ h1 h2
        have c0 := (cc_fr hcc fσ S_cc).1.1
        refine k_X0_yardToFeel_14 rfl ⟨fun _ => hK σ v (fr_m S_x fσ) ?_, fun q => absurd (by rw [z_le, c0, z_n (by omega)]; omega) q⟩
        by_cases q : y_bn P N = 0
        · rw [(h1 (Or.inl q)).1, hZ0 q, n1]
        · rcases Nat.eq_zero_or_pos N with r | r
          · exfalso; apply q; rw [r]; rfl
          · have := bst_lt c N r
            rw [(h2 q r).1, hZ1 q, z_n (by omega)]
      · intro k hk ih σ v m fσ h1 h2
        have c0 := (cc_fr hcc fσ S_cc).1.1
        have zk : (nI k).toInt = k := z_n (by omega)
        have ck := cb k
        have zc : (nI (c k)).toInt = c k := z_n (by omega)
        refine k_X0_yardToFeel_14 rfl ⟨fun q => ?_, fun _ => ans σ k _ fσ hk (fun ρ fρ => ⟨fun q => k_X0_yardToFeel_50 rfl (fun y1 e1 => ?_), fun q => k_X0_yardToFeel_50 rfl (fun y1 e1 => ?_)⟩)⟩
        · rw [z_le, c0, zk] at q; omega
        · rw [e1, ← nI_succ]
          rw [z_le, zc] at q
          refine ih ρ v m fρ (fun z => h1 (by omega)) (fun z _ => ?_)
          have hpos : 0 < c k := by
            have : ¬ ∀ j, j < N → P j = false := fun y => z (bn_all0.mpr y)
            by_cases ex : ∃ j, j < N ∧ P j = true
            · obtain ⟨j, hj, hp⟩ := ex
              exact nu_pos N j hj hp
            · exfalso; apply this
              intro j hj
              cases hb : P j
              · rfl
              · exact absurd ⟨j, hj, hb⟩ ex
          rcases Nat.eq_zero_or_pos k with r | r
          · rw [(h1 (Or.inr r)).2] at q; simp only [Int32.reduceToInt] at q; omega
          · obtain ⟨g1, g2⟩ := h2 z r
            have cg := cb (y_bst c k)
            rw [g2, z_n (by omega)] at q
            rw [y_bst, if_neg (by omega)]
            exact ⟨g1, g2⟩
        · rw [e1, ← nI_succ]
          rw [z_le, zc] at q
          have nz : ¬ y_bn P N = 0 := by
            intro z
            rw [(h1 (Or.inl z)).2, ce, nu_0 N (bn_all0.mp z)] at q
            exact q (by decide)
          refine ih ρ (nI k) (nI (c k)) fρ (fun z => by omega) (fun z _ => ?_)
          have e2 : y_bst c (k + 1) = k := by
            rw [y_bst, if_pos]
            rcases Nat.eq_zero_or_pos k with r | r
            · exact Or.inl r
            · obtain ⟨g1, g2⟩ := h2 z r
              have cg := cb (y_bst c k)
              rw [g2, z_n (by omega)] at q
              exact Or.inr (by omega)
          rw [e2]
          exact ⟨rfl, rfl⟩
    exact loop 0 (by omega) σ (-1) 0 (fr_m (fun k hk => Or.inl hk) f) (fun _ => ⟨rfl, rfl⟩) (fun _ z => by omega)
  · refine e_X12_yard (ml_lost (hmX_fr hmm f) (hf_wH hJ) (fun σ1 f1 g1 mc1 hm1 => ?_))
    rw [hP, hNt, bn_z P N (by omega)]
    have ans : ∀ (σ : x_T) (k : Nat) (Q : x_T → Int32 → Prop), x_fr x_sN σ1 σ → k < N → (∀ ρ : x_T, x_fr x_sN σ1 ρ → Q ρ (nI (c k))) → x_CI 1999 mX12_answersAt [.ref 345, .int (nI k), .int (nI (y_bn P N))] σ Q := by
      intro σ k Q fσ hk hQ
      have zk : (nI k).toInt = k := z_n (by omega)
      refine e_X12_answersAt ?_
      have loop : ∀ n, n ≤ N → (fun n => ∀ σ : x_T, x_fr x_sN σ1 σ → x_WI 1999 mX12_answersAt Q 5 [(0, .ref 345), (1, .int (nI k)), (2, .int (nI (y_bn P N))), (3, .int (nI (y_nu (W k) P n))), (4, .int (nI n))] [] σ) n := by
        refine z_down ?_ ?_
        · intro σ fσ
          have c0 := (mc_fr mc1 fσ sN_mc).1 0 (by omega) (by omega)
          exact k_X12_answersAt_5 ⟨fun _ => hQ σ fσ, fun q => absurd (by rw [z_le, c0, z_n (by omega)]; omega) q⟩
        · intro n hn ih σ fσ
          have c0 := (mc_fr mc1 fσ sN_mc).1 0 (by omega) (by omega)
          have zn : (nI n).toInt = n := z_n (by omega)
          have inner : ∀ i, i ≤ n → (fun i => ∀ (σ : x_T) (v : Int32), x_fr x_sN σ1 σ → v = z_b (y_new (W k) P n i) → x_WI 1999 mX12_answersAt Q 27 [(0, .ref 345), (1, .int (nI k)), (2, .int (nI (y_bn P N))), (3, .int (nI (y_nu (W k) P n))), (4, .int (nI n)), (5, .int v), (6, .int (nI i))] [] σ) i := by
            refine z_down ?_ ?_
            · intro σ v fσ hv
              refine k_X12_answersAt_27 ⟨fun _ => ⟨fun q => k_X12_answersAt_89 (fun y1 e1 y2 e2 => ?_), fun q => k_X12_answersAt_89 (fun y1 e1 y2 e2 => ?_)⟩, fun q => absurd (by rw [z_le]; omega) q⟩
              · rw [hv, z_b0] at q
                have := ih σ fσ
                rw [y_nu, q, if_neg (by decide), Nat.add_zero] at this
                rw [e2, ← nI_succ, e1, Int32.add_zero]
                exact this
              · have q : y_new (W k) P n n = true := by
                  cases hb : y_new (W k) P n n
                  · rw [hv, hb] at q; exact absurd rfl q
                  · rfl
                have := ih σ fσ
                rw [y_nu, if_pos q, nI_succ] at this
                rw [e2, ← nI_succ, e1]
                exact this
            · intro i hi ihi σ v fσ hv
              have mcσ := mc_fr mc1 fσ sN_mc
              have zi : (nI i).toInt = i := z_n (by omega)
              have nx : ∀ (ρ : x_T) (s : Int32), x_fr x_sN σ1 ρ → s = z_b (y_new (W k) P n (i + 1)) → x_WI 1999 mX12_answersAt Q 70 [(0, .ref 345), (1, .int (nI k)), (2, .int (nI (y_bn P N))), (3, .int (nI (y_nu (W k) P n))), (4, .int (nI n)), (6, .int (nI i))] [.int s] ρ := by
                intro ρ s fρ hs
                refine k_X12_answersAt_70 (fun y1 e1 => ?_)
                rw [e1, ← nI_succ]
                exact ihi ρ s fρ hs
              have no : ∀ ρ : x_T, x_fr x_sN σ1 ρ → ¬ y_new (W k) P n (i + 1) = true → x_WI 1999 mX12_answersAt Q 69 [(0, .ref 345), (1, .int (nI k)), (2, .int (nI (y_bn P N))), (3, .int (nI (y_nu (W k) P n))), (4, .int (nI n)), (6, .int (nI i))] [] ρ := fun ρ fρ z => k_X12_answersAt_69 (nx ρ 0 fρ (by rw [Bool.not_eq_true] at z; rw [z]; rfl))
              have ye : ∀ ρ : x_T, x_fr x_sN σ1 ρ → y_new (W k) P n (i + 1) = true → x_WI 1999 mX12_answersAt Q 65 [(0, .ref 345), (1, .int (nI k)), (2, .int (nI (y_bn P N))), (3, .int (nI (y_nu (W k) P n))), (4, .int (nI n)), (6, .int (nI i))] [] ρ := fun ρ fρ z => k_X12_answersAt_65 (nx ρ 1 fρ (by rw [z]; rfl))
              have bi := bn_bit P i N
              rw [decide_eq_true (show i < N by omega), Bool.true_and] at bi
              refine k_X12_answersAt_27 ⟨fun q => ?_, fun _ => ⟨fun q => no σ fσ ?_, fun q => ?_⟩⟩
              · rw [z_le, zi, zn] at q; omega
              · rw [hv, z_b0, y_new, decide_eq_false_iff_not] at q
                rw [y_new, decide_eq_true_iff]
                rintro ⟨z1, z2⟩
                exact q ⟨z1, fun j hj => z2 j (by omega)⟩
              · have q : y_new (W k) P n i = true := by
                  cases hb : y_new (W k) P n i
                  · rw [hv, hb] at q; exact absurd rfl q
                  · rfl
                rw [y_new, decide_eq_true_iff] at q
                have ext : (P i = true → ¬ W k i = W k n) → y_new (W k) P n (i + 1) = true := by
                  intro z
                  rw [y_new, decide_eq_true_iff]
                  refine ⟨q.1, fun j hj => ?_⟩
                  by_cases r : j = i
                  · rw [r]; exact z
                  · exact q.2 j (by omega)
                refine e_X12_has ⟨fun q2 => ⟨fun _ => ye σ fσ (ext (fun z => ?_)), fun z => absurd rfl z⟩, fun q2 => ⟨fun z => absurd z z_10, fun _ => ?_⟩⟩
                · rw [yb_b1 (by omega) (by omega), bi] at q2; exact absurd z q2
                · rw [yb_b1 (by omega) (by omega), bi] at q2
                  refine ml_warmOf (e := z_dy A) mcσ wA (md_sN g1 fσ) (by omega) (by omega) wD.2.2.2.2.2.1 (fun ρ u fρ hu => ?_)
                  have f2 := fr_t fσ fρ
                  refine ml_warmOf (e := z_dy A) (mc_fr mc1 f2 sN_mc) wA (md_sN g1 f2) (by omega) (by omega) wD.2.2.2.2.2.1 (fun ρ' u' fρ' hu' => ?_)
                  have f3 := fr_t f2 fρ'
                  rw [zk, zi, ← We] at hu
                  rw [zk, zn, ← We] at hu'
                  refine ⟨fun r => no ρ' f3 ?_, fun r => ye ρ' f3 (ext (fun _ => ?_))⟩
                  · rw [z_eq, hu, hu'] at r
                    rw [y_new, decide_eq_true_iff]
                    rintro ⟨-, z⟩
                    exact z i (by omega) q2 r
                  · rw [z_eq, hu, hu'] at r; exact r
          have bn := bn_bit P n N
          rw [decide_eq_true hn, Bool.true_and] at bn
          have i0 : y_new (W k) P n 0 = P n := by
            rw [y_new]
            cases hb : P n <;> simp
          refine k_X12_answersAt_5 ⟨fun q => ?_, fun _ => e_X12_has ⟨fun q => inner 0 (by omega) σ 0 fσ ?_, fun q => inner 0 (by omega) σ 1 fσ ?_⟩⟩
          · rw [z_le, c0, zn] at q; omega
          · rw [yb_b1 (by omega) (by omega), bn, Bool.not_eq_true] at q; rw [i0, q]; rfl
          · rw [yb_b1 (by omega) (by omega), bn] at q; rw [i0, q]; rfl
      exact loop 0 (by omega) σ fσ
    refine ⟨fun q => ?_, fun q => hK σ1 _ f1 ?_⟩
    · have nz : ¬ y_bn P N = 0 := fun z => q (by rw [z]; rfl)
      have N0 : 0 < N := by
        rcases Nat.eq_zero_or_pos N with r | r
        · exfalso; apply nz; rw [r]; rfl
        · exact r
      have loop : ∀ k, k ≤ N → (fun k => ∀ (σ : x_T), x_fr x_sN σ1 σ → 0 < k → x_WI 2000 mX12_yard K 15 [(0, .ref 345), (1, .int (nI (y_bn P N))), (2, .int (nI (y_bst c k))), (3, .int (nI k))] [] σ) k := by
        refine z_down ?_ ?_
        · intro σ fσ _
          have c0 := (mc_fr mc1 fσ sN_mc).1 0 (by omega) (by omega)
          have := bst_lt c N N0
          exact k_X12_yard_15 ⟨fun _ => hK σ _ (fr_t f1 (fr_m sN_x fσ)) (by rw [hZ1 nz, z_n (by omega)]), fun q => absurd (by rw [z_le, c0, z_n (by omega)]; omega) q⟩
        · intro k hk ih σ fσ k0
          have c0 := (mc_fr mc1 fσ sN_mc).1 0 (by omega) (by omega)
          have zk : (nI k).toInt = k := z_n (by omega)
          have lt := bst_lt c k k0
          have b1 := cb k
          have b2 := cb (y_bst c k)
          refine k_X12_yard_15 ⟨fun q => ?_, fun _ => ans σ k _ fσ hk (fun ρ fρ => ans ρ _ _ fρ (by omega) (fun ρ' fρ' => ⟨fun q => k_X12_yard_45 (fun y1 e1 => ?_), fun q => k_X12_yard_45 (fun y1 e1 => ?_)⟩))⟩
          · rw [z_le, c0, zk] at q; omega
          · rw [z_le, z_n (by omega), z_n (by omega)] at q
            have := ih ρ' fρ' (by omega)
            rw [y_bst, if_neg (by omega)] at this
            rw [e1, ← nI_succ]
            exact this
          · rw [z_le, z_n (by omega), z_n (by omega)] at q
            have := ih ρ' fρ' (by omega)
            rw [y_bst, if_pos (Or.inr (by omega))] at this
            rw [e1, ← nI_succ]
            exact this
      exact loop 1 (by omega) σ1 (fr_r _ _) (by omega)
    · have z0 : y_bn P N = 0 := by
        rw [z_eq, z_n (by omega)] at q
        simp only [Int32.reduceToInt] at q
        omega
      rw [hZ0 z0, n1]
