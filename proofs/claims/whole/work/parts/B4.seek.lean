/-! the class's search for a route -/
def y_pl (k : Nat) : Nat := 8 * (k % 9) + k / 9
def y_kp (p : Nat) : Nat := 9 * (p % 8) + p / 8
theorem kp_nk {dn : Nat → Nat → Nat} {p t : Nat} (hp : p < 72) (ht : t < 8) : y_kp (8 * dn t (p / 8) + t) = y_nk dn (y_kp p) t := by
  unfold y_kp y_nk
  rw [show (8 * dn t (p / 8) + t) % 8 = t by omega, show (8 * dn t (p / 8) + t) / 8 = dn t (p / 8) by omega, show (9 * (p % 8) + p / 8) % 9 = p / 8 by omega]
theorem kp_9 {p : Nat} (hp : p < 72) : y_kp p / 9 = p % 8 ∧ y_kp p % 9 = p / 8 := by unfold y_kp; omega
theorem pl_b {k N M : Nat} (hk : k < 9 * N) (h8 : N ≤ 8) (hM : k % 9 ≤ M) : y_pl k < 72 ∧ y_pl k % 8 < N ∧ y_pl k / 8 ≤ M ∧ y_pl k % 8 = k / 9 ∧ y_pl k / 8 = k % 9 ∧ y_kp (y_pl k) = k := by
  have h1 : k / 9 < N := by omega
  have h2 : (8 * (k % 9) + k / 9) / 8 = k % 9 := by omega
  have h3 : (8 * (k % 9) + k / 9) % 8 = k / 9 := by omega
  unfold y_kp y_pl
  rw [h2, h3]
  omega
theorem cl_seekRoute {d s N M : Nat} {τ : x_T} {A Y : Nat → Int} {K : x_T → Int32 → Prop} (hc : x_cl 1 τ A) (wA : w_A A) (hN : A 0 = N) (hM : A 5 = M) (hs : s < N)
    (hY0 : ∀ k, 0 ≤ Y k) (hg : ∀ k, Y k = 0 ↔ k % 9 = M) (hfix : ∀ k, k < 9 * N → ∀ t, t < N → y_Ln A (k / 9) t = true → Y k ≤ 1 + Y (y_nk (y_Dn A) k t)) (hsm : ∀ k, k < 72 → Y k ≤ 71 ∨ Y k = 999) {k0 : Nat} (hk0 : k0 = 9 * s + y_Dn A s 0) {l : Nat}
    (hgk : Y k0 = l → l < 999 → ∀ i, i ≤ l → y_gk (y_Ln A) (y_Dn A) N Y k0 i < 9 * N ∧ y_gk (y_Ln A) (y_Dn A) N Y k0 i % 9 ≤ M ∧ Y (y_gk (y_Ln A) (y_Dn A) N Y k0 i) = l - (i : Int) ∧ (i < l → y_gt (y_Ln A) (y_Dn A) N Y (y_gk (y_Ln A) (y_Dn A) N Y k0 i) < N ∧ y_Ln A (y_gk (y_Ln A) (y_Dn A) N Y k0 i / 9) (y_gt (y_Ln A) (y_Dn A) N Y (y_gk (y_Ln A) (y_Dn A) N Y k0 i)) = true ∧ 1 + Y (y_gk (y_Ln A) (y_Dn A) N Y k0 (i + 1)) = Y (y_gk (y_Ln A) (y_Dn A) N Y k0 i) ∧ ∀ t, t < y_gt (y_Ln A) (y_Dn A) N Y (y_gk (y_Ln A) (y_Dn A) N Y k0 i) → y_Ln A (y_gk (y_Ln A) (y_Dn A) N Y k0 i / 9) t = true → ¬ 1 + Y (y_nk (y_Dn A) (y_gk (y_Ln A) (y_Dn A) N Y k0 i) t) = Y (y_gk (y_Ln A) (y_Dn A) N Y k0 i)))
    (h0 : Y k0 = 999 → ∀ σ : x_T, x_fr x_sc τ σ → K σ (-1))
    (h1 : Y k0 = l → l < 999 → ∀ (σ : x_T) (u : Int32), x_fr x_sc τ σ → u.toInt = l → (σ.1 333 9).toInt = l → σ.1 333 5 = nI (y_pl (y_gk (y_Ln A) (y_Dn A) N Y k0 l)) → (∀ k, k < l → σ.1 335 (y_pl (y_gk (y_Ln A) (y_Dn A) N Y k0 (k + 1))) = nI (y_pl (y_gk (y_Ln A) (y_Dn A) N Y k0 k))) → K σ u)
    (hl : Y k0 = 999 ∨ Y k0 = l ∧ l < 72) : x_CI (d + 1 + 1 + 1 + 1) mX10_seekRoute [.ref 333, .int (nI s)] τ K := by
  have w0 := wA.1
  have w5 := wA.2.2.2.2.2.2.1
  have hMt : (A 5).toNat = M := by omega
  have m1 : (-1 : Int32).toInt = -1 := by decide
  have m2 : ¬ (-1 : Int32) = -2 := by decide
  have dM : ∀ t q, q ≤ M → y_Dn A t q ≤ M := fun t q hq => by unfold y_Dn; rw [hMt]; exact (dn_b (by omega)).2.2 hq
  have zs : (nI s).toInt = s := z_n (by omega)
  -- the number of a place that is come to from another
  have child : ∀ p t, p < 72 → p % 8 < N → t < N → y_Ln A (p % 8) t = true → Y (y_kp p) ≤ 1 + Y (y_kp (8 * y_Dn A t (p / 8) + t)) := by
    intro p t hp hp8 ht hl
    rw [kp_nk hp (by omega)]
    refine hfix (y_kp p) (by unfold y_kp; omega) t ht ?_
    rw [(kp_9 hp).1]; exact hl
  have kp72 : ∀ p, p < 72 → y_kp p < 72 := fun p hp => by unfold y_kp; omega
  have goal : ∀ p, p < 72 → (p / 8 = M ↔ Y (y_kp p) = 0) := fun p hp => by rw [hg, (kp_9 hp).2]
  -- a place is looked at: is it a goal?
  have look : ∀ (σ : x_T) (n j p : Nat), y_B τ σ N M n → j < n → p < 72 → p / 8 ≤ M → σ.1 334 j = nI p → (¬ p / 8 = M → x_CV (d + 1 + 1 + 1) mX10_goOnFrom [.ref 333, .int (nI p)] σ (fun t2 => ∀ y4, y4 = nI j + 1 → x_WI (d + 1 + 1 + 1 + 1) mX10_seekRoute K 59 [(0, .ref 333), (2, .int y4)] [] t2)) → (p / 8 = M → ∀ t5, t5 = x_w1 σ 333 5 (nI p) → x_CI (d + 1 + 1 + 1) mX10_lanesBehind [.ref 333, .int (nI p)] t5 (fun t6 a7 => ∀ t8, t8 = x_w1 t6 333 9 a7 → K t8 (t8.1 333 9))) → x_WI (d + 1 + 1 + 1 + 1) mX10_seekRoute K 59 [(0, .ref 333), (2, .int (nI j))] [] σ := by
    intro σ n j p hB hj hp hpM hq hno hyes
    have n72 : n ≤ 72 := by have := ct_le (fun p => decide (¬ σ.1 335 p = -2)) 72; have := hB.2.2.1; omega
    have cσ : x_cl 1 σ A := clB_fr hc (fun c hc => hB.1.1 c (by unfold y_Sl x_sL; omega))
    have e72 : σ.1 7 2 = nI M := z_of (by omega) (by rw [cσ.2.2.2.2.2.2.2.1.1, hM])
    have dv : nI p / 8 = nI (p / 8) := n_div (b := 8) (by omega) (by omega) (by omega)
    have zj : (nI j).toInt = j := z_n (by omega)
    refine k_X10_seekRoute_59 ⟨fun q => ?_, fun _ => ⟨fun q => ?_, fun _ => ⟨vp_in_nI (by omega) (by decide), fun y1 e1 => ?_⟩⟩⟩
    · rw [z_le, hB.2.1, zj] at q; omega
    · rw [z_le, zj] at q; simp only [Int32.reduceToInt] at q; omega
    · rw [nI_clamp (by omega), hq] at e1
      subst e1
      rw [dv, e72]
      refine ⟨fun q => hno (fun z => q (by rw [z])), fun q => hyes ?_⟩
      rw [z_eq, z_n (by omega), z_n (by omega)] at q
      omega
  refine e_X10_seekRoute (fun t1 e1 t2 e2 t3 e3 => ?_)
  have f3 : x_fr y_Sl τ t3 := by rw [e3, e2, e1]; exact fr_w (fr_w (fr_w (fr_r _ _) (Or.inr (by omega))) (Or.inr (by omega))) (Or.inr (by omega))
  have q3 : t3.1 333 4 = 0 := by rw [e3, w1_at, if_neg (by omega), e2, w1_at, if_pos ⟨rfl, rfl⟩]
  have k072 : k0 < 72 ∧ k0 < 9 * N ∧ k0 % 9 ≤ M := by
    have := dM s 0 (by omega)
    omega
  have pk0 : 8 * y_Dn A s 0 + s = y_pl k0 := by
    have := dM s 0 (by omega)
    unfold y_pl; omega
  have kpk0 : y_kp (y_pl k0) = k0 := (pl_b k072.2.1 (by omega) k072.2.2).2.2.2.2.2
  have pl72 : y_pl k0 < 72 := (pl_b k072.2.1 (by omega) k072.2.2).1
  -- behind the first place
  have main : ∀ σ : x_T, y_B τ σ N M 1 → (∀ x, x < 72 → σ.1 335 x = if x = y_pl k0 then -1 else -2) → σ.1 334 0 = nI (y_pl k0) → x_WI (d + 1 + 1 + 1 + 1) mX10_seekRoute K 59 [(0, .ref 333), (2, .int 0)] [] σ := by
    intro σ hB hE hQ
    rcases hl with h9 | ⟨hle, hlt⟩
    · -- no goal is to be come to
      have loop : ∀ j, j ≤ 72 → (fun j => ∀ (σ : x_T) (n : Nat), y_B τ σ N M n → (∀ p, p < 72 → ¬ σ.1 335 p = -2 → Y (y_kp p) = 999) → x_WI (d + 1 + 1 + 1 + 1) mX10_seekRoute K 59 [(0, .ref 333), (2, .int (nI j))] [] σ) j := by
        refine z_down ?_ ?_
        · intro σ n hB hI
          exact k_X10_seekRoute_59 ⟨fun _ => h0 h9 σ (fr_m Sl_x hB.1), fun _ => ⟨fun _ => h0 h9 σ (fr_m Sl_x hB.1), fun q => absurd (by decide) q⟩⟩
        · intro j hj ih σ n hB hI
          have zj : (nI j).toInt = j := z_n (by omega)
          by_cases q : n ≤ j
          · exact k_X10_seekRoute_59 ⟨fun _ => h0 h9 σ (fr_m Sl_x hB.1), fun z => absurd (by rw [z_le, hB.2.1, zj]; omega) z⟩
          · obtain ⟨p, p1, p2, p3, p4, p5⟩ := hB.2.2.2 j (by omega)
            have hYp := hI p p1 p3
            refine look σ n j p hB (by omega) p1 p5 p2 (fun _ => ?_) (fun z => ?_)
            · refine cl_goOnFrom hc wA hN hM p1 p4 p5 (fun _ σ _ => ∀ p, p < 72 → ¬ σ.1 335 p = -2 → Y (y_kp p) = 999) (fun t ht σ n _ h _ => h) (fun t ht σ n _ h _ _ => h) (fun t ht σ n _ h hl _ ρ _ hE _ x hx hne => ?_) hB hI (fun ρ n' hB' hI' y4 e4 => ?_)
              · rw [hE x] at hne
                by_cases z : x = 8 * y_Dn A t (p / 8) + t
                · have c1 := child p t p1 p4 ht hl
                  rw [← z] at c1
                  have := hsm (y_kp x) (kp72 x hx)
                  omega
                · rw [if_neg z] at hne; exact h x hx hne
              · rw [e4, ← nI_succ]; exact ih ρ n' hB' hI'
            · rw [goal p p1] at z; omega
      refine loop 0 (by omega) σ 1 hB (fun p hp hne => ?_)
      rw [hE p hp] at hne
      by_cases z : p = y_pl k0
      · rw [z, kpk0]; exact h9
      · rw [if_neg z] at hne; exact absurd rfl hne
    · -- the goal is l lanes away
      have hg' := hgk hle (by omega)
      have h1 := h1 hle (by omega)
      have eg : ∀ i, y_gk (y_Ln A) (y_Dn A) N Y k0 (i + 1) = y_nk (y_Dn A) (y_gk (y_Ln A) (y_Dn A) N Y k0 i) (y_gt (y_Ln A) (y_Dn A) N Y (y_gk (y_Ln A) (y_Dn A) N Y k0 i)) := fun _ => rfl
      have eg0 : y_gk (y_Ln A) (y_Dn A) N Y k0 0 = k0 := rfl
      generalize hG : y_gk (y_Ln A) (y_Dn A) N Y k0 = G at hg' h1 eg eg0
      have PG : ∀ i, i ≤ l → y_pl (G i) < 72 ∧ y_pl (G i) % 8 < N ∧ y_pl (G i) / 8 ≤ M ∧ y_pl (G i) % 8 = G i / 9 ∧ y_pl (G i) / 8 = G i % 9 ∧ y_kp (y_pl (G i)) = G i := fun i hi => pl_b (hg' i hi).1 (by omega) (hg' i hi).2.1
      have PG1 : ∀ i, i < l → 8 * y_Dn A (y_gt (y_Ln A) (y_Dn A) N Y (G i)) (y_pl (G i) / 8) + y_gt (y_Ln A) (y_Dn A) N Y (G i) = y_pl (G (i + 1)) := by
        intro i hi
        obtain ⟨a1, a2, a3, a4⟩ := hg' i (by omega)
        obtain ⟨b1, b2, b3, b4⟩ := a4 hi
        have := (PG i (by omega)).2.2.2.2.1
        rw [this, eg i]
        have := dM (y_gt (y_Ln A) (y_Dn A) N Y (G i)) (G i % 9) a2
        unfold y_pl y_nk
        omega
      -- the invariant of a phase
      let PH : x_T → Nat → Nat → Nat → Prop := fun σ n i qi => qi < n ∧ σ.1 334 qi = nI (y_pl (G i)) ∧ (∀ m, m < qi → ∀ p, p < 72 → σ.1 334 m = nI p → (l : Int) - i + 1 ≤ Y (y_kp p)) ∧ (∀ p, p < 72 → ¬ σ.1 335 p = -2 → (l : Int) - i ≤ Y (y_kp p)) ∧ σ.1 335 (y_pl (G 0)) = -1 ∧ ∀ k, k < i → σ.1 335 (y_pl (G (k + 1))) = nI (y_pl (G k))
      have grow : ∀ (σ ρ : x_T) (n i qi c : Nat) (v : Int32), c < 72 → i ≤ l → PH σ n i qi → (l : Int) - i ≤ Y (y_kp c) → σ.1 335 c = -2 → (∀ x, ρ.1 335 x = if x = c then v else σ.1 335 x) → (∀ m, ρ.1 334 m = if m = n then nI c else σ.1 334 m) → PH ρ (n + 1) i qi := by
        rintro σ ρ n i qi c v hc72 hil ⟨a1, a2, a3, a4, a5, a6⟩ hYc hn hE hQ
        have nm2 : ∀ x : Nat, x < 72 → ¬ nI x = -2 := fun x hx z => by
          have : (nI x).toInt = -2 := by rw [z]; decide
          rw [z_n (by omega)] at this; omega
        refine ⟨by omega, by rw [hQ, if_neg (by omega)]; exact a2, fun m hm p hp hqp => ?_, fun p hp hne => ?_, ?_, fun k hk => ?_⟩
        · rw [hQ, if_neg (by omega)] at hqp; exact a3 m hm p hp hqp
        · rw [hE] at hne
          by_cases z : p = c
          · rw [z]; exact hYc
          · rw [if_neg z] at hne; exact a4 p hp hne
        · rw [hE, if_neg (fun z => by rw [← z, a5] at hn; exact m2 hn)]; exact a5
        · rw [hE, if_neg (fun z => by rw [← z, a6 k hk] at hn; exact nm2 _ (PG k (by omega)).1 hn)]; exact a6 k hk
      have finish : ∀ (σ : x_T) (n : Nat), y_B τ σ N M n → σ.1 335 (y_pl (G 0)) = -1 → (∀ k, k < l → σ.1 335 (y_pl (G (k + 1))) = nI (y_pl (G k))) → ∀ t5, t5 = x_w1 σ 333 5 (nI (y_pl (G l))) → x_CI (d + 1 + 1 + 1) mX10_lanesBehind [.ref 333, .int (nI (y_pl (G l)))] t5 (fun t6 a7 => ∀ t8, t8 = x_w1 t6 333 9 a7 → K t8 (t8.1 333 9)) := by
        intro σ n hB g0 gk t5 e5
        have t35 : t5.1 335 = σ.1 335 := by rw [e5]; exact w1_c (by omega)
        have ahead : ∀ (i : Nat) (Q : x_T → Int32 → Prop), i ≤ l → (i = 0 → Q t5 (-1)) → (∀ i', i = i' + 1 → Q t5 (nI (y_pl (G i')))) → x_CI (d + 1 + 1) mX10_placeAhead [.ref 333, .int (nI (y_pl (G i)))] t5 Q := by
          intro i Q hi q0 q1
          have p72 := (PG i hi).1
          have zp : (nI (y_pl (G i))).toInt = ((y_pl (G i) : Nat) : Int) := z_n (by omega)
          refine e_X10_placeAhead ⟨fun z => ?_, fun _ => ⟨fun z => ?_, fun _ => ⟨vp_in_nI (by omega) (by decide), ?_⟩⟩⟩
          · rw [z_lt, zp] at z; simp only [Int32.reduceToInt] at z; omega
          · rw [z_le, zp] at z; simp only [Int32.reduceToInt] at z; omega
          · rw [nI_clamp (by omega), t35]
            cases i with
            | zero => rw [g0]; exact q0 rfl
            | succ i => rw [gk i (by omega)]; exact q1 i rfl
        have done : ∀ v : Int32, v.toInt = l → ∀ t8, t8 = x_w1 t5 333 9 v → K t8 (t8.1 333 9) := by
          intro v hv t8 e8
          have t89 : t8.1 333 9 = v := by rw [e8, w1_at, if_pos ⟨rfl, rfl⟩]
          refine h1 t8 _ (fr_m Sl_x (by rw [e8, e5]; exact fr_w (fr_w hB.1 (Or.inr (by omega))) (Or.inr (by omega)))) (by rw [t89, hv]) (by rw [t89, hv]) (by rw [e8, w1_at, if_neg (by omega), e5, w1_at, if_pos ⟨rfl, rfl⟩]) (fun k hk => ?_)
          rw [e8, w1_c (by omega), t35]
          exact gk k hk
        refine e_X10_lanesBehind (ahead l _ (Nat.le_refl _) (fun z => ?_) (fun i' z => ?_))
        · exact k_X10_lanesBehind_8 ⟨fun _ => done 0 (by rw [z]; rfl), fun q => absurd (by decide) q⟩
        · have lp : ∀ (i c : Nat), i + c + 1 = l → x_WI (d + 1 + 1 + 1) mX10_lanesBehind (fun t6 a7 => ∀ t8, t8 = x_w1 t6 333 9 a7 → K t8 (t8.1 333 9)) 8 [(0, .ref 333), (2, .int (nI c)), (3, .int (nI (y_pl (G i))))] [] t5 := by
            intro i
            induction i with
            | zero =>
              intro c hcl
              have zp : (nI (y_pl (G 0))).toInt = ((y_pl (G 0) : Nat) : Int) := z_n (by have := (PG 0 (by omega)).1; omega)
              refine k_X10_lanesBehind_8 ⟨fun q => ?_, fun _ => ⟨fun q => ?_, fun _ y1 ey => ahead 0 _ (by omega) (fun _ => ?_) (fun i' z => by omega)⟩⟩
              · rw [z_lt, zp] at q; simp only [Int32.reduceToInt] at q; omega
              · rw [z_le, z_n (by omega)] at q; simp only [Int32.reduceToInt] at q; omega
              · exact k_X10_lanesBehind_8 ⟨fun _ => done y1 (by rw [ey, ← nI_succ, z_n (by omega)]; omega), fun q => absurd (by decide) q⟩
            | succ i ih =>
              intro c hcl
              have zp : (nI (y_pl (G (i + 1)))).toInt = ((y_pl (G (i + 1)) : Nat) : Int) := z_n (by have := (PG (i + 1) (by omega)).1; omega)
              refine k_X10_lanesBehind_8 ⟨fun q => ?_, fun _ => ⟨fun q => ?_, fun _ y1 ey => ahead (i + 1) _ (by omega) (fun z => by omega) (fun i' z => ?_)⟩⟩
              · rw [z_lt, zp] at q; simp only [Int32.reduceToInt] at q; omega
              · rw [z_le, z_n (by omega)] at q; simp only [Int32.reduceToInt] at q; omega
              · have : i' = i := by omega
                rw [this, ey, ← nI_succ]
                exact ih (c + 1) (by omega)
          exact lp i' 0 (by omega)
      have loop : ∀ j, j ≤ 72 → (fun j => ∀ (σ : x_T) (n i qi : Nat), y_B τ σ N M n → i ≤ l → j ≤ qi → PH σ n i qi → x_WI (d + 1 + 1 + 1 + 1) mX10_seekRoute K 59 [(0, .ref 333), (2, .int (nI j))] [] σ) j := by
        refine z_down ?_ ?_
        · intro σ n i qi hB hi hj hP
          exfalso
          have n72 : n ≤ 72 := by have := ct_le (fun p => decide (¬ σ.1 335 p = -2)) 72; have := hB.2.2.1; omega
          have := hP.1
          omega
        · intro j hj ih σ n i qi hB hi hjq hP
          obtain ⟨p, p1, p2, p3, p4, p5⟩ := hB.2.2.2 j (by have := hP.1; omega)
          by_cases q : j < qi
          · have hYp := hP.2.2.1 j q p p1 p2
            refine look σ n j p hB (by have := hP.1; omega) p1 p5 p2 (fun _ => ?_) (fun z => ?_)
            · refine cl_goOnFrom hc wA hN hM p1 p4 p5 (fun _ σ n => PH σ n i qi) (fun t ht σ n _ h _ => h) (fun t ht σ n _ h _ _ => h) (fun t ht σ n _ h hl hn ρ _ hE hQ => ?_) hB hP (fun ρ n' hB' hI' y4 e4 => ?_)
              · have c1 := child p t p1 p4 ht hl
                have := dM t (p / 8) p5
                exact grow σ ρ n i qi _ _ (by omega) hi h (by omega) hn hE hQ
              · rw [e4, ← nI_succ]; exact ih ρ n' i qi hB' hi (by omega) hI'
            · rw [goal p p1] at z; omega
          · have ej : qi = j := by omega
            subst ej
            have ep : p = y_pl (G i) := by
              have e := hP.2.1
              rw [p2] at e
              have p72 := (PG i hi).1
              have : (nI p).toInt = (nI (y_pl (G i))).toInt := by rw [e]
              rw [z_n (by omega), z_n (by omega)] at this
              omega
            subst ep
            have Yi := (hg' i hi).2.2.1
            have pgi := PG i hi
            refine look σ n qi _ hB hP.1 p1 p5 p2 (fun hno => ?_) (fun z t5 e5 => ?_)
            · have hil : i < l := by
                rcases Nat.lt_or_ge i l with r | r
                · exact r
                · exfalso; apply hno; rw [goal _ p1, pgi.2.2.2.2.2, Yi]; omega
              obtain ⟨b1, b2, b3, b4⟩ := (hg' i hi).2.2.2 hil
              have pg1 := PG1 i hil
              generalize hT : y_gt (y_Ln A) (y_Dn A) N Y (G i) = T at b1 b2 b4 pg1
              have kpi := pgi.2.2.2.2.2
              refine cl_goOnFrom hc wA hN hM p1 p4 p5 (fun t σ n => (t ≤ T → PH σ n i qi) ∧ (T < t → ∃ q', qi < q' ∧ PH σ n (i + 1) q')) (fun t ht σ n hB h hno => ⟨fun z => h.1 (by omega), fun z => ?_⟩) (fun t ht σ n hB h hl hne => ⟨fun z => h.1 (by omega), fun z => ?_⟩) (fun t ht σ n hB h hl hn ρ hBρ hE hQ => ⟨fun z => ?_, fun z => ?_⟩) hB ⟨fun _ => hP, fun z => by omega⟩ (fun ρ n' hB' hI' y4 e4 => ?_)
              · by_cases r : t = T
                · rw [r, pgi.2.2.2.1] at hno; exact absurd b2 hno
                · exact h.2 (by omega)
              · by_cases r : t = T
                · exfalso
                  rw [r, pg1] at hne
                  have := (h.1 (by omega)).2.2.2.1 _ (PG (i + 1) (by omega)).1 hne
                  rw [(PG (i + 1) (by omega)).2.2.2.2.2] at this
                  omega
                · exact h.2 (by omega)
              · have c1 := child _ t p1 p4 ht hl
                have dd := dM t (y_pl (G i) / 8) p5
                refine grow σ ρ n i qi _ _ (by omega) hi (h.1 (by omega)) ?_ hn hE hQ
                have nb := b4 t (by omega) (by rw [← pgi.2.2.2.1]; exact hl)
                rw [kpi] at c1
                rw [kp_nk p1 (by omega), kpi] at c1 ⊢
                omega
              · by_cases r : t = T
                · subst r
                  obtain ⟨a1, a2, a3, a4, a5, a6⟩ := h.1 (Nat.le_refl _)
                  rw [pg1] at hn hE hQ
                  have pgn := PG (i + 1) (by omega)
                  refine ⟨n, by omega, by omega, by rw [hQ, if_pos rfl], fun m hm p hp hqp => ?_, fun p hp hne => ?_, ?_, fun k hk => ?_⟩
                  · rw [hQ, if_neg (by omega)] at hqp
                    obtain ⟨p', q1, q2, q3, q4, q5⟩ := hB.2.2.2 m hm
                    have : p = p' := by
                      rw [q2] at hqp
                      have : (nI p').toInt = (nI p).toInt := by rw [hqp]
                      rw [z_n (by omega), z_n (by omega)] at this
                      omega
                    rw [this]
                    have := a4 p' q1 q3
                    omega
                  · rw [hE] at hne
                    by_cases z : p = y_pl (G (i + 1))
                    · rw [z, pgn.2.2.2.2.2]; omega
                    · rw [if_neg z] at hne
                      have := a4 p hp hne
                      omega
                  · rw [hE, if_neg (fun z => by rw [← z, a5] at hn; exact m2 hn)]; exact a5
                  · by_cases r2 : k = i
                    · rw [r2, hE, if_pos rfl]
                    · rw [hE, if_neg (fun z => by
                        rw [← z, a6 k (by omega)] at hn
                        have pk := (PG k (by omega)).1
                        have : (nI (y_pl (G k))).toInt = -2 := by rw [hn]; decide
                        rw [z_n (by omega)] at this; omega)]
                      exact a6 k (by omega)
                · obtain ⟨q', q1, q2⟩ := h.2 (by omega)
                  have c1 := child _ t p1 p4 ht hl
                  have dd := dM t (y_pl (G i) / 8) p5
                  rw [kpi] at c1
                  exact ⟨q', q1, grow σ ρ n (i + 1) q' _ _ (by omega) (by omega) q2 (by omega) hn hE hQ⟩
              · rw [e4, ← nI_succ]
                obtain ⟨q', q1, q2⟩ := hI'.2 b1
                exact ih ρ n' (i + 1) q' hB' (by omega) (by omega) q2
            · have hil : i = l := by
                rw [goal _ p1, pgi.2.2.2.2.2, Yi] at z
                omega
              subst hil
              exact finish σ n hB hP.2.2.2.2.1 hP.2.2.2.2.2 t5 e5
      refine loop 0 (by omega) σ 1 0 0 hB (by omega) (Nat.le_refl _) ⟨by omega, by rw [eg0]; exact hQ, fun m hm => by omega, fun p hp hne => ?_, by rw [eg0, hE _ pl72, if_pos rfl], fun k hk => by omega⟩
      rw [hE p hp] at hne
      by_cases z : p = y_pl k0
      · rw [z, kpk0, hle]; omega
      · rw [if_neg z] at hne; exact absurd rfl hne
  have fill : ∀ k, k ≤ 72 → (fun k => ∀ σ : x_T, x_fr y_Sl τ σ → σ.1 333 4 = 0 → (∀ x, x < k → σ.1 335 x = -2) → x_WI (d + 1 + 1 + 1 + 1) mX10_seekRoute K 17 [(0, .ref 333), (1, .int (nI s)), (2, .int (nI k))] [] σ) k := by
    refine z_down ?_ ?_
    · intro σ f q4 hE
      have cσ : x_cl 1 σ A := clB_fr hc (fun c hc => f.1 c (by unfold y_Sl x_sL; omega))
      have hB0 : y_B τ σ N M 0 := by
        refine ⟨f, by rw [q4]; rfl, ?_, fun m hm => by omega⟩
        have : y_ct (fun p => decide (¬ σ.1 335 p = -2)) 72 = y_ct (fun _ => false) 72 := ct_cg 72 (fun j hj => decide_eq_false (fun z => z (hE j hj)))
        rw [this]; decide
      refine k_X10_seekRoute_17 ⟨fun _ => cl_isHouse cσ wA (fun _ _ => ⟨fun _ => ?_, fun z => absurd z z_10⟩) (fun z => absurd (by omega) z), fun q => absurd (by decide) q⟩
      refine cl_comeTo (q := 0) hc wA hN hM hs (by omega) m2 hB0 (fun z => ?_) (fun z ρ b e q => ?_)
      · rw [pk0] at z; exact absurd (hE _ pl72) z
      · rw [pk0] at e q
        refine main ρ b (fun x hx => ?_) (by rw [q 0, if_pos rfl])
        rw [e x]
        by_cases r : x = y_pl k0
        · rw [if_pos r, if_pos r]
        · rw [if_neg r, if_neg r]; exact hE x hx
    · intro k hk ih σ f q4 hE
      refine k_X10_seekRoute_17 ⟨fun q => absurd q (nI_ge (a := k) (b := 72) (by omega) (by decide)), fun _ => ⟨vp_in_nI (by omega) (by decide), fun t5 e5 y6 e6 => ?_⟩⟩
      rw [e6, ← nI_succ]
      rw [nI_clamp (by omega)] at e5
      refine ih t5 (by rw [e5]; exact fr_w f (Or.inr (by omega))) (by rw [e5, w1_c (by omega)]; exact q4) (fun x hx => ?_)
      rw [e5, w1_at]
      by_cases r : x = k
      · rw [if_pos ⟨rfl, r⟩]
      · rw [if_neg (fun z => r z.2)]; exact hE x (by omega)
  exact fill 0 (by omega) t3 f3 q3 (fun x hx => by omega)
