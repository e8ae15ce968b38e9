/-! routes, the model's side -/
theorem cl_seekRoute0 {d : Nat} {v : Int32} {τ : x_T} {A : Nat → Int} {K : x_T → Int32 → Prop} (hc : x_cl 1 τ A) (wA : w_A A) (hv : ¬ (0 ≤ v.toInt ∧ v.toInt < A 0)) (h : ∀ σ : x_T, x_fr x_sc τ σ → K σ (-1)) : x_CI (d + 1) mX10_seekRoute [.ref 333, .int v] τ K := by
  refine e_X10_seekRoute (fun t1 e1 t2 e2 t3 e3 => ?_)
  have f3 : x_fr y_Sl τ t3 := by rw [e3, e2, e1]; exact fr_w (fr_w (fr_w (fr_r _ _) (Or.inr (by omega))) (Or.inr (by omega))) (Or.inr (by omega))
  have fill : ∀ k, k ≤ 72 → (fun k => ∀ σ : x_T, x_fr y_Sl τ σ → x_WI (d + 1) mX10_seekRoute K 17 [(0, .ref 333), (1, .int v), (2, .int (nI k))] [] σ) k := by
    refine z_down ?_ ?_
    · intro σ f
      have cσ : x_cl 1 σ A := clB_fr hc (fun c hc => f.1 c (by unfold y_Sl x_sL; omega))
      exact k_X10_seekRoute_17 ⟨fun _ => cl_isHouse cσ wA (fun p1 p2 => absurd ⟨p1, p2⟩ hv) (fun _ => ⟨fun z => absurd rfl z, fun _ => h σ (fr_m Sl_x f)⟩), fun q => absurd (by decide) q⟩
    · intro k hk ih σ f
      refine k_X10_seekRoute_17 ⟨fun q => absurd q (nI_ge (a := k) (b := 72) (by omega) (by decide)), fun _ => ⟨vp_in_nI (by omega) (by decide), fun t5 e5 y6 e6 => ?_⟩⟩
      rw [e6, ← nI_succ]
      exact ih t5 (by rw [e5]; exact fr_w f (Or.inr (by omega)))
  exact fill 0 (by omega) t3 f3
theorem ml_doneAt {d h q N M : Nat} {τ : x_T} {A : Nat → Int} {L : x_L} {K : x_T → Int32 → Prop} (mc : x_mc τ A L) (wA : w_A A) (hN : A 0 = N) (hM : A 5 = M) (hh : h < N) (hq : q ≤ 8) (hK : K τ (nI (y_Dn A h q))) : x_CI (d + 1 + 1 + 1 + 1) mX12_doneAt [.ref 345, .int (nI h), .int (nI q)] τ K := by
  have w0 := wA.1
  have w5 := wA.2.2.2.2.2.2.1
  have m5 := mc.1 5 (by omega) (by omega)
  have zh : (nI h).toInt = h := z_n (by omega)
  refine e_X12_doneAt ?_
  have loop : ∀ (f q' : Nat), 8 - q' = f → q' ≤ 8 → y_Dn A h q' = y_Dn A h q → x_WI (d + 1 + 1 + 1 + 1) mX12_doneAt K 2 [(0, .ref 345), (1, .int (nI h)), (3, .int (nI q'))] [] τ := by
    intro f
    induction f with
    | zero =>
      intro q' e1 e2 e3
      have zq : (nI q').toInt = q' := z_n (by omega)
      have eq : y_Dn A h q' = q' := by unfold y_Dn; exact dn_no (by omega)
      refine k_X12_doneAt_2 ⟨fun _ => ?_, fun r => absurd (by rw [z_le, m5, zq]; omega) r⟩
      rw [← e3, eq] at hK
      exact hK
    | succ f ih =>
      intro q' e1 e2 e3
      have zq : (nI q').toInt = q' := z_n (by omega)
      refine k_X12_doneAt_2 ⟨fun r => ?_, fun r => ?_⟩
      · rw [z_le, m5, zq] at r
        have eq : y_Dn A h q' = q' := by unfold y_Dn; exact dn_no (by omega)
        rw [← e3, eq] at hK
        exact hK
      · rw [z_le, m5, zq] at r
        have i2 : (2 : Int32) * nI q' = nI (2 * q') := n_mul 2 q'
        have iB : (94 : Int32) + nI (2 * q') = nI (94 + 2 * q') := n_add 94 _
        have iC : nI (94 + 2 * q') + 1 = nI (95 + 2 * q') := (n_add (94 + 2 * q') 1).trans (by congr 1; omega)
        have v1 := mc.1 (94 + 2 * q') (by omega) (by omega)
        have v2 := mc.1 (95 + 2 * q') (by omega) (by omega)
        have wi := w5.2.2 q' (by omega) (by omega)
        refine e_X12_isWanted ?_
        rw [i2, iB, iC, nI_clamp (n := 94 + 2 * q') (by omega), nI_clamp (n := 95 + 2 * q') (by omega)]
        refine ⟨vp_in_nI (by omega) (by decide), ml_hourAt wA mc.2.1 (by omega) (by omega) (fun u hu => ⟨vp_in_nI (by omega) (by decide), fun s => ⟨fun _ => ?_, fun z => absurd rfl z⟩, fun s => ⟨fun z => absurd z z_10, fun _ y3 e3' => ?_⟩⟩)⟩
        · rw [z_eq, hu, zh, v1, v2] at s
          have eq : y_Dn A h q' = q' := by
            unfold y_Dn
            refine dn_no ?_
            rintro ⟨-, z⟩
            exact s (of_decide_eq_true z)
          rw [← e3, eq] at hK
          exact hK
        · rw [z_eq, hu, zh, v1, v2] at s
          rw [e3', ← nI_succ]
          refine ih (q' + 1) (by omega) (by omega) ?_
          rw [← e3]
          unfold y_Dn
          exact (dn_go (by omega) (by omega) (decide_eq_true s)).symm
  exact loop (8 - q) q rfl hq rfl
def y_Sy (c : Nat) : Prop := c = 373
theorem Sy_mc (c : Nat) (h : y_Sy c) : 370 ≤ c := by unfold y_Sy at h; omega
theorem Sy_x (c : Nat) (h : y_Sy c) : x_sc c := by unfold y_Sy at h; unfold x_sc; omega
theorem ml_laysYet {d N M n : Nat} {τ : x_T} {A : Nat → Int} {L : x_L} {K : x_T → Prop} (mc : x_mc τ A L) (wA : w_A A) (hN : A 0 = N) (hM : A 5 = M) (hn : y_yr (y_Ln A) (y_Dn A) N (y_y0 M) (n + 1) = y_yr (y_Ln A) (y_Dn A) N (y_y0 M) n)
    (hK : ∀ σ : x_T, x_fr y_Sy τ σ → (∀ k, k < 72 → (σ.1 373 k).toInt = y_yr (y_Ln A) (y_Dn A) N (y_y0 M) n k) → K σ) : x_CV (d + 1 + 1 + 1 + 1 + 1) mX12_laysYet [.ref 345] τ K := by
  have w0 := wA.1
  have w5 := wA.2.2.2.2.2.2.1
  have hMt : (A 5).toNat = M := by omega
  have d8 : ∀ t q, q ≤ 8 → y_Dn A t q ≤ 8 := fun t q hq => by unfold y_Dn; exact (dn_b hq).2.1
  have bd : ∀ j x, 0 ≤ y_yr (y_Ln A) (y_Dn A) N (y_y0 M) j x ∧ y_yr (y_Ln A) (y_Dn A) N (y_y0 M) j x ≤ 999 := fun j =>
    yr_P (P := fun Q => ∀ x, 0 ≤ Q x ∧ Q x ≤ 999) (fun Q k t _ _ hl hQ x => by
      by_cases q : x = k
      · rw [q, yx_k hl]
        have h1 := hQ k
        have h2 := hQ (y_nk (y_Dn A) k t)
        omega
      · rw [yx_n q]; exact hQ x) (fun x => by unfold y_y0; split <;> omega) j
  refine e_X12_laysYet ?_
  -- one time through all places
  have pass : ∀ (Y : Nat → Int), (∀ x, 0 ≤ Y x ∧ Y x ≤ 999) → ∀ ρ : x_T, x_fr y_Sy τ ρ → (∀ k, k < 72 → (ρ.1 373 k).toInt = Y k) → (∀ (σ : x_T) (v : Int32), x_fr y_Sy τ σ → (∀ k, k < 72 → (σ.1 373 k).toInt = y_yo (y_Ln A) (y_Dn A) N Y (9 * N) k) → (v = 0 → y_yo (y_Ln A) (y_Dn A) N Y (9 * N) = Y) → (¬ v = 0 → ∃ x, y_yo (y_Ln A) (y_Dn A) N Y (9 * N) x < Y x) → x_WV (d + 1 + 1 + 1 + 1 + 1) mX12_laysYet K 42 [(0, .ref 345), (1, .int v)] [] σ) → x_WV (d + 1 + 1 + 1 + 1 + 1) mX12_laysYet K 50 [(0, .ref 345), (1, .int 0), (2, .int 0)] [] ρ := by
    intro Y hY ρ fρ hρ hend
    let IV : (Nat → Int) → Int32 → Prop := fun C v => (∀ x, 0 ≤ C x ∧ C x ≤ 999) ∧ (∀ x, C x ≤ Y x) ∧ (v = 0 → C = Y) ∧ (¬ v = 0 → ∃ x, C x < Y x)
    have outer : ∀ k, k ≤ 9 * N → (fun k => ∀ (σ : x_T) (v : Int32), x_fr y_Sy τ σ → (∀ x, x < 72 → (σ.1 373 x).toInt = y_yo (y_Ln A) (y_Dn A) N Y k x) → IV (y_yo (y_Ln A) (y_Dn A) N Y k) v → x_WV (d + 1 + 1 + 1 + 1 + 1) mX12_laysYet K 50 [(0, .ref 345), (1, .int v), (2, .int (nI k))] [] σ) k := by
      refine z_down ?_ ?_
      · intro σ v f h hI
        have m0 := (mc_fr mc f Sy_mc).1 0 (by omega) (by omega)
        have e0 : σ.1 346 0 = nI N := z_of (by omega) (by rw [m0, hN])
        refine k_X12_laysYet_50 ⟨fun _ => hend σ v f h hI.2.2.1 hI.2.2.2, fun q => absurd ?_ q⟩
        rw [e0, show (9 : Int32) * nI N = nI (9 * N) from n_mul 9 N, z_le]; exact Int.le_refl _
      · intro k hk ih σ v f h hI
        have m0 := (mc_fr mc f Sy_mc).1 0 (by omega) (by omega)
        have e0 : σ.1 346 0 = nI N := z_of (by omega) (by rw [m0, hN])
        refine k_X12_laysYet_50 ⟨fun q => ?_, fun _ => ?_⟩
        · rw [e0, show (9 : Int32) * nI N = nI (9 * N) from n_mul 9 N, z_le, z_n (by omega), z_n (by omega)] at q; omega
        have d9 : nI k / 9 = nI (k / 9) := n_div (b := 9) (by omega) (by omega) (by omega)
        have r9 : nI k - nI k / 9 * 9 = nI (k % 9) := n_mod (b := 9) (by omega) (by omega) (by omega)
        have inner : ∀ t, t ≤ N → (fun t => ∀ (σ : x_T) (v : Int32), x_fr y_Sy τ σ → (∀ x, x < 72 → (σ.1 373 x).toInt = y_yi (y_Ln A) (y_Dn A) (y_yo (y_Ln A) (y_Dn A) N Y k) k t x) → IV (y_yi (y_Ln A) (y_Dn A) (y_yo (y_Ln A) (y_Dn A) N Y k) k t) v → x_WV (d + 1 + 1 + 1 + 1 + 1) mX12_laysYet K 65 [(0, .ref 345), (1, .int v), (2, .int (nI k)), (3, .int (nI t))] [] σ) t := by
          refine z_down ?_ ?_
          · intro σ v f h hI
            have m0 := (mc_fr mc f Sy_mc).1 0 (by omega) (by omega)
            refine k_X12_laysYet_65 ⟨fun _ y1 e1 => ?_, fun q => absurd (by rw [z_le, m0, z_n (by omega)]; omega) q⟩
            rw [e1, ← nI_succ]
            exact ih σ v f h hI
          · intro t ht ih2 σ v f h hI
            have mcσ := mc_fr mc f Sy_mc
            have m0 := mcσ.1 0 (by omega) (by omega)
            have zt : (nI t).toInt = t := z_n (by omega)
            have lane := mcσ.1 (30 + (8 * (k / 9) + t)) (by omega) (by omega)
            have ln : z_ln A (k / 9 : Nat) t = A (30 + (8 * (k / 9) + t)) := by rw [z_ln, if_pos (by omega)]; rfl
            have ix : (30 : Int32) + 8 * (nI k / 9) + nI t = nI (30 + (8 * (k / 9) + t)) := by rw [d9]; exact ix_30n _ _
            have ih2 : ∀ (σ : x_T) (v : Int32), x_fr y_Sy τ σ → (∀ x, x < 72 → (σ.1 373 x).toInt = y_yx (y_Ln A) (y_Dn A) (y_yi (y_Ln A) (y_Dn A) (y_yo (y_Ln A) (y_Dn A) N Y k) k t) k t x) → IV (y_yx (y_Ln A) (y_Dn A) (y_yi (y_Ln A) (y_Dn A) (y_yo (y_Ln A) (y_Dn A) N Y k) k t) k t) v → x_WV (d + 1 + 1 + 1 + 1 + 1) mX12_laysYet K 65 [(0, .ref 345), (1, .int v), (2, .int (nI k)), (3, .int (nI (t + 1)))] [] σ := ih2
            generalize y_yi (y_Ln A) (y_Dn A) (y_yo (y_Ln A) (y_Dn A) N Y k) k t = C at h hI ih2
            refine k_X12_laysYet_65 ⟨fun q => ?_, fun _ => ?_⟩
            · rw [z_le, m0, zt] at q; omega
            rw [ix, nI_clamp (n := 30 + (8 * (k / 9) + t)) (by omega), r9]
            refine ⟨vp_in_nI (by omega) (by decide), fun q => k_X12_laysYet_167 (fun y1 e1 => ?_), fun q => ?_⟩
            · rw [z_le, lane] at q
              simp only [Int32.reduceToInt] at q
              have nl : ¬ y_Ln A (k / 9) t = true := by unfold y_Ln; rw [decide_eq_true_iff, ln]; omega
              rw [e1, ← nI_succ]
              have := ih2 σ v f
              rw [yx_0 nl] at this
              exact this h hI
            · rw [z_le, lane] at q
              simp only [Int32.reduceToInt] at q
              have hl : y_Ln A (k / 9) t = true := by unfold y_Ln; exact decide_eq_true (by rw [ln]; omega)
              have dd := d8 t (k % 9) (by omega)
              have nk : 9 * t + y_Dn A t (k % 9) = y_nk (y_Dn A) k t := rfl
              refine ml_doneAt mcσ wA hN hM ht (by omega) ?_
              have i9 : (9 : Int32) * nI t + nI (y_Dn A t (k % 9)) = nI (y_nk (y_Dn A) k t) := by rw [show (9 : Int32) * nI t = nI (9 * t) from n_mul 9 t, n_add]; rfl
              rw [i9, nI_clamp (n := y_nk (y_Dn A) k t) (by omega), nI_clamp (n := k) (by omega)]
              have c1 := hI.1 (y_nk (y_Dn A) k t)
              have c2 := hI.1 k
              have g1 := h (y_nk (y_Dn A) k t) (by omega)
              have g2 := h k (by omega)
              refine ⟨vp_in_nI (by omega) (by decide), fun y4 e4 => ?_⟩
              have e4 : y4.toInt = 1 + C (y_nk (y_Dn A) k t) := by rw [e4, z_add (by rw [g1]; simp only [Int32.reduceToInt]; omega), g1]; rfl
              have bdx : ∀ x, 0 ≤ y_yx (y_Ln A) (y_Dn A) C k t x ∧ y_yx (y_Ln A) (y_Dn A) C k t x ≤ 999 := by
                intro x
                by_cases r : x = k
                · rw [r, yx_k hl]; omega
                · rw [yx_n r]; exact hI.1 x
              have lex : ∀ x, y_yx (y_Ln A) (y_Dn A) C k t x ≤ Y x := fun x => Int.le_trans (yx_le C k t x) (hI.2.1 x)
              have wr : ∀ (v s : Int32), s.toInt = y_yx (y_Ln A) (y_Dn A) C k t k → IV (y_yx (y_Ln A) (y_Dn A) C k t) v → x_WV (d + 1 + 1 + 1 + 1 + 1) mX12_laysYet K 166 [(0, .ref 345), (1, .int v), (2, .int (nI k)), (3, .int (nI t))] [.int s, .int (nI k), .ref 373] σ := by
                intro v s hs hI'
                refine k_X12_laysYet_166 ⟨vp_in_nI (by omega) (by decide), fun t1 e1 => k_X12_laysYet_167 (fun y1 ey => ?_)⟩
                rw [ey, ← nI_succ]
                rw [nI_clamp (n := k) (by omega)] at e1
                refine ih2 t1 v (by rw [e1]; exact fr_w f rfl) (fun x hx => ?_) hI'
                rw [e1, w1_at]
                by_cases r : x = k
                · rw [if_pos ⟨rfl, r⟩, hs, r]
                · rw [if_neg (fun z => r z.2), yx_n r]; exact h x hx
              have fin : ∀ v : Int32, IV (y_yx (y_Ln A) (y_Dn A) C k t) v → x_WV (d + 1 + 1 + 1 + 1 + 1) mX12_laysYet K 138 [(0, .ref 345), (2, .int (nI k)), (3, .int (nI t)), (4, .int y4)] [.int v] σ := by
                intro v hI'
                refine k_X12_laysYet_138 ⟨vp_in_nI (by omega) (by decide), ?_⟩
                rw [nI_clamp (n := k) (by omega)]
                refine ⟨fun q2 => ⟨vp_in_nI (by omega) (by decide), wr v _ ?_ hI'⟩, fun q2 => wr v _ ?_ hI'⟩
                · rw [z_le, g2, e4] at q2; rw [g2, yx_k hl]; omega
                · rw [z_le, g2, e4] at q2; rw [e4, yx_k hl]; omega
              have yes : (∃ x, y_yx (y_Ln A) (y_Dn A) C k t x < Y x) → x_WV (d + 1 + 1 + 1 + 1 + 1) mX12_laysYet K 133 [(0, .ref 345), (2, .int (nI k)), (3, .int (nI t)), (4, .int y4)] [] σ := fun ex => k_X12_laysYet_133 (fin 1 ⟨bdx, lex, fun z => absurd z z_10, fun _ => ex⟩)
              refine ⟨fun q2 => yes ?_, fun q2 => ⟨vp_in_nI (by omega) (by decide), fun q3 => fin 0 ⟨bdx, lex, fun _ => ?_, fun z => absurd rfl z⟩, fun q3 => yes ⟨k, ?_⟩⟩⟩
              · obtain ⟨x, hx⟩ := hI.2.2.2 q2
                have := yx_le (ln := y_Ln A) (dn := y_Dn A) C k t x
                exact ⟨x, by omega⟩
              · rw [z_le, g2, e4] at q3
                rw [← hI.2.2.1 q2]
                funext x
                by_cases r : x = k
                · rw [r, yx_k hl]; omega
                · rw [yx_n r]
              · rw [z_le, g2, e4] at q3
                have := hI.2.1 k
                rw [yx_k hl]; omega
        exact inner 0 (by omega) σ v f h hI
    exact outer 0 (by omega) ρ 0 fρ hρ ⟨hY, fun x => Int.le_refl _, fun _ => rfl, fun z => absurd rfl z⟩
  have rounds : ∀ j, j ≤ n → (fun j => ∀ (ρ : x_T), x_fr y_Sy τ ρ → (∀ k, k < 72 → (ρ.1 373 k).toInt = y_yr (y_Ln A) (y_Dn A) N (y_y0 M) j k) → ∀ v : Int32, ¬ v = 0 → x_WV (d + 1 + 1 + 1 + 1 + 1) mX12_laysYet K 42 [(0, .ref 345), (1, .int v)] [] ρ) j := by
    refine z_down ?_ ?_
    · intro ρ f h v hv
      refine k_X12_laysYet_42 ⟨fun z => absurd z hv, fun _ => pass _ (bd n) ρ f h (fun σ v f' h' i0 i1 => ?_)⟩
      have e : y_yo (y_Ln A) (y_Dn A) N (y_yr (y_Ln A) (y_Dn A) N (y_y0 M) n) (9 * N) = y_yr (y_Ln A) (y_Dn A) N (y_y0 M) n := hn
      rw [e] at h' i1
      refine k_X12_laysYet_42 ⟨fun _ => hK σ f' h', fun z => ?_⟩
      obtain ⟨x, hx⟩ := i1 z
      omega
    · intro j hj ih ρ f h v hv
      refine k_X12_laysYet_42 ⟨fun z => absurd z hv, fun _ => pass _ (bd j) ρ f h (fun σ v f' h' i0 i1 => ?_)⟩
      by_cases z : v = 0
      · refine k_X12_laysYet_42 ⟨fun _ => hK σ f' (fun k hk => ?_), fun y => absurd z y⟩
        have e := i0 z
        have st := yr_st (ln := y_Ln A) (dn := y_Dn A) (N := N) (Y := y_y0 M) (n := j) e (n - j)
        rw [show j + (n - j) = n by omega] at st
        rw [st, h' k hk, e]
      · exact ih σ f' h' v z
  have fill : ∀ k, k ≤ 72 → (fun k => ∀ ρ : x_T, x_fr y_Sy τ ρ → (∀ x, x < k → (ρ.1 373 x).toInt = y_y0 M x) → x_WV (d + 1 + 1 + 1 + 1 + 1) mX12_laysYet K 2 [(0, .ref 345), (1, .int (nI k))] [] ρ) k := by
    refine z_down ?_ ?_
    · intro ρ f h
      exact k_X12_laysYet_2 ⟨fun _ => rounds 0 (by omega) ρ f h 1 z_10, fun q => absurd (by decide) q⟩
    · intro k hk ih ρ f h
      have m5 := (mc_fr mc f Sy_mc).1 5 (by omega) (by omega)
      have r9 : nI k - nI k / 9 * 9 = nI (k % 9) := n_mod (b := 9) (by omega) (by omega) (by omega)
      have go : ∀ v : Int32, v.toInt = y_y0 M k → x_WV (d + 1 + 1 + 1 + 1 + 1) mX12_laysYet K 33 [(0, .ref 345), (1, .int (nI k))] [.int v, .int (nI k), .ref 373] ρ := by
        intro v hv
        refine k_X12_laysYet_33 ⟨vp_in_nI (by omega) (by decide), fun t2 e2 y2 ey => ?_⟩
        rw [ey, ← nI_succ]
        rw [nI_clamp (by omega)] at e2
        refine ih t2 (by rw [e2]; exact fr_w f rfl) (fun y hy => ?_)
        rw [e2, w1_at]
        by_cases q : y = k
        · rw [if_pos ⟨rfl, q⟩, hv, q]
        · rw [if_neg (fun z => q z.2)]; exact h y (by omega)
      refine k_X12_laysYet_2 ⟨fun q => absurd q (nI_ge (a := k) (b := 72) (by omega) (by decide)), fun _ => ?_⟩
      rw [r9]
      refine ⟨fun q => go _ ?_, fun q => go _ ?_⟩
      · rw [z_eq, m5, z_n (by omega)] at q; rw [y_y0, if_neg (by omega)]; rfl
      · rw [z_eq, m5, z_n (by omega)] at q; rw [y_y0, if_pos (by omega)]; rfl
  exact fill 0 (by omega) τ (fr_r _ _) (fun x hx => by omega)
theorem q_route (hL : x_HL) {τ : x_T} (h : x_J τ) (a1 : Int32) : x_CI 2000 mX11_route [.ref 0, .int a1] τ (fun τ1 u => x_CI 2000 mX12_route [.ref 345, .int a1] τ1 (fun τ2 v => u = v ∧ x_J τ2)) := by
  obtain ⟨L, l1, l2⟩ := hL τ h
  generalize hA : j_A τ = A
  have hJ := h.1
  rw [hA] at hJ
  have wA := hJ.1
  have w0 := wA.1
  have w5 := wA.2.2.2.2.2.2.1
  have wD : w_D A (z_dy A) := hJ.2.2.1
  have he : x_cd 13 τ (z_dy A) := hJ.2.2.2.1
  have hmm : x_hm τ A L := ⟨hA, l2⟩
  have hcl := hJ.2.1
  have e0 : (τ.1 13 0).toInt = A 130 := cd_0 (e := z_dy A) he (k := 0) (by omega)
  have d0 : 0 ≤ A 130 ∧ (A 130 = 0 ∨ A 130 < A 0) := wD.1
  have n1 : (-1 : Int32).toInt = -1 := by decide
  have n2 : (-2 : Int32).toInt = -2 := by decide
  obtain ⟨N, hN⟩ : ∃ N : Nat, A 0 = N := ⟨(A 0).toNat, by omega⟩
  obtain ⟨M, hM⟩ : ∃ M : Nat, A 5 = M := ⟨(A 5).toNat, by omega⟩
  have hMt : (A 5).toNat = M := by omega
  by_cases N0 : 0 < N
  · obtain ⟨s, hs⟩ : ∃ s : Nat, A 130 = s := ⟨(A 130).toNat, by omega⟩
    have sN : s < N := by omega
    have d8 : ∀ t q, q ≤ 8 → y_Dn A t q ≤ 8 := fun t q hq => by unfold y_Dn; exact (dn_b hq).2.1
    have dM : ∀ t q, q ≤ M → y_Dn A t q ≤ M := fun t q hq => by unfold y_Dn; rw [hMt]; exact (dn_b (by omega)).2.2 hq
    obtain ⟨n, hn, hY0, hg, hfix, wit, hsm⟩ := yr_all (ln := y_Ln A) (dn := y_Dn A) (N := N) (by omega) M d8
    obtain ⟨k0, hk0⟩ : ∃ k0, k0 = 9 * s + y_Dn A s 0 := ⟨_, rfl⟩
    have ds := dM s 0 (by omega)
    have ml := @ml_laysYet
    generalize hYe : y_yr (y_Ln A) (y_Dn A) N (y_y0 M) n = Y at hY0 hg hfix wit hsm
    have k72 : k0 < 72 := by omega
    have sm0 := hsm k0 k72
    have y00 := hY0 k0
    obtain ⟨l, hl⟩ : ∃ l : Nat, Y k0 = l := ⟨(Y k0).toNat, by omega⟩
    have hgk : Y k0 = l → l < 999 → _ := fun h1 h2 => gk_all (ln := y_Ln A) (dn := y_Dn A) (N := N) (M := M) (Y := Y) (by omega) d8 dM (by omega) hg wit (k0 := k0) (l := l) (by omega) (by omega) h1 h2
    have es : τ.1 13 0 = nI s := z_of (by omega) (by rw [e0, hs])
    obtain ⟨Z, hZ0, hZ1, hZ2⟩ : ∃ Z : Int, (l = 999 ∨ a1.toInt < -1 ∨ l ≤ a1.toInt → Z = -2) ∧ (¬ l = 999 → a1.toInt = -1 → Z = l) ∧ (¬ l = 999 → 0 ≤ a1.toInt → a1.toInt < l → Z = ((y_gk (y_Ln A) (y_Dn A) N Y k0 (a1.toInt.toNat + 1) / 9 : Nat) : Int)) := by
      by_cases q : l = 999 ∨ a1.toInt < -1 ∨ l ≤ a1.toInt
      · exact ⟨-2, fun _ => rfl, fun z1 z2 => by omega, fun z1 z2 z3 => by omega⟩
      · by_cases q2 : a1.toInt = -1
        · exact ⟨_, fun z => absurd z q, fun _ _ => rfl, fun z1 z2 z3 => by omega⟩
        · exact ⟨_, fun z => absurd z q, fun _ z => absurd z q2, fun _ _ _ => rfl⟩
    refine pair_q h Z (fun K hK => ?_) (fun σ f K hK => ?_)
    · refine e_X11_route ?_
      rw [es]
      refine cl_seekRoute (Y := Y) (l := l) hcl wA hN hM sN hY0 hg hfix hsm hk0 hgk (fun q σ fσ => ⟨fun _ => hK σ _ fσ (by rw [hZ0 (by omega)]; exact n2), fun z => absurd rfl z⟩) (fun q ql σ u fσ hu g9 g5 ge => ?_) (by omega)
      have hgk := hgk hl (by omega)
      refine ⟨fun z => ?_, fun _ => ⟨fun z => hK σ _ fσ ?_, fun z1 => ⟨fun z2 => ⟨fun z3 => ?_, fun z3 => hK σ _ fσ ?_⟩, fun z2 => hK σ _ fσ ?_⟩⟩⟩
      · rw [z_eq, hu, n1] at z; omega
      · rw [z_lt, n1] at z; rw [hZ0 (by omega)]; exact n2
      · rw [z_lt, hu] at z2
        rw [z_lt, n1] at z1
        rw [z_eq, n1] at z3
        obtain ⟨i, hi⟩ : ∃ i : Nat, a1.toInt = i := ⟨a1.toInt.toNat, by omega⟩
        have eZ := hZ2 (by omega) (by omega) (by omega)
        rw [hi, Int.toNat_natCast] at eZ
        refine e_X10_routeHouse (fun y1 e1 y2 e2 => ?_)
        have e2 : y2.toInt = (l : Int) - 1 := by rw [e2, z_sub (by rw [g9]; simp only [Int32.reduceToInt]; omega), g9]; rfl
        rw [g5] at e1
        have lp : ∀ (m j : Nat), i + 1 + m = j → j ≤ l → ∀ y2 : Int32, y2.toInt = (j : Int) - 1 → x_WI 1999 mX10_routeHouse (fun t3 a4 => K t3 a4) 12 [(0, .ref 333), (1, .int a1), (2, .int (nI (y_pl (y_gk (y_Ln A) (y_Dn A) N Y k0 j)))), (3, .int y2)] [] σ := by
          intro m
          induction m with
          | zero =>
            intro j hj hjl y2 hy2
            obtain ⟨c1, c2, c3, c4⟩ := hgk j hjl
            have pb := pl_b c1 (by omega) c2
            have zp : (nI (y_pl (y_gk (y_Ln A) (y_Dn A) N Y k0 j))).toInt = ((y_pl (y_gk (y_Ln A) (y_Dn A) N Y k0 j) : Nat) : Int) := z_n (by omega)
            have em : nI (y_pl (y_gk (y_Ln A) (y_Dn A) N Y k0 j)) - nI (y_pl (y_gk (y_Ln A) (y_Dn A) N Y k0 j)) / 8 * 8 = nI (y_pl (y_gk (y_Ln A) (y_Dn A) N Y k0 j) % 8) := n_mod (b := 8) (by omega) (by omega) (by omega)
            refine k_X10_routeHouse_12 ⟨fun _ => ⟨fun _ => hK σ _ fσ ?_, fun z => absurd (by rw [z_le, zp]; simp only [Int32.reduceToInt]; omega) z⟩, fun z => absurd (by rw [z_le, hy2, hi]; omega) z⟩
            rw [em, z_n (by omega), pb.2.2.2.1, eZ]
            congr 3
            omega
          | succ m ih =>
            intro j hj hjl y2 hy2
            obtain ⟨c1, c2, c3, c4⟩ := hgk j hjl
            have pb := pl_b c1 (by omega) c2
            have zp : (nI (y_pl (y_gk (y_Ln A) (y_Dn A) N Y k0 j))).toInt = ((y_pl (y_gk (y_Ln A) (y_Dn A) N Y k0 j) : Nat) : Int) := z_n (by omega)
            refine k_X10_routeHouse_12 ⟨fun z => ?_, fun _ => e_X10_placeAhead ⟨fun z => ?_, fun _ => ⟨fun z => ?_, fun _ => ⟨vp_in_nI (by omega) (by decide), fun y3 e3 => ?_⟩⟩⟩⟩
            · rw [z_le, hy2, hi] at z; omega
            · rw [z_lt, zp] at z; simp only [Int32.reduceToInt] at z; omega
            · rw [z_le, zp] at z; simp only [Int32.reduceToInt] at z; omega
            · obtain ⟨j', rfl⟩ : ∃ j', j = j' + 1 := ⟨j - 1, by omega⟩
              rw [nI_clamp (by omega), ge j' (by omega)]
              refine ih j' (by omega) (by omega) y3 ?_
              rw [e3, z_add (by rw [hy2]; simp only [Int32.reduceToInt]; omega), hy2]; simp only [Int32.reduceToInt]; omega
        rw [e1]
        exact lp (l - (i + 1)) l (by omega) (Nat.le_refl _) y2 e2
      · rw [z_eq, n1] at z3; rw [hu, hZ1 (by omega) z3]
      · rw [z_lt, hu] at z2; rw [hZ0 (by omega)]; exact n2
    · have hmσ := hmX_fr hmm f
      refine e_X12_route (ml_laysNow hmσ wA (fun σ1 f1 g1 mc1 hm1 => ⟨fun z => hK σ1 _ (fr_m s69_x f1) ?_, fun z1 => ⟨fun z2 => ?_, fun z => ?_⟩⟩))
      · rw [z_lt, n1] at z; rw [hZ0 (by omega)]; exact n2
      · rw [z_lt, n1] at z1
        refine ml_laysYet mc1 wA hN hM hn (fun σ2 f2 g7 => ?_)
        rw [hYe] at g7
        have fx2 := fr_t (fr_m s69_x f1) (fr_m Sy_x f2)
        have mc2 := mc_fr mc1 f2 Sy_mc
        have e70 : σ2.1 370 0 = nI s := z_of (by omega) (by rw [f2.1 370 (by unfold y_Sy; omega), g1 0 (by omega)]; exact hs)
        rw [e70]
        refine ml_doneAt (q := 0) mc2 wA hN hM sN (by omega) (fun y7 e7 => ?_)
        have e7 : y7 = nI k0 := by rw [e7, show (9 : Int32) * nI s = nI (9 * s) from n_mul 9 s, n_add, ← hk0]
        subst e7
        rw [nI_clamp (n := k0) (by omega)]
        have gs := g7 k0 k72
        rw [hl] at gs
        refine ⟨vp_in_nI (by omega) (by decide), fun q => hK σ2 _ fx2 ?_, fun q => ⟨vp_in_nI (by omega) (by decide), fun q2 => ⟨fun q3 => ?_, fun q3 => ⟨vp_in_nI (by omega) (by decide), hK σ2 _ fx2 ?_⟩⟩, fun q2 => hK σ2 _ fx2 ?_⟩⟩
        · rw [z_le, gs] at q; simp only [Int32.reduceToInt] at q; rw [hZ0 (by omega)]; exact n2
        · rw [z_le, gs] at q
          rw [z_lt, gs] at q2
          rw [z_eq, n1] at q3
          simp only [Int32.reduceToInt] at q
          have hgk := hgk hl (by omega)
          obtain ⟨i, hi⟩ : ∃ i : Nat, a1.toInt = i := ⟨a1.toInt.toNat, by omega⟩
          have eZ := hZ2 (by omega) (by omega) (by omega)
          rw [hi, Int.toNat_natCast] at eZ
          have lp : ∀ j, j ≤ i + 1 → (fun j : Nat => ∀ v3 : Int32, (0 < j → v3.toInt = ((y_gk (y_Ln A) (y_Dn A) N Y k0 j / 9 : Nat) : Int)) → x_WI 2000 mX12_route K 89 [(0, .ref 345), (1, .int a1), (2, .int (nI (y_gk (y_Ln A) (y_Dn A) N Y k0 j))), (3, .int v3), (4, .int (nI j))] [] σ2) j := by
            refine z_down ?_ ?_
            · intro v3 h3
              refine k_X12_route_89 ⟨fun _ => hK σ2 _ fx2 ?_, fun z => absurd (by rw [z_lt, hi, z_n (by omega)]; omega) z⟩
              rw [h3 (by omega), eZ]
            · intro j hj ih v3 _
              obtain ⟨c1, c2, c3, c4⟩ := hgk j (by omega)
              obtain ⟨b1, b2, b3, b4⟩ := c4 (by omega)
              have egk : y_gk (y_Ln A) (y_Dn A) N Y k0 (j + 1) = y_nk (y_Dn A) (y_gk (y_Ln A) (y_Dn A) N Y k0 j) (y_gt (y_Ln A) (y_Dn A) N Y (y_gk (y_Ln A) (y_Dn A) N Y k0 j)) := rfl
              generalize hk : y_gk (y_Ln A) (y_Dn A) N Y k0 j = k at c1 c2 c3 b1 b2 b3 b4 egk
              generalize hT : y_gt (y_Ln A) (y_Dn A) N Y k = T at b1 b2 b4 egk
              refine k_X12_route_89 ⟨fun z => ?_, fun _ => ?_⟩
              · rw [z_lt, hi, z_n (by omega)] at z; omega
              have d9 : nI k / 9 = nI (k / 9) := n_div (b := 9) (by omega) (by omega) (by omega)
              have r9 : nI k - nI k / 9 * 9 = nI (k % 9) := n_mod (b := 9) (by omega) (by omega) (by omega)
              have gk := g7 k (by omega)
              have s1 : (σ2.1 373 k - 1).toInt = Y k - 1 := by rw [z_sub (by rw [gk]; simp only [Int32.reduceToInt]; omega), gk]; rfl
              have sr : ∀ t, t ≤ T → (fun t => x_WI 2000 mX12_route K 97 [(0, .ref 345), (1, .int a1), (2, .int (nI k)), (3, .int (nI t)), (4, .int (nI j))] [] σ2) t := by
                have row : ∀ t, t < N → (y_Ln A (k / 9) t = true → 1 + Y (y_nk (y_Dn A) k t) = Y k → ∀ y5, y5 = nI (y_nk (y_Dn A) k t) → ∀ y6, y6 = nI j + 1 → x_WI 2000 mX12_route K 89 [(0, .ref 345), (1, .int a1), (2, .int y5), (3, .int (nI t)), (4, .int y6)] [] σ2) → (¬ (y_Ln A (k / 9) t = true ∧ 1 + Y (y_nk (y_Dn A) k t) = Y k) → x_WI 2000 mX12_route K 147 [(0, .ref 345), (1, .int a1), (2, .int (nI k)), (3, .int (nI t)), (4, .int (nI j))] [] σ2) → x_WI 2000 mX12_route K 97 [(0, .ref 345), (1, .int a1), (2, .int (nI k)), (3, .int (nI t)), (4, .int (nI j))] [] σ2 := by
                  intro t ht hy hno
                  have lane := mc2.1 (30 + (8 * (k / 9) + t)) (by omega) (by omega)
                  have ln : z_ln A (k / 9 : Nat) t = A (30 + (8 * (k / 9) + t)) := by rw [z_ln, if_pos (by omega)]; rfl
                  have bl := wA.2.2.2.2.1 (8 * (k / 9) + t) (by omega)
                  have ix : (30 : Int32) + 8 * (nI k / 9) + nI t = nI (30 + (8 * (k / 9) + t)) := by rw [d9]; exact ix_30n _ _
                  have dd := d8 t (k % 9) (by omega)
                  have nk : 9 * t + y_Dn A t (k % 9) = y_nk (y_Dn A) k t := rfl
                  have i9 : (9 : Int32) * nI t + nI (y_Dn A t (k % 9)) = nI (y_nk (y_Dn A) k t) := by rw [show (9 : Int32) * nI t = nI (9 * t) from n_mul 9 t, n_add]; rfl
                  refine k_X12_route_97 ?_
                  rw [ix, nI_clamp (n := 30 + (8 * (k / 9) + t)) (by omega), r9]
                  refine ⟨vp_in_nI (by omega) (by decide), fun z => hno (fun z2 => ?_), fun z => ?_⟩
                  · rw [z_eq, lane] at z
                    simp only [Int32.reduceToInt] at z
                    have := of_decide_eq_true z2.1
                    rw [ln] at this
                    omega
                  · rw [z_eq, lane] at z
                    simp only [Int32.reduceToInt] at z
                    have hl : y_Ln A (k / 9) t = true := by unfold y_Ln; exact decide_eq_true (by rw [ln]; omega)
                    have gn := g7 (y_nk (y_Dn A) k t) (by omega)
                    refine ml_doneAt mc2 wA hN hM ht (by omega) ?_
                    rw [i9, nI_clamp (n := y_nk (y_Dn A) k t) (by omega), nI_clamp (n := k) (by omega)]
                    refine ⟨vp_in_nI (by omega) (by decide), vp_in_nI (by omega) (by decide), fun z2 => ?_, fun z2 => hno (fun z3 => ?_)⟩
                    · rw [z_eq, gn, s1] at z2
                      refine ml_doneAt mc2 wA hN hM ht (by omega) (fun y5 e5 => ?_)
                      rw [i9] at e5
                      exact hy hl (by omega) y5 e5
                    · rw [z_eq, gn, s1] at z2
                      omega
                refine z_down ?_ ?_
                · refine row T b1 (fun _ _ y5 e5 y6 e6 => ?_) (fun z => absurd ⟨b2, by rw [← egk]; exact b3⟩ z)
                  rw [e5, e6, ← nI_succ, ← egk]
                  refine ih (nI T) (fun _ => ?_)
                  rw [z_n (by omega), egk, y_nk]
                  have dd := d8 T (k % 9) (by omega)
                  omega
                · intro t ht ih2
                  refine row t (by omega) (fun z1 z2 => absurd z2 (b4 t ht z1)) (fun _ => k_X12_route_147 (fun y1 e1 => ?_))
                  rw [e1, ← nI_succ]
                  exact ih2
              exact sr 0 (by omega)
          exact lp 0 (by omega) 0 (fun z => by omega)
        · rw [z_le, gs] at q; rw [z_eq, n1] at q3; simp only [Int32.reduceToInt] at q; rw [gs, hZ1 (by omega) q3]
        · rw [z_lt, gs] at q2; rw [hZ0 (by omega)]; exact n2
      · rw [z_eq, jA_at hm1.1 0] at z; simp only [Int32.reduceToInt] at z; omega
  · refine pair_q h (-2) (fun K hK => ?_) (fun σ f K hK => ?_)
    · refine e_X11_route (cl_seekRoute0 hcl wA (by omega) (fun σ fσ => ⟨fun _ => hK σ _ fσ n2, fun z => absurd rfl z⟩))
    · have hmσ := hmX_fr hmm f
      refine e_X12_route (ml_laysNow hmσ wA (fun σ1 f1 g1 mc1 hm1 => ?_))
      have bad : K σ1 (-2) := hK σ1 _ (fr_m s69_x f1) n2
      refine ⟨fun _ => bad, fun _ => ⟨fun z => absurd ?_ z, fun _ => bad⟩⟩
      rw [z_eq, jA_at hm1.1 0]; simp only [Int32.reduceToInt]; omega
