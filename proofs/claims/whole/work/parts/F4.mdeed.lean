/-! the model: a deed's clause -/
theorem md_num {b : Nat → Int} {n m p w : Nat} {σ : x_T} {K : x_T → Prop} (hs : q_ms σ b n w p 0 0 0 4 m) (hw : 4 ≤ w ∧ w ≤ 10) (hK : ∀ (π : x_T) (a1 a2 a3 : Int32), q_mM b n w m σ π (q_dO b n w p) → (q_in (q_dO b n w p) → q_dn b n w p a1.toInt a2.toInt a3.toInt) → x_WV (1997 + 1) mX12_doing K 136 [(0, .ref 345), (1, .int a1), (2, .int a2), (3, .int a3)] [] π) : x_CV (1997 + 1) mX12_doing [.ref 345] σ K := by
  have e31 := hs.2.2.2.2.2.2.2.1.1
  have c4 : ∀ v : Int32, σ.1 345 31 = v → (w : Int) = v.toInt := fun v z => by rw [← z]; exact e31.symm
  have h0 : q_mM b n w m σ σ (.inr p) := ⟨hs, kq_r _ _ _ _⟩
  refine e_X12_doing (fun y1 ey => ?_)
  subst ey
  refine ⟨fun q => ?_, fun n4 => ⟨fun q => ?_, fun n5 => ⟨fun q => ?_, fun n6 => ⟨fun q => ?_, fun n7 => ⟨fun q => ?_, fun n8 => ⟨fun q => ?_, fun n9 => ⟨fun q => ?_, fun n10 => ?_⟩⟩⟩⟩⟩⟩⟩
  · have ew : w = 4 := by have := c4 4 q; simp only [Int32.reduceToInt] at this; omega
    subst ew
    exact mM_num (d := 1994) (by decide) (by decide) h0 (fun π u g gu => hK π u (-1) (-1) g (fun hi => ⟨fun _ => gu hi, fun z => by omega, fun z => by omega⟩))
  · have ew : w = 5 := by have := c4 5 q; simp only [Int32.reduceToInt] at this; omega
    subst ew
    exact mM_num (d := 1994) (by decide) (by decide) h0 (fun π u g gu => mM_beh (d := 1993) (c := 11) (by omega) (by decide) (by decide) (by decide) g (fun π3 u3 g3 gu3 => mM_beh (d := 1993) (c := 12) (by omega) (by decide) (by decide) (by decide) g3 (fun π5 u5 g5 gu5 => hK π5 u u3 u5 g5 (fun hi => ⟨fun _ => gu (in_xp (in_nu (in_xp (in_nu hi)))), fun _ => gu3 (in_xp (in_nu hi)), fun _ => gu5 hi⟩))))
  · have ew : w = 6 := by have := c4 6 q; simp only [Int32.reduceToInt] at this; omega
    subst ew
    exact mM_num (d := 1994) (by decide) (by decide) h0 (fun π u g gu => hK π u (-1) (-1) g (fun hi => ⟨fun _ => gu hi, fun z => by omega, fun z => by omega⟩))
  · have ew : w = 7 := by have := c4 7 q; simp only [Int32.reduceToInt] at this; omega
    subst ew
    exact mM_num (d := 1994) (by decide) (by decide) h0 (fun π u g gu => mM_beh (d := 1993) (c := 13) (by omega) (by decide) (by decide) (by decide) g (fun π3 u3 g3 gu3 => hK π3 u u3 (-1) g3 (fun hi => ⟨fun _ => gu (in_xp (in_nu hi)), fun _ => gu3 hi, fun z => by omega⟩)))
  · have ew : w = 8 := by have := c4 8 q; simp only [Int32.reduceToInt] at this; omega
    subst ew
    exact hK σ (-1) (-1) (-1) h0 (fun hi => ⟨fun z => by omega, fun z => by omega, fun z => by omega⟩)
  · have ew : w = 9 := by have := c4 9 q; simp only [Int32.reduceToInt] at this; omega
    subst ew
    exact hK σ (-1) (-1) (-1) h0 (fun hi => ⟨fun z => by omega, fun z => by omega, fun z => by omega⟩)
  · have ew : w = 10 := by have := c4 10 q; simp only [Int32.reduceToInt] at this; omega
    subst ew
    exact mM_num (d := 1994) (by decide) (by decide) h0 (fun π u g gu => hK π u (-1) (-1) g (fun hi => ⟨fun _ => gu hi, fun z => by omega, fun z => by omega⟩))
  · rw [z_eq, e31] at n4 n5 n6 n7 n8 n9 n10
    simp only [Int32.reduceToInt] at n4 n5 n6 n7 n8 n9 n10
    omega
theorem md_136 {j d : Nat} {v1 v2 v3 : Int32} {σ : x_T} {K : x_T → Prop} (hn : (σ.1 345 30).toInt = j) (hj : j < 24) (hK : ∀ ρ : x_T, ρ.1 345 = σ.1 345 → (∀ m, q_kM σ ρ j m) → ρ.1 348 = σ.1 348 → ρ.1 362 = σ.1 362 → ρ.1 363 = σ.1 363 → ρ.1 364 j = v1 → ρ.1 365 j = v2 → ρ.1 366 j = v3 → K ρ) : x_WV (d + 1) mX12_doing K 136 [(0, .ref 345), (1, .int v1), (2, .int v2), (3, .int v3)] [] σ := by
  have cj : (σ.1 345 30).toNatClampNeg = j := by rw [z_cl, hn]; omega
  have iv : vp_in (σ.1 345 30) 24 := ix_n (by omega)
  refine k_X12_doing_136 ⟨iv, fun t1 e1 => ?_⟩
  have a1 : t1.1 345 = σ.1 345 := by rw [e1]; exact w1_c (by omega)
  rw [a1]
  refine ⟨iv, fun t2 e2 => ?_⟩
  have a2 : t2.1 345 = σ.1 345 := by rw [e2, w1_c (by omega)]; exact a1
  rw [a2]
  refine ⟨iv, fun t3 e3 => ?_⟩
  rw [cj] at e1 e2 e3
  refine hK t3 ?_ (fun m => ?_) ?_ ?_ ?_ ?_ ?_ ?_
  · rw [e3, w1_c (by omega)]; exact a2
  · rw [e3, e2, e1]; exact kM_w _ (kM_w _ (kM_w _ (kM_r _ _ _) (by omega)) (by omega)) (by omega)
  · rw [e3, w1_c (by omega), e2, w1_c (by omega), e1, w1_c (by omega)]
  · rw [e3, w1_c (by omega), e2, w1_c (by omega), e1, w1_c (by omega)]
  · rw [e3, w1_c (by omega), e2, w1_c (by omega), e1, w1_c (by omega)]
  · rw [e3, w1_c (by omega), e2, w1_c (by omega), e1, w1_at, if_pos ⟨rfl, rfl⟩]
  · rw [e3, w1_c (by omega), e2, w1_at, if_pos ⟨rfl, rfl⟩]
  · rw [e3, w1_at, if_pos ⟨rfl, rfl⟩]
theorem mC_deed {b : Nat → Int} {n p m w L : Nat} {S : List q_se} {E : q_KF} (hm : m < 400) (hv : q_vS S L m) (hk : q_K b n p = w) (hw : 4 ≤ w ∧ w ≤ 10) (h24 : S.length < 24) (hB : ∀ fl pf, q_xp b n 42 (q_dO b n w (p + 1)) = .inl (fl, pf) → E = q_FB b n fl pf) (hG : ∀ p', q_xp b n 42 (q_dO b n w (p + 1)) = .inr p' → E = q_FG b n p' (m + 1) (S ++ [(w, 0, m, [], q_V b n (p + 1), q_dY b n w (p + 1), q_dZ b n (p + 1))])) : q_mC b n p m S E := by
  intro K0 σ w0 hs hS hE
  refine mC_go (by omega) hk (by omega) h24 (fun z => by omega) hs hS (fun t3 m3 k3 e30 e62 e63 => ⟨fun _ => md_num m3 hw (fun π a1 a2 a3 g gi => ?_), fun q => ?_⟩)
  · cases ho : q_dO b n w (p + 1) with
    | inl xx =>
      rw [ho] at g hB
      obtain ⟨g1, g2, g3, g4⟩ : q_kp t3 π 1000 1000 1000 ∧ π.1 345 19 = xx.1 ∧ 0 < xx.1.toInt ∧ (π.1 345 20).toInt = q_tp b n xx.2 := g
      rw [hB xx.1 xx.2 rfl] at hE
      have nz : ¬ xx.1 = 0 := fun z => by rw [z] at g3; exact absurd g3 (by decide)
      refine md_136 (j := S.length) (by rw [g1.2.1 30 (by unfold q_cs; omega)]; exact e30) h24 (fun t5 c1 c2 c3 c4 c5 c6 c7 c8 => ⟨fun q => k_X12_clause_155 ⟨fun _ => hE t5 ?_ ?_ ?_, fun z => absurd z q⟩, fun q => ?_⟩)
      · exact kM_t (kM_t (kM_le k3 (by omega) (by omega)) (kM_p g1 (by omega))) (kM_le (c2 0) (by omega) (by omega))
      · rw [c1]; exact g2
      · rw [c1]; exact g4
      · rw [c1, g2] at q; exact absurd q nz
    | inr p' =>
      rw [ho] at g gi hB hG
      obtain ⟨g1, g2⟩ : q_ms π b n w p' 0 0 0 4 m ∧ q_kp t3 π 1000 1000 1000 := g
      obtain ⟨y1, y2, y3⟩ := gi ⟨p', rfl⟩
      rw [xp_r] at hB hG
      have n30 : (π.1 345 30).toInt = S.length := by rw [g2.2.1 30 (by unfold q_cs; omega)]; exact e30
      refine md_136 (j := S.length) n30 h24 (fun t5 c1 c2 c3 c4 c5 c6 c7 c8 => ?_)
      have m5 : q_ms t5 b n w p' 0 0 0 4 m := ms_M g1 (fun k _ => by rw [c1]) c3
      have n5 : (t5.1 345 30).toInt = S.length := by rw [c1]; exact n30
      have k5 : q_kM σ t5 S.length m := kM_t (kM_t k3 (kM_p g2 (by omega))) (c2 m)
      refine ⟨fun q => absurd m5.2.2.1 q, fun _ => mq_isSign m5 (c := 42) (by omega) (by decide) (fun q => ⟨fun _ => k_X12_clause_155 ⟨fun z => absurd m5.2.2.1 z, fun _ => ?_⟩, fun z => absurd z z_10⟩) (fun q => ⟨fun z => absurd rfl z, fun _ => mq_errs m5 (fun ρ k2 d1 d2 => k_X12_clause_155 ⟨fun _ => ?_, fun z => ?_⟩)⟩)⟩
      · rw [if_pos (show q_K b n p' = 42 from q)] at hG
        rw [hG (p' + 1) rfl] at hE
        refine e_X12_clauseIsOver (d := 1997) (e_X12_works (d := 1996) (mq_stop m5 (by omega) (Or.inl rfl) (over_t (d := 1995) hm (by omega) m5 n5 (fun ρ2 b2 k2 n2 e8 => hE ρ2 w b2 ?_ (kM_t (kM_le k5 (by omega) (by omega)) (kM_le k2 (by omega) (by omega)))))))
        refine mS_ap hS hv (kM_t k5 (kM_le k2 (by omega) (by omega))) n2 ⟨?_, ?_, fun z => ?_, fun z => ?_, fun z => ?_, fun z => ?_⟩
        · rw [k2.2.2.1 _ (by omega) 362 (by omega) (by omega), c4, g2.1.1 362 (by unfold q_sM; omega)]; exact e62
        · rw [k2.2.2.1 _ (by omega) 363 (by omega) (by omega), c5, g2.1.1 363 (by unfold q_sM; omega)]; exact e63
        · rw [k2.2.2.1 _ (by omega) 364 (by omega) (by omega), c6]; exact y1 z
        · rw [k2.2.2.1 _ (by omega) 365 (by omega) (by omega), c7]; exact y2 z
        · rw [k2.2.2.1 _ (by omega) 366 (by omega) (by omega), c8]; exact y3 z
        · exfalso; have z : w < 4 := z; omega
      · rw [if_neg (show ¬ q_K b n p' = 42 from q)] at hB
        rw [hB 1 p' rfl] at hE
        exact hE ρ (kM_t (kM_le k5 (by omega) (by omega)) (kM_p k2 (by omega))) d1 d2
      · rw [d1] at z; exact absurd z (by decide)
  · rw [z_lt, m3.2.2.2.2.2.2.2.1.1] at q; simp only [Int32.reduceToInt] at q; omega
