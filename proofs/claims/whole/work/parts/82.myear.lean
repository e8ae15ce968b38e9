theorem bk_set {e : Nat → Int} {i : Nat} (hi : i < 8) (p v : Int) : ∀ k, z_bk (z_set e (7 + i) v) i p k = z_set (z_bk e i p) (7 + i) v k := by
  have h23 : z_set e (7 + i) v 23 = e 23 := by rw [z_set_e, if_neg (by omega)]
  have h5 : z_set e (7 + i) v 5 = e 5 := by rw [z_set_e, if_neg (by omega)]
  have hb : z_bn (z_set e (7 + i) v) = z_bn e := by rw [z_bn, z_bn, h23]
  have hs : ∀ k, z_bs (z_set e (7 + i) v) k = z_set (z_bs e) (7 + i) v k := by
    intro k
    unfold z_bs
    rw [h23]
    by_cases q : e 23 = 30
    · rw [if_pos q, if_pos q]
      simp only [z_set]
      grind
    · rw [if_neg q, if_neg q]
  intro k
  unfold z_bk
  rw [hb, h5]
  simp only [z_set_e, hs]
  grind
theorem ml_minutePasses {d : Nat} {τ : x_T} {A e : Nat → Int} {L : x_L} {K : x_T → Int32 → Prop} (mc : x_mc τ A L) (wA : w_A A) (he : x_md τ e) (wD : w_D A e) (h : ∀ (σ : x_T) (u : Int32), x_fr x_sW τ σ → x_md σ (z_pd A L e) → u.toInt = z_pc A L e → K σ u) : x_CI (d + 1 + 1 + 1 + 1 + 1) mX12_minutePasses [.ref 345] τ K := by
  have w0 := wA.1
  have w5 := wD.2.2.2.2.2.1
  have e2 : (τ.1 370 2).toInt = e 2 := he 2 (by omega)
  obtain ⟨N, hN⟩ : ∃ N : Nat, A 0 = N := ⟨(A 0).toNat, by omega⟩
  have hNt : (A 0).toNat = N := by omega
  have bc : ∀ k : Nat, 0 ≤ z_fc A L (z_roll A L e) k ∧ z_fc A L (z_roll A L e) k ≤ k := by
    intro k
    induction k with
    | zero => simp [z_fc]
    | succ k ih => rw [z_fc]; split <;> omega
  have wr := wD_roll wA wD L
  have loop : ∀ k, k ≤ N → (fun k => ∀ (ρ : x_T) (v : Int32), x_fr x_sW τ ρ → x_md ρ (z_fd A L (z_roll A L e) k) → v.toInt = z_fc A L (z_roll A L e) k → x_WI (d + 1 + 1 + 1 + 1 + 1) mX12_minutePasses K 17 [(0, .ref 345), (1, .int v), (2, .int (nI k))] [] ρ) k := by
    refine z_down ?_ ?_
    · intro ρ v fρ gρ hv
      have c0 := (mc_fr mc fρ sW_mc).1 0 (by omega) (by omega)
      refine k_X12_minutePasses_17 ⟨fun _ t1 e1 => ?_, fun q => ?_⟩
      · subst e1
        refine h _ _ (fr_w fρ (Or.inl rfl)) ?_ (by rw [hv, z_pc, hNt])
        rw [z_pd, hNt]
        refine md_w gρ ?_
        have e5 : (ρ.1 370 5).toInt = _ := gρ 5 (by omega)
        rw [z_fd_lt (by omega), z_roll_5] at e5
        rw [z_add (by rw [e5]; simp only [Int32.reduceToInt]; omega), e5, z_fd_lt (by omega), z_roll_5]
        rfl
      · exfalso; apply q; rw [z_le, c0, z_n (by omega)]; omega
    · intro k hk ih ρ v fρ gρ hv
      have mcρ := mc_fr mc fρ sW_mc
      have c0 := mcρ.1 0 (by omega) (by omega)
      have hb := bc k
      have hk8 : k < 8 := by omega
      have hs1 : nI k + 1 = nI (k + 1) := (nI_succ k).symm
      generalize hg : z_fd A L (z_roll A L e) k = g at gρ
      have wg : w_D A g := by rw [← hg]; exact wD_fd wr L k (by omega)
      have hfc : z_fc A L (z_roll A L e) (k + 1) = z_fc A L (z_roll A L e) k + if z_dt A L g k = true then 1 else 0 := by rw [← hg]; rfl
      have hfd : z_fd A L (z_roll A L e) (k + 1) = z_fall A L g k := by rw [← hg]; rfl
      have wg0 := wg.1
      have wg7 := wg.2.2.2.2.2.2.2.1 k hk8
      have wg15 := wg.2.2.2.2.2.2.2.2.1 k hk8
      have zk : (nI k).toInt = k := z_n (by omega)
      have c7 : (7 : Int32) + nI k = nI (7 + k) := n_add 7 k
      have c15 : (15 : Int32) + nI k = nI (15 + k) := n_add 15 k
      have q7 : (ρ.1 370 (7 + k)).toInt = g (7 + k) := gρ _ (by omega)
      have b1 := z_earn_b A L g k
      have bp := z_hd_b (v := g (7 + k) + z_earn A L g k) (lo := -999) (hi := 9999) (by omega)
      refine k_X12_minutePasses_17 ⟨fun q => ?_, fun _ => ?_⟩
      · rw [z_le, c0, z_n (by omega)] at q; omega
      rw [c7, nI_clamp (by omega)]
      have last : ∀ (ρ2 : x_T) (y : Int32) (g2 : Nat → Int), x_fr x_sW τ ρ2 → x_md ρ2 g2 → y.toInt = z_fc A L (z_roll A L e) (k + 1) → g2 0 = g 0 → g2 (15 + k) = g (15 + k) → (∀ j, j < 114 → z_set g2 (15 + k) (z_pl A g k) j = z_fall A L g k j) → x_WI (d + 1 + 1 + 1 + 1 + 1) mX12_minutePasses K 87 [(0, .ref 345), (1, .int y), (2, .int (nI k))] [] ρ2 := by
        intro ρ2 y g2 f2 m2 hy h0 h15 heq
        have mc2 := mc_fr mc f2 sW_mc
        have r0 : (ρ2.1 370 0).toInt = g 0 := (m2 0 (by omega)).trans h0
        have r15 : (ρ2.1 370 (15 + k)).toInt = g (15 + k) := (m2 _ (by omega)).trans h15
        have fin : ∀ u : Int32, u.toInt = z_pl A g k → x_WI (d + 1 + 1 + 1 + 1 + 1) mX12_minutePasses K 145 [(0, .ref 345), (1, .int y), (2, .int (nI k))] [.int u, .int (nI (15 + k)), .ref 370] ρ2 := by
          intro u hu
          refine k_X12_minutePasses_145 ⟨vp_in_nI (by omega) (by decide), fun t1 e1 y2 e2 => ?_⟩
          rw [e2, hs1]
          rw [nI_clamp (by omega)] at e1
          subst e1
          refine ih _ y (fr_w f2 (Or.inl rfl)) ?_ hy
          rw [hfd]
          exact md_cg (md_w m2 hu) heq
        refine k_X12_minutePasses_87 (ml_hourAt wA mc2.2.1 (by omega) (by omega) (fun u hu => ?_))
        rw [r0, zk] at hu
        rw [c15, nI_clamp (by omega)]
        refine ⟨fun q => ⟨vp_in_nI (by omega) (by decide), fun r => ⟨vp_in_nI (by omega) (by decide), fin _ ?_⟩, fun r => fin _ ?_⟩, fun q => fin _ ?_⟩
        · rw [z_eq, hu] at q; simp only [Int32.reduceToInt] at q
          rw [z_eq, r15] at r
          simp only [Int32.reduceToInt] at r
          rw [z_add (by rw [r15]; simp only [Int32.reduceToInt]; omega), r15, z_pl, if_neg q]
          simp only [Int32.reduceToInt]; omega
        · rw [z_eq, hu] at q; simp only [Int32.reduceToInt] at q
          rw [z_eq, r15] at r
          simp only [Int32.reduceToInt] at r
          rw [z_pl, if_neg q]
          simp only [Int32.reduceToInt]; omega
        · rw [z_eq, hu] at q; simp only [Int32.reduceToInt] at q
          rw [z_pl, if_pos q]; rfl
      refine ⟨vp_in_nI (by omega) (by decide), fun y2 ey2 => ml_earnsOf mcρ wA gρ zk (by omega) (by omega) wg (fun σ u f hu => m_held (by decide) (fun u2 hu2 => ?_))⟩
      have hy2 : y2.toInt = g (7 + k) := by rw [ey2, q7]
      have hp : u2.toInt = z_pu A L g k := by
        rw [hu2, l_i, z_add (by omega), hy2, hu]; rfl
      have fσ : x_fr x_sW τ σ := fr_t fρ (fr_m sN_sW f)
      have gσ := md_sN gρ f
      refine ⟨vp_in_nI (by omega) (by decide), fun t7 e7 => ?_⟩
      have g7 := md_w gσ (k := 7 + k) hp
      have f7 := fr_w (c := 370) (k := 7 + k) (v := u2) fσ (Or.inl rfl)
      rw [← e7] at g7 f7
      have p7 : (t7.1 370 (7 + k)).toInt = z_pu A L g k := by
        have := g7 (7 + k) (by omega)
        rw [z_set_e, if_pos rfl] at this
        exact this
      have s0 : z_set g (7 + k) (z_pu A L g k) 0 = g 0 := by rw [z_set_e, if_neg (by omega)]
      have s15 : z_set g (7 + k) (z_pu A L g k) (15 + k) = g (15 + k) := by rw [z_set_e, if_neg (by omega)]
      have no : z_dt A L g k = false → x_WI (d + 1 + 1 + 1 + 1 + 1) mX12_minutePasses K 87 [(0, .ref 345), (1, .int v), (2, .int (nI k))] [] t7 := by
        intro hf
        refine last t7 v _ f7 g7 (by rw [hfc, hf, hv]; simp) s0 s15 (fun j hj => ?_)
        rw [z_fall, hf]
        rfl
      refine ⟨vp_in_nI (by omega) (by decide), fun q => no ?_, fun q => ⟨fun r => no ?_, fun r => ml_writes g7 (wD_7 wg hk8 bp) zk hk8 (fun σ2 f2 g2 y10 e10 => ?_)⟩⟩
      · rw [z_le, p7] at q; simp only [Int32.reduceToInt] at q
        rw [z_dt, decide_eq_false (by omega)]
      · rw [z_lt, hy2] at r; simp only [Int32.reduceToInt] at r
        rw [z_dt, decide_eq_false (by omega)]
      · rw [z_le, p7] at q; simp only [Int32.reduceToInt] at q
        rw [z_lt, hy2] at r; simp only [Int32.reduceToInt] at r
        have ht : z_dt A L g k = true := by rw [z_dt, decide_eq_true (by omega)]
        have s7 : z_set g (7 + k) (z_pu A L g k) (7 + k) = z_pu A L g k := by rw [z_set_e, if_pos rfl]
        rw [s7] at g2
        refine last σ2 y10 _ (fr_t f7 f2) g2 (by rw [hfc, ht, e10, z_add (by rw [hv]; simp only [Int32.reduceToInt]; omega), hv]; rfl) ?_ ?_ (fun j hj => ?_)
        · rw [bk_set hk8, z_set_e, if_neg (by omega), z_bk_lt (by omega)]
        · rw [bk_set hk8, z_set_e, if_neg (by omega), z_bk_lt (by omega)]
        · rw [z_fall, ht, z_set_e, z_set_e, bk_set hk8]; rfl
  refine e_X12_minutePasses ⟨fun q => k_X12_minutePasses_15 ?_, fun q => ml_rolls mc wA he wD ?_ (fun σ f g => k_X12_minutePasses_15 ?_)⟩
  · rw [z_le, e2] at q; simp only [Int32.reduceToInt] at q
    exact loop 0 (by omega) τ 0 (fr_r _ _) (by rw [z_fd, z_roll, if_pos q]; exact he) rfl
  · rw [z_le, e2] at q; simp only [Int32.reduceToInt] at q; omega
  · exact loop 0 (by omega) σ 0 f g rfl
theorem ml_happens {d : Nat} {τ : x_T} {A e : Nat → Int} {L : x_L} {K : x_T → Prop} (mc : x_mc τ A L) (wA : w_A A) (he : x_md τ e) (wD : w_D A e) (hn : 0 < A 0) (h : ∀ (σ : x_T), x_fr x_sW τ σ → x_md σ (z_hap A L e) → K σ) : x_CV (d + 1 + 1 + 1 + 1 + 1 + 1) mX12_happens [.ref 345] τ K := by
  have w0 := wA.1
  refine e_X12_happens (ml_draw he wD (by decide) (fun σ1 u f1 g1 hu => ?_))
  simp only [Int32.reduceToInt] at hu
  have mc1 := mc_fr mc f1 sW_mc
  have w1 := wD_dx wD
  have c0 := mc1.1 0 (by omega) (by omega)
  have c1 := mc1.1 1 (by omega) (by omega)
  have q2 : (σ1.1 370 2).toInt = z_dx e 2 := g1 2 (by omega)
  have q5 : (σ1.1 370 5).toInt = z_dx e 5 := g1 5 (by omega)
  have off : (u = 0 ∨ u = 1) → (σ1.1 346 1 ≤ 0 → K σ1) ∧ (¬ σ1.1 346 1 ≤ 0 → x_CI (d + 1 + 1 + 1 + 1 + 1) mX12_draw [.ref 345, .int (σ1.1 346 0)] σ1 (fun t3 a4 => x_CI (d + 1 + 1 + 1 + 1 + 1) mX12_draw [.ref 345, .int (t3.1 346 1)] t3 (fun t5 a6 => x_CI (d + 1 + 1 + 1 + 1 + 1) mX12_canPush [.ref 345, .int a4, .int a6] t5 (fun t7 a8 => (a8 = 0 → K t7) ∧ (¬ a8 = 0 → x_CV (d + 1 + 1 + 1 + 1 + 1) mX12_pushes [.ref 345, .int a4, .int a6] t7 (fun t9 => K t9)))))) := by
    intro q
    have hz : z_hap A L e = z_ho A L (z_dx e) := by
      rw [z_hap, if_pos]
      rcases q with q | q
      · rw [z_eq, hu] at q; simp only [Int32.reduceToInt] at q; exact Or.inl q
      · rw [z_eq, hu] at q; simp only [Int32.reduceToInt] at q; exact Or.inr q
    rw [hz] at h
    refine ⟨fun r => h _ f1 ?_, fun r => ?_⟩
    · rw [z_le, c1] at r; simp only [Int32.reduceToInt] at r
      rw [z_ho, if_pos (by omega)]; exact g1
    · rw [z_le, c1] at r; simp only [Int32.reduceToInt] at r
      refine ml_draw g1 w1 (by omega) (fun σ2 u2 f2 g2 h2 => ?_)
      have mc2 := mc_fr mc1 f2 sW_mc
      have c21 := mc2.1 1 (by omega) (by omega)
      refine ml_draw g2 (wD_dx w1) (by omega) (fun σ3 u3 f3 g3 h3 => ?_)
      have mc3 := mc_fr mc2 f3 sW_mc
      rw [c0] at h2
      rw [c21] at h3
      refine ml_canPush mc3.1 wA g3 (wD_dx (wD_dx w1)) (fun hc => ⟨fun q => absurd q z_10, fun _ => ml_pushes mc3 wA g3 (wD_dx (wD_dx w1)) hc (fun σ4 f4 g4 => h _ (fr_t f1 (fr_t f2 (fr_t f3 f4))) ?_)⟩) (fun hc => ⟨fun _ => h _ (fr_t f1 (fr_t f2 f3)) ?_, fun q => absurd rfl q⟩)
      · rw [h2, h3] at hc g4
        rw [z_ho, if_neg (by omega), if_pos (z_cb_i.mpr hc)]; exact g4
      · rw [h2, h3] at hc
        rw [z_ho, if_neg (by omega), if_neg (fun z => hc (z_cb_i.mp z))]; exact g3
  refine ⟨fun q => off (Or.inl q), fun q0 => ⟨fun q => off (Or.inr q), fun q1 => ⟨fun q => ⟨fun r => h _ f1 ?_, fun r => ml_tips g1 w1 (fun σ2 f2 g2 => h _ (fr_t f1 f2) ?_)⟩, fun qq => ⟨fun q t9 e9 => ?_, fun q3 => e_X12_canPass ⟨fun r => ⟨fun _ => h _ f1 ?_, fun s => absurd rfl s⟩, fun r => ⟨fun s => absurd s z_10, fun _ => ml_minutePasses mc1 wA g1 w1 (fun σ2 u2 f2 g2 _ => h _ (fr_t f1 f2) ?_)⟩⟩⟩⟩⟩⟩
  · rw [z_eq, hu] at q; simp only [Int32.reduceToInt] at q
    rw [z_le, q2] at r; simp only [Int32.reduceToInt] at r
    rw [z_hap, if_neg (by omega), if_pos q, if_pos r]; exact g1
  · rw [z_eq, hu] at q; simp only [Int32.reduceToInt] at q
    rw [z_le, q2] at r; simp only [Int32.reduceToInt] at r
    rw [z_hap, if_neg (by omega), if_pos q, if_neg r]; exact g2
  · rw [z_eq, hu] at q; simp only [Int32.reduceToInt] at q
    subst e9
    refine h _ (fr_w f1 (Or.inl rfl)) ?_
    rw [z_hap, if_neg (by omega), if_neg (by omega), if_pos q]
    exact md_w g1 (by decide)
  · rw [z_eq, hu] at q0 q1 qq q3; simp only [Int32.reduceToInt] at q0 q1 qq q3
    rw [z_le, q5] at r; simp only [Int32.reduceToInt] at r
    rw [z_hap, if_neg (by omega), if_neg qq, if_neg q3, if_pos r]; exact g1
  · rw [z_eq, hu] at q0 q1 qq q3; simp only [Int32.reduceToInt] at q0 q1 qq q3
    rw [z_le, q5] at r; simp only [Int32.reduceToInt] at r
    rw [z_hap, if_neg (by omega), if_neg qq, if_neg q3, if_neg r]; exact g2
