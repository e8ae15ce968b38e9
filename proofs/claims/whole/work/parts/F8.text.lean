/-! text -/
theorem ru_j {w : Nat} {U : Nat → List Bool} {e i : Nat} {o v : Int} (h : q_ru w U e i o v) (ho : o = 404 ∨ o = 409) : 0 ≤ v ∧ v ≤ e := by
  rcases h with ⟨h1, _⟩ | ⟨h1, _⟩ | ⟨h1, _⟩ | ⟨h1, _⟩ | ⟨h1, r, j, h2, h3, h4, h5, h6, h7⟩ | ⟨h1, j, h2, h3, h4, h5⟩ | ⟨h1, _⟩ | ⟨h1, _⟩ | ⟨h1, _⟩ <;> omega
/-- a text of before stays -/
theorem text_fr2 {τ σ : x_T} {t' t : Nat} (ht : t' < t) (h : j_text τ t') (g : ∀ c, 140 + 9 * t' ≤ c → c ≤ 140 + 9 * t' + 8 → σ.1 c = τ.1 c) (g9 : σ.1 349 t' = τ.1 349 t') (g0 : ∀ c, 350 ≤ c → c ≤ 354 → ∀ k, k < 24 * t → σ.1 c k = τ.1 c k) (g5 : ∀ k, k < 400 * t → σ.1 355 k = τ.1 355 k ∧ σ.1 356 k = τ.1 356 k) : j_text σ t' := by
  obtain ⟨n, hn, h1, h2, h3, h4⟩ := h
  have k0 : ∀ c, 350 ≤ c → c ≤ 354 → ∀ k, k < n → σ.1 c (24 * t' + k) = τ.1 c (24 * t' + k) := fun c a b k hk => g0 c a b _ (by omega)
  refine ⟨n, hn, by rw [g _ (by omega) (by omega)]; exact h1, by rw [g9]; exact h2, fun k hk => ?_, fun w hw => ?_⟩
  · obtain ⟨a1, a2, a3, a4⟩ := h3 k hk
    unfold j_num at a4 ⊢
    rw [g (140 + 9 * t' + 1) (by omega) (by omega), g (140 + 9 * t' + 2) (by omega) (by omega), g (140 + 9 * t' + 3) (by omega) (by omega), g (140 + 9 * t' + 4) (by omega) (by omega), k0 350 (by omega) (by omega) k hk, k0 352 (by omega) (by omega) k hk, k0 353 (by omega) (by omega) k hk, k0 354 (by omega) (by omega) k hk]
    exact ⟨a1, a2, a3, a4⟩
  · rcases h4 w hw with ⟨b1, b2⟩ | ⟨k, P, hk, c1, c2, c3, F, N, O, V, T, d1, d2, d3, d4, d5, d6, d7, d8⟩
    · refine Or.inl ⟨by rw [g (140 + 9 * t' + 6) (by omega) (by omega), g (140 + 9 * t' + 5) (by omega) (by omega)]; exact b1, fun k hk => by rw [k0 350 (by omega) (by omega) k hk]; exact b2 k hk⟩
    · refine Or.inr ⟨k, P, hk, by rw [k0 350 (by omega) (by omega) k hk]; exact c1, fun k' hk' => by rw [k0 350 (by omega) (by omega) k' hk']; exact c2 k' hk', by rw [k0 351 (by omega) (by omega) k hk]; exact c3, F, N, O, V, T, by rw [g (140 + 9 * t' + 5) (by omega) (by omega)]; exact d1, by rw [g (140 + 9 * t' + 6) (by omega) (by omega)]; exact d2, d3, d4, d5, d6, fun i hi => ?_, ?_⟩
      · have e := g5 (P + i) (by omega)
        rw [e.1, e.2, g (140 + 9 * t' + 7) (by omega) (by omega), g (140 + 9 * t' + 8) (by omega) (by omega)]
        exact d7 i hi
      · rw [(g5 (P + N) (by omega)).1]; exact d8
theorem cS_fr {ρ σ : x_T} {t : Nat} {S : List q_se} (h : q_cS ρ t S) (g : ∀ c, 140 + 9 * t ≤ c → c ≤ 140 + 9 * t + 8 → σ.1 c = ρ.1 c) : q_cS σ t S := by
  unfold q_cS q_c1 q_cc at h ⊢
  rw [g (140 + 9 * t) (by omega) (by omega), g (140 + 9 * t + 1) (by omega) (by omega), g (140 + 9 * t + 2) (by omega) (by omega), g (140 + 9 * t + 3) (by omega) (by omega), g (140 + 9 * t + 4) (by omega) (by omega), g (140 + 9 * t + 5) (by omega) (by omega), g (140 + 9 * t + 6) (by omega) (by omega), g (140 + 9 * t + 7) (by omega) (by omega), g (140 + 9 * t + 8) (by omega) (by omega)]
  exact h
/-- the new text -/
theorem text_new {ρ σ : x_T} {t L m : Nat} {S : List q_se} {v1 : Int32} (ht : t < 4) (hv : v1.toInt = t) (hc : q_cS ρ t S) (hS : q_vS S L m) (hL : L ≤ 300) (hm : m ≤ 300) (hM : q_mS σ S) (h9 : ρ.1 349 t = σ.1 345 30) (h1 : ∀ i, i < S.length → ρ.1 350 (24 * t + i) = σ.1 362 i ∧ ρ.1 351 (24 * t + i) = 400 * v1 + σ.1 363 i ∧ ρ.1 352 (24 * t + i) = σ.1 364 i ∧ ρ.1 353 (24 * t + i) = σ.1 365 i ∧ ρ.1 354 (24 * t + i) = σ.1 366 i) (h2 : ∀ i, i < m → ρ.1 355 (400 * t + i) = σ.1 367 i ∧ ρ.1 356 (400 * t + i) = σ.1 368 i + (if σ.1 367 i = 404 ∨ σ.1 367 i = 409 then 400 * v1 else 0)) : j_text ρ t := by
  obtain ⟨s1, s2, s3⟩ := hS
  have getS : ∀ k, k < S.length → ∃ e, S[k]? = some e := fun k hk => ⟨S[k], List.getElem?_eq_getElem hk⟩
  have lt : ∀ (k : Nat) (e : q_se), S[k]? = some e → k < S.length := fun k e h => (List.getElem?_eq_some_iff.mp h).1
  have kd : ∀ (k : Nat) (e : q_se), S[k]? = some e → (ρ.1 350 (24 * t + k)).toInt = e.1 := fun k e h => by rw [(h1 k (lt k e h)).1]; exact (hM.2 k e h).1
  have hmu : ((400 : Int32) * v1).toInt = 400 * (t : Int) := by rw [z_mul (by rw [hv]; simp only [Int32.reduceToInt]; omega), hv]; simp only [Int32.reduceToInt]
  refine ⟨S.length, s1, hc.1, by rw [h9]; exact hM.1, fun k hk => ?_, fun w hw => ?_⟩
  · obtain ⟨e, he⟩ := getS k hk
    obtain ⟨c1, c2, c3, c4, c5⟩ := hc.2.1 k e he
    obtain ⟨m1, m2, m3, m4, m5, m6⟩ := hM.2 k e he
    obtain ⟨y1, y2, y3, y4⟩ := s2 k e he
    obtain ⟨g1, g2, g3, g4, g5⟩ := h1 k hk
    rw [kd k e he]
    refine ⟨c1, by omega, by omega, ?_⟩
    unfold j_num
    rw [g3, g4, g5]
    refine ⟨fun z => ?_, fun z => ?_, fun z => ?_, fun z => ?_⟩
    · have z' : e.1 = 4 ∨ e.1 = 5 ∨ e.1 = 6 ∨ e.1 = 7 ∨ e.1 = 10 := by omega
      rw [c2 z', m3 z']
    · have z' : e.1 = 5 ∨ e.1 = 7 := by omega
      rw [c3 z', m4 z']
    · have z' : e.1 = 5 := by omega
      rw [c4 z', m5 z']
    · have z' : e.1 = 10 := by omega
      rw [m3 (by omega)]
      exact y2 z'
  · by_cases ex : ∃ (k : Nat) (e : q_se), S[k]? = some e ∧ e.1 = w
    · obtain ⟨k, e, he, hew⟩ := ex
      have hk := lt k e he
      obtain ⟨c1, c2, c3, c4, c5⟩ := hc.2.1 k e he
      obtain ⟨m1, m2, m3, m4, m5, m6⟩ := hM.2 k e he
      obtain ⟨y1, y2, y3, y4⟩ := s2 k e he
      subst hew
      obtain ⟨f1, f2, f3⟩ := c5 hw
      obtain ⟨p1, p2⟩ := m6 hw
      obtain ⟨x1, x2, x3, U, u1, u2, u3, u4⟩ := y4 hw
      have getC : ∀ i, i < e.2.2.2.1.length → e.2.2.2.1[i]? = some (e.2.2.2.1.getD i (0, 0)) := fun i hi => by
        rw [List.getD_eq_getElem?_getD, List.getElem?_eq_getElem hi]; rfl
      have ru : ∀ i, i < e.2.2.2.1.length → q_ru e.1 U e.2.2.2.1.length i (e.2.2.2.1.getD i (0, 0)).1 (e.2.2.2.1.getD i (0, 0)).2 := fun i hi => by
        have := u4 i _ (getC i hi)
        rw [Nat.zero_add, Nat.zero_add] at this
        exact this
      refine Or.inr ⟨k, 400 * t + e.2.2.1, hk, kd k e he, fun k' hk' z => ?_, ?_, e.2.1, e.2.2.2.1.length, fun i => (e.2.2.2.1.getD i (0, 0)).1, fun i => (e.2.2.2.1.getD i (0, 0)).2, U, f1, ?_, by omega, by omega, by omega, ⟨u1, ?_, fun i hi => ?_, fun i hi => ru i hi⟩, fun i hi => ?_, ?_⟩
      · obtain ⟨e', he'⟩ := getS k' hk'
        rw [kd k' e' he'] at z
        exact (s3 k k' e e' he he' hw (by omega)).symm
      · rw [(h1 k hk).2.1, z_add (by rw [hmu, m2]; omega), hmu, m2]; omega
      · rw [f2]; omega
      · rw [Nat.zero_add] at u2; exact u2
      · exact Nat.le_trans (u3 i (by omega) (by omega)) (by omega)
      · obtain ⟨q1, q2⟩ := p1 i _ (getC i hi)
        obtain ⟨r1, r2⟩ := f3 i _ (getC i hi)
        obtain ⟨a1, a2⟩ := h2 (e.2.2.1 + i) (by omega)
        rw [Nat.add_assoc, a1, a2]
        refine ⟨q1, ⟨fun z => ?_, fun z => ?_⟩, r1, r2⟩
        · have z : (e.2.2.2.1.getD i (0, 0)).1 = 400 ∨ (e.2.2.2.1.getD i (0, 0)).1 = 401 := z
          rw [if_neg (fun y => ?_), Int32.add_zero]
          · exact q2.1 z
          · rw [z_eq, z_eq, q1] at y
            simp only [Int32.reduceToInt] at y
            omega
        · have z : (e.2.2.2.1.getD i (0, 0)).1 = 404 ∨ (e.2.2.2.1.getD i (0, 0)).1 = 409 := z
          have bj := ru_j (ru i hi) z
          have q3 := q2.2 z
          rw [if_pos (by rw [z_eq, z_eq, q1]; simp only [Int32.reduceToInt]; exact z), z_add (by rw [hmu, q3]; omega), hmu, q3]
          show (_ : Int) = _ + (e.2.2.2.1.getD i (0, 0)).2
          omega
      · rw [Nat.add_assoc, (h2 (e.2.2.1 + e.2.2.2.1.length) (by omega)).1]; exact p2
    · refine Or.inl ⟨hc.2.2 w hw (fun k e h z => ex ⟨k, e, h, z⟩), fun k hk z => ?_⟩
      obtain ⟨e, he⟩ := getS k hk
      rw [kd k e he] at z
      exact ex ⟨k, e, he, by omega⟩
/-- the tie behind a text -/
theorem J_tx {τ ρ : x_T} {t t2 : Nat} (h : x_J τ) (ht : j_A τ 2 = t) (h12 : t ≤ t2) (h24 : t2 ≤ 4) (ga : ∀ c, (1 ≤ c ∧ c ≤ 138) ∨ (176 ≤ c ∧ c ≤ 313) ∨ c = 315 ∨ c = 347 ∨ c = 348 → ρ.1 c = τ.1 c) (g0 : ∀ k, ¬ k = 4 → ρ.1 0 k = τ.1 0 k) (g04 : (ρ.1 0 4).toInt = t2) (g6 : ∀ k, ¬ k = 2 → ρ.1 346 k = τ.1 346 k) (g62 : (ρ.1 346 2).toInt = t2) (gr : ρ.2.2.2 = τ.2.2.2) (z1 : ρ.1 314 1 = 0) (z2 : ρ.1 345 3 = 0) (f4 : ρ.1 319 4 = ρ.1 345 4) (f5 : ρ.1 319 5 = ρ.1 345 5) (tx : ∀ t' : Nat, t' < t2 → j_text ρ t') : x_J ρ := by
  obtain ⟨k1, k2, k3, k4, k5, k6⟩ := h
  have eI : j_I ρ = j_I τ := by funext k; unfold j_I; rw [ga 347 (by omega)]
  have eA : ∀ k, ¬ k = 2 → j_A ρ k = j_A τ k := fun k hk => by unfold j_A; rw [g6 k hk]
  have e2 : j_A ρ 2 = t2 := g62
  refine ⟨?_, ?_, ?_, ?_, ⟨f4, f5⟩, fun t' h' => tx t' (by omega)⟩
  · exact hf_cg2 (fun k _ h2 _ => (eA k h2).symm) (hf_fr k1 (fun c hc => ga c (by omega)))
  · rw [eI]; exact hf_fr k2 (fun c hc => ga c (by omega))
  · obtain ⟨⟨a1, a2, a3, a4⟩, ⟨b1, b2, b3, b4, b5, b6, b7, b8⟩, r⟩ := k3
    have e3 := eA 3 (by omega)
    refine ⟨⟨by rw [g04, e2], by rw [g0 5 (by omega), e3]; exact a2, by rw [g0 9 (by omega), eI]; exact a3, by rw [g0 10 (by omega), eI]; exact a4⟩, ?_, by rw [gr, e3]; exact r⟩
    rw [e2, e3, eI]
    refine ⟨by omega, by omega, by omega, by omega, by omega, by omega, by omega, by omega⟩
  · exact ⟨by rw [z1, z2], by rw [z2]; decide, by rw [z2]; decide, fun k hk => by rw [ga 315 (by omega), ga 348 (by omega)]; exact k4.2.2.2 k hk⟩
theorem q_text {τ : x_T} (h : x_J τ) : x_CI 2000 mX11_text [.ref 0] τ (fun τ1 u => x_CI 2000 mX12_text [.ref 345] τ1 (fun τ2 v => u = v ∧ x_J τ2)) := by
  obtain ⟨j1, j2, j3, j4, j5, j6⟩ := id h
  obtain ⟨⟨m1, m2, m3, m4⟩, ⟨n1, n2, n3, n4, n5, n6, n7, n8⟩, mr⟩ := id j3
  obtain ⟨t, ht⟩ : ∃ t : Nat, j_A τ 2 = t := ⟨(j_A τ 2).toNat, by omega⟩
  have h04 : (τ.1 0 4).toInt = t := by rw [m1, ht]
  have h462 : (τ.1 346 2).toInt = t := ht
  by_cases h4 : t < 4
  · obtain ⟨p1, p2, p3, p4⟩ := j4
    obtain ⟨n, hn⟩ : ∃ n : Nat, (τ.1 345 3).toInt = n := ⟨(τ.1 345 3).toInt.toNat, by omega⟩
    obtain ⟨b, hb0⟩ : ∃ b : Nat → Int, ∀ k, b k = (τ.1 315 k).toInt := ⟨fun k => (τ.1 315 k).toInt, fun _ => rfl⟩
    have hb : q_cb τ b n := ⟨by rw [p1, hn], by omega, fun k hk => by
      have a1 := (p4 k hk).1
      refine ⟨(hb0 k).symm, ?_, ?_⟩ <;> rw [hb0 k] <;> omega⟩
    have hbm : ∀ k, k < 300 → (τ.1 348 k).toInt = q_sx (b k) ∧ 0 ≤ b k ∧ b k < 256 := by
      intro k hk
      obtain ⟨a1, a2, a3⟩ := p4 k hk
      have a0 := hb0 k
      unfold q_sx
      refine ⟨?_, by omega, by omega⟩
      split <;> omega
    have ct : (τ.1 0 4).toNatClampNeg = t := by rw [z_cl, h04]; omega
    have e462 : ¬ τ.1 346 2 = 4 := fun z => by
      rw [z_eq, h462] at z; simp only [Int32.reduceToInt] at z; omega
    have start : ∀ E : x_T → x_T → Prop, q_cR b n t 0 0 [] E → (∀ σ ρ : x_T, σ.2.2 = (140 + 9 * t, τ.2.2.2) → (∀ c, ¬ q_sR t c → ¬ q_sK c → σ.1 c = τ.1 c) → σ.1 319 5 = -1 → q_st σ b n t 0 0 → E σ ρ → ∀ t4, t4 = x_w1 ρ 314 1 0 → ((t4.1 319 4 = 0 → ∀ t5, t5 = x_w1 t4 0 4 ((t4.1 0 4) + 1) → x_CI 2000 mX12_text [.ref 345] t5 (fun τ2 v => ((t5.1 0 4) - 1) = v ∧ x_J τ2)) ∧ (¬ t4.1 319 4 = 0 → x_CI 2000 mX12_text [.ref 345] t4 (fun τ2 v => (-1) = v ∧ x_J τ2)))) → x_CI 2000 mX11_text [.ref 0] τ (fun τ1 u => x_CI 2000 mX12_text [.ref 345] τ1 (fun τ2 v => u = v ∧ x_J τ2)) := by
      intro E hR hK
      refine e_X11_text ⟨fun q => ?_, fun _ => ⟨fun _ => ⟨ix_n (by omega), fun c1 e1 => ?_⟩, fun q => ?_⟩⟩
      · rw [z_lt, h04] at q; simp only [Int32.reduceToInt] at q; omega
      · rw [ct] at e1
        have e1' : c1 = 140 + 9 * t := by omega
        subst e1'
        exact ⟨shd_140 h4, cs_read h4 hb hR (fun σ ρ a1 a2 a3 a4 a5 => hK σ ρ a1 a2 a3 a4 a5)⟩
      · exact absurd (by rw [z_lt, h04]; simp only [Int32.reduceToInt]; omega) q
    rcases cl_all (b := b) (n := n) (t := t) h4 (by omega) n 0 0 0 [] (by omega) (by omega) (by omega) (by omega) ⟨by simp, fun k e h => by simp at h, fun k k' e e' h => by simp at h⟩ with ⟨fl, pf, c1, mm⟩ | ⟨L', m', S', c1, mm, vS, b1, b2⟩
    · refine start _ c1 (fun σ ρ r a s5 st e t4 e4 => ⟨fun q => ?_, fun _ => ?_⟩)
      · exfalso
        rw [e4, w1_c (by omega), e.2.1] at q
        have := e.2.2.1
        rw [q] at this
        exact absurd this (by decide)
      · have gc : ∀ c, ¬ q_sR t c → ¬ q_sK c → t4.1 c = τ.1 c := fun c h1 h2 => by rw [e4, w1_c (by unfold q_sK at h2; omega), e.1.1 c h1, a c h1 h2]
        have gr : t4.2.2.2 = τ.2.2.2 := by rw [e4]; show ρ.2.2.2 = _; rw [e.1.2, r]
        have nR : ∀ c, c < 140 ∨ 176 ≤ c → ¬ c = 319 → ¬ q_sR t c := fun c h1 h2 => by unfold q_sR; omega
        have nK : ∀ c, c < 314 ∨ c = 315 ∨ 319 ≤ c → ¬ q_sK c := fun c h1 => by unfold q_sK; omega
        refine ms_text (n := n) (b := b) ?_ ?_ (by omega) ?_ mm (fun σ2 f2 z3 ρ2 k2 e19 e20 => ?_)
        · rw [gc 346 (nR _ (by omega) (by omega)) (nK _ (by omega))]; exact e462
        · rw [gc 345 (nR _ (by omega) (by omega)) (nK _ (by omega))]; exact hn
        · rw [gc 348 (nR _ (by omega) (by omega)) (nK _ (by omega))]; exact hbm
        · have flp := e.2.2.1
          refine k_X12_text_74 ⟨fun _ => k_X12_text_167 (fun u1 d1 u2 d2 => ⟨fun q => ?_, fun _ => ⟨rfl, ?_⟩⟩), fun q => ?_⟩
          · exfalso
            rw [d2, w1_at, if_neg (by omega), d1, w1_at, if_neg (by omega), e19, z_le] at q
            simp only [Int32.reduceToInt] at q
            omega
          · have g2 : ∀ c, ¬ q_sm c → u2.1 c = t4.1 c := fun c hc => by
              have hc5 : ¬ c = 345 := by unfold q_sm at hc; omega
              rw [d2, w1_c hc5, d1, w1_c hc5, k2.1.1 c hc, f2.1 c hc5]
            have nm : ∀ c, (c < 345 ∨ (346 ≤ c ∧ c ≤ 356)) → ¬ q_sm c := fun c hc => by unfold q_sm; omega
            have gg : ∀ c, c < 140 ∨ (176 ≤ c ∧ c ≤ 313) ∨ c = 315 ∨ (346 ≤ c ∧ c ≤ 356) → u2.1 c = τ.1 c := fun c hc => (g2 c (nm c (by omega))).trans (gc c (nR c (by omega) (by omega)) (nK c (by omega)))
            refine J_tx (t2 := t) h ht (Nat.le_refl _) (by omega) (fun c hc => gg c (by omega)) (fun k _ => by rw [gg 0 (by omega)]) (by rw [gg 0 (by omega)]; exact h04) (fun k _ => by rw [gg 346 (by omega)]) (by rw [gg 346 (by omega)]; exact h462) ?_ ?_ ?_ ?_ ?_ (fun t' ht' => ?_)
            · rw [d2, d1]; show ρ2.2.2.2 = _; rw [k2.1.2, f2.2]; exact gr
            · rw [g2 314 (nm _ (by omega)), e4, w1_at, if_pos ⟨rfl, rfl⟩]
            · rw [d2, w1_at, if_neg (by omega), d1, w1_at, if_neg (by omega), k2.2.1 3 (by unfold q_cs; omega) (by omega) (by omega)]; exact z3
            · rw [g2 319 (nm _ (by omega)), e4, w1_c (by omega), e.2.1, d2, w1_at, if_neg (by omega), d1, w1_at, if_pos ⟨rfl, rfl⟩, e19]
            · rw [z_eq, g2 319 (nm _ (by omega)), e4, w1_c (by omega), e.2.2.2, d2, w1_at, if_pos ⟨rfl, rfl⟩, d1, w1_at, if_neg (by omega), e20]
            · refine text_fr2 ht' (j6 t' (by omega)) (fun c h1 h2 => ?_) (by rw [gg 349 (by omega)]) (fun c h1 h2 k _ => by rw [gg c (by omega)]) (fun k _ => ⟨by rw [gg 355 (by omega)], by rw [gg 356 (by omega)]⟩)
              rw [g2 c (nm c (by omega)), gc c (by unfold q_sR; omega) (nK c (by omega))]
          · exact absurd (e19.symm.trans q) (fun z => by rw [z] at flp; exact absurd flp (by decide))
    · refine start _ c1 (fun σ ρ r a s5 st e t4 e4 => ⟨fun _ t5 e5 => ?_, fun q => ?_⟩)
      · have gc : ∀ c, ¬ q_sR t c → ¬ q_sK c → ¬ c = 0 → t5.1 c = τ.1 c := fun c h1 h2 h3 => by rw [e5, w1_c h3, e4, w1_c (by unfold q_sK at h2; omega), e.1.1 c h1, a c h1 h2]
        have gp : ∀ c, ¬ c = 0 → ¬ c = 314 → t5.1 c = ρ.1 c := fun c h1 h2 => by rw [e5, w1_c h1, e4, w1_c h2]
        have gr : t5.2.2.2 = τ.2.2.2 := by rw [e5, e4]; show ρ.2.2.2 = _; rw [e.1.2, r]
        have nR : ∀ c, c < 140 ∨ 176 ≤ c → ¬ c = 319 → ¬ q_sR t c := fun c h1 h2 => by unfold q_sR; omega
        have nK : ∀ c, c < 314 ∨ c = 315 ∨ 319 ≤ c → ¬ q_sK c := fun c h1 => by unfold q_sK; omega
        have t40 : t4.1 0 = τ.1 0 := by rw [e4, w1_c (by omega), e.1.1 0 (nR _ (by omega) (by omega)), a 0 (nR _ (by omega) (by omega)) (nK _ (by omega))]
        have t50 : (t5.1 0 4).toInt = (t + 1 : Nat) := by
          rw [e5, w1_at, if_pos ⟨rfl, rfl⟩, t40, z_add (by rw [h04]; simp only [Int32.reduceToInt]; omega), h04]; simp only [Int32.reduceToInt]; omega
        refine ms_text (n := n) (b := b) ?_ ?_ (by omega) ?_ mm (fun σ2 f2 z3 ρ2 k2 e19 e20 e37 mS => ?_)
        · rw [gc 346 (nR _ (by omega) (by omega)) (nK _ (by omega)) (by omega)]; exact e462
        · rw [gc 345 (nR _ (by omega) (by omega)) (nK _ (by omega)) (by omega)]; exact hn
        · rw [gc 348 (nR _ (by omega) (by omega)) (nK _ (by omega)) (by omega)]; exact hbm
        · refine k_X12_text_167 (fun u1 d1 u2 d2 => ⟨fun _ y3 ey => ?_, fun q => ?_⟩)
          · have g2 : ∀ c, ¬ q_sm c → u2.1 c = t5.1 c := fun c hc => by
              have hc5 : ¬ c = 345 := by unfold q_sm at hc; omega
              rw [d2, w1_c hc5, d1, w1_c hc5, k2.1.1 c hc, f2.1 c hc5]
            have nm : ∀ c, (c < 345 ∨ (346 ≤ c ∧ c ≤ 356)) → ¬ q_sm c := fun c hc => by unfold q_sm; omega
            have hy : y3.toInt = t := by rw [ey, g2 346 (nm _ (by omega)), gc 346 (nR _ (by omega) (by omega)) (nK _ (by omega)) (by omega)]; exact h462
            have cy : y3.toNatClampNeg = t := by rw [z_cl, hy]; omega
            refine ⟨ix_n (by omega), fun u4 d4 => ?_⟩
            rw [cy] at d4
            have u45 : ∀ k, ¬ k = 4 → ¬ k = 5 → u4.1 345 k = ρ2.1 345 k := fun k h1 h2 => by rw [d4, w1_c (by omega), d2, w1_at, if_neg (by omega), d1, w1_at, if_neg (by omega)]
            have u4m : ∀ c, 357 ≤ c → u4.1 c = ρ2.1 c := fun c hc => by rw [d4, w1_c (by omega), d2, w1_c (by omega), d1, w1_c (by omega)]
            have gu : ∀ c, ¬ q_sm c → ¬ c = 349 → u4.1 c = t5.1 c := fun c hc h9 => by rw [d4, w1_c h9]; exact g2 c hc
            have hl := vS.1
            refine ml_c1 h4 hy hl (by rw [u45 30 (by omega) (by omega)]; exact mS.1) (fun ρ3 l1 => ml_c2 h4 hy (m := m') (by omega) (by rw [l1.1.1 345 (by omega), u45 37 (by omega) (by omega)]; exact e37) (fun ρ4 l2 w1 dw => ⟨?_, ?_⟩))
            · rw [z_eq, hy, z_sub (by rw [t50]; simp only [Int32.reduceToInt]; omega), t50]; simp only [Int32.reduceToInt]; omega
            · have gw : ∀ c, c < 346 ∨ c = 347 ∨ c = 348 ∨ c = 349 → w1.1 c = u4.1 c := fun c hc => by rw [dw, w1_c (by omega), l2.1.1 c (by omega), l1.1.1 c (by omega)]
              have ga : ∀ c, (1 ≤ c ∧ c < 140) ∨ (176 ≤ c ∧ c ≤ 313) ∨ c = 315 ∨ c = 347 ∨ c = 348 → w1.1 c = τ.1 c := fun c hc => by
                rw [gw c (by omega), gu c (nm c (by omega)) (by omega), gc c (nR c (by omega) (by omega)) (nK c (by omega)) (by omega)]
              have g346 : ρ4.1 346 = τ.1 346 := by rw [l2.1.1 346 (by omega), l1.1.1 346 (by omega), gu 346 (nm _ (by omega)) (by omega), gc 346 (nR _ (by omega) (by omega)) (nK _ (by omega)) (by omega)]
              have w0 : w1.1 0 = t5.1 0 := by rw [gw 0 (by omega), gu 0 (nm _ (by omega)) (by omega)]
              have u4t : ∀ c, 350 ≤ c → c ≤ 356 → u4.1 c = τ.1 c := fun c h1 h2 => by rw [gu c (nm c (by omega)) (by omega), gc c (nR c (by omega) (by omega)) (nK c (by omega)) (by omega)]
              refine J_tx (t2 := t + 1) h ht (by omega) (by omega) (fun c hc => ga c (by omega)) (fun k hk => ?_) (by rw [w0]; exact t50) (fun k hk => ?_) ?_ ?_ ?_ ?_ ?_ ?_ (fun t' ht' => ?_)
              · rw [w0, e5, w1_at, if_neg (by omega), t40]
              · rw [dw, w1_at, if_neg (by omega), g346]
              · rw [dw, w1_at, if_pos ⟨rfl, rfl⟩, g346, z_add (by rw [h462]; simp only [Int32.reduceToInt]; omega), h462]; simp only [Int32.reduceToInt]; omega
              · rw [dw]; show ρ4.2.2.2 = _; rw [l2.1.2, l1.1.2, d4, d2, d1]; show ρ2.2.2.2 = _; rw [k2.1.2, f2.2]; exact gr
              · rw [gw 314 (by omega), gu 314 (nm _ (by omega)) (by omega), e5, w1_c (by omega), e4, w1_at, if_pos ⟨rfl, rfl⟩]
              · rw [gw 345 (by omega), u45 3 (by omega) (by omega), k2.2.1 3 (by unfold q_cs; omega) (by omega) (by omega)]; exact z3
              · rw [gw 319 (by omega), gu 319 (nm _ (by omega)) (by omega), gp 319 (by omega) (by omega), e.2.1, gw 345 (by omega), d4, w1_c (by omega), d2, w1_at, if_neg (by omega), d1, w1_at, if_pos ⟨rfl, rfl⟩, e19]
              · rw [gw 319 (by omega), gu 319 (nm _ (by omega)) (by omega), gp 319 (by omega) (by omega), e.2.2.1, s5, gw 345 (by omega), d4, w1_c (by omega), d2, w1_at, if_pos ⟨rfl, rfl⟩, d1, w1_at, if_neg (by omega), e20]
              · by_cases qt : t' = t
                · subst qt
                  refine text_new (σ := ρ2) h4 hy (cS_fr e.2.2.2 (fun c h1 h2 => ?_)) vS b1 b2 mS ?_ (fun i hi => ?_) (fun i hi => ?_)
                  · rw [gw c (by omega), gu c (nm c (by omega)) (by omega), gp c (by omega) (by omega)]
                  · rw [gw 349 (by omega), d4, w1_at, if_pos ⟨rfl, rfl⟩, d2, w1_at, if_neg (by omega), d1, w1_at, if_neg (by omega)]
                  · have o := l1.2.2 i hi
                    rw [u4m 362 (by omega), u4m 363 (by omega), u4m 364 (by omega), u4m 365 (by omega), u4m 366 (by omega)] at o
                    have gx : ∀ c, 350 ≤ c → c ≤ 354 → w1.1 c = ρ3.1 c := fun c h1 h2 => by rw [dw, w1_c (by omega), l2.1.1 c (by omega)]
                    rw [gx 350 (by omega) (by omega), gx 351 (by omega) (by omega), gx 352 (by omega) (by omega), gx 353 (by omega) (by omega), gx 354 (by omega) (by omega)]
                    exact o
                  · have o := l2.2.2 i hi
                    rw [l1.1.1 367 (by omega), l1.1.1 368 (by omega), u4m 367 (by omega), u4m 368 (by omega)] at o
                    rw [dw, w1_c (by omega), w1_c (by omega)]
                    exact o
                · have qt' : t' < t := by omega
                  refine text_fr2 qt' (j6 t' (by omega)) (fun c h1 h2 => ?_) ?_ (fun c h1 h2 k hk => ?_) (fun k hk => ?_)
                  · rw [gw c (by omega), gu c (nm c (by omega)) (by omega), gc c (by unfold q_sR; omega) (nK c (by omega)) (by omega)]
                  · rw [gw 349 (by omega), d4, w1_at, if_neg (by omega), g2 349 (nm _ (by omega)), gc 349 (nR _ (by omega) (by omega)) (nK _ (by omega)) (by omega)]
                  · rw [dw, w1_c (by omega), l2.1.1 c (by omega), l1.2.1 c h1 h2 k hk, u4t c (by omega) (by omega)]
                  · obtain ⟨o1, o2⟩ := l2.2.1 k hk
                    rw [dw, w1_c (by omega), w1_c (by omega), o1, o2, l1.1.1 355 (by omega), l1.1.1 356 (by omega), u4t 355 (by omega) (by omega), u4t 356 (by omega) (by omega)]
                    exact ⟨rfl, rfl⟩
          · exfalso
            rw [d2, w1_at, if_neg (by omega), d1, w1_at, if_neg (by omega), e19] at q
            exact absurd (by decide) q
      · exact absurd (by rw [e4, w1_c (by omega)]; exact e.2.1) q
  · have e4 : τ.1 346 2 = 4 := z_eq.mpr (by rw [h462]; simp only [Int32.reduceToInt]; omega)
    refine e_X11_text ⟨fun q => ?_, fun _ => ⟨fun q => ?_, fun _ => e_X12_text ⟨fun q => absurd e4 q, fun _ => ⟨rfl, h⟩⟩⟩⟩
    · rw [z_lt, h04] at q; simp only [Int32.reduceToInt] at q; omega
    · rw [z_lt, h04] at q; simp only [Int32.reduceToInt] at q; omega
