/-! a clause, read by both; and all clauses -/
theorem vS_ap {S : List q_se} {L m L' m' : Nat} {e : q_se} (hv : q_vS S L m) (h24 : S.length < 24) (hL : L ≤ L') (hm : m ≤ m') (he : q_v1 L' m' e) (hno : e.1 < 4 → ∀ (k : Nat) (e' : q_se), S[k]? = some e' → ¬ e'.1 = e.1) : q_vS (S ++ [e]) L' m' := by
  refine ⟨by rw [List.length_append]; simp only [List.length_cons, List.length_nil]; omega, fun k e' hk => ?_, fun k k' e1 e2 h1 h2 h4 h5 => ?_⟩
  · rcases ap_i hk with ⟨q, hk'⟩ | ⟨rfl, rfl⟩
    · obtain ⟨a1, a2, a3, a4⟩ := hv.2.1 k e' hk'
      exact ⟨a1, a2, by omega, fun z => by obtain ⟨b1, b2, b3, b4⟩ := a4 z; exact ⟨b1, by omega, by omega, b4⟩⟩
    · exact he
  · rcases ap_i h1 with ⟨q1, k1⟩ | ⟨r1, r2⟩
    · rcases ap_i h2 with ⟨q2, k2⟩ | ⟨s1, s2⟩
      · exact hv.2.2 k k' e1 e2 k1 k2 h4 h5
      · subst s2
        exact absurd h5 (hno (by omega) k e1 k1)
    · rcases ap_i h2 with ⟨q2, k2⟩ | ⟨s1, s2⟩
      · subst r2
        exact absurd h5.symm (hno h4 k' e2 k2)
      · omega
theorem nu_p {b : Nat → Int} {n p' : Nat} {lo hi : Int} {o : q_oc} (h : q_nu b n lo hi o = .inr p') : ∃ p, o = .inr p ∧ p' = p + 1 ∧ q_K b n p = 45 ∧ lo ≤ q_V b n p ∧ q_V b n p ≤ hi := by
  cases o with
  | inl x => exact absurd h (by intro z; cases z)
  | inr p =>
    rw [nu_r] at h
    by_cases q : q_K b n p = 45
    · rw [if_pos q] at h
      by_cases q2 : lo ≤ q_V b n p ∧ q_V b n p ≤ hi
      · rw [if_pos q2] at h
        cases h
        exact ⟨p, rfl, rfl, q, q2.1, q2.2⟩
      · rw [if_neg q2] at h; cases h
    · rw [if_neg q] at h; cases h
theorem xp_p {b : Nat → Int} {n p' : Nat} {kc : Int} {o : q_oc} (h : q_xp b n kc o = .inr p') : ∃ p, o = .inr p ∧ p' = p + 1 ∧ q_K b n p = kc := by
  cases o with
  | inl x => exact absurd h (by intro z; cases z)
  | inr p =>
    rw [xp_r] at h
    by_cases q : q_K b n p = kc
    · rw [if_pos q] at h
      cases h
      exact ⟨p, rfl, rfl, q⟩
    · rw [if_neg q] at h; cases h
theorem dO_p {b : Nat → Int} {n w p p' : Nat} (h : q_dO b n w p = .inr p') : p ≤ p' ∧ (w = 10 → 1 ≤ q_V b n p ∧ q_V b n p ≤ 60) := by
  unfold q_dO at h
  by_cases h4 : w = 4
  · rw [if_pos h4] at h
    obtain ⟨r, e, e2, _⟩ := nu_p h
    cases e
    exact ⟨by omega, fun z => by omega⟩
  rw [if_neg h4] at h
  by_cases h5 : w = 5
  · rw [if_pos h5] at h
    obtain ⟨r, e, e2, _⟩ := nu_p h
    obtain ⟨r1, f, f2, _⟩ := xp_p e
    obtain ⟨r2, g, g2, _⟩ := nu_p f
    obtain ⟨r3, i, i2, _⟩ := xp_p g
    obtain ⟨r4, j, j2, _⟩ := nu_p i
    cases j
    exact ⟨by omega, fun z => by omega⟩
  rw [if_neg h5] at h
  by_cases h6 : w = 6
  · rw [if_pos h6] at h
    obtain ⟨r, e, e2, _⟩ := nu_p h
    cases e
    exact ⟨by omega, fun z => by omega⟩
  rw [if_neg h6] at h
  by_cases h7 : w = 7
  · rw [if_pos h7] at h
    obtain ⟨r, e, e2, _⟩ := nu_p h
    obtain ⟨r1, f, f2, _⟩ := xp_p e
    obtain ⟨r2, g, g2, _⟩ := nu_p f
    cases g
    exact ⟨by omega, fun z => by omega⟩
  rw [if_neg h7] at h
  by_cases h10 : w = 10
  · rw [if_pos h10] at h
    obtain ⟨r, e, e2, e3, e4, e5⟩ := nu_p h
    cases e
    exact ⟨by omega, fun _ => ⟨e4, e5⟩⟩
  rw [if_neg h10] at h
  cases h
  exact ⟨Nat.le_refl _, fun z => absurd z h10⟩
theorem cl_step {b : Nat → Int} {n t p L m : Nat} {S : List q_se} (ht : t < 4) (hn : n ≤ 300) (hL : L ≤ p) (hm : m ≤ p) (hv : q_vS S L m) (h46 : ¬ q_K b n p = 46) : (∃ (fl : Int32) (pf : Nat), q_cC b n t p L S (q_cB b n t fl pf) ∧ q_mC b n p m S (q_FB b n fl pf)) ∨ (∃ (p' L' m' : Nat) (e : q_se), q_cC b n t p L S (q_gC b n t p' L' (S ++ [e])) ∧ q_mC b n p m S (q_FG b n p' m' (S ++ [e])) ∧ q_vS (S ++ [e]) L' m' ∧ p < p' ∧ p' ≤ n ∧ L' ≤ p' ∧ m' ≤ p') := by
  have hp : p < n := K_lt h46
  have hb := K_b b n p
  by_cases h10 : q_K b n p ≤ 10
  · obtain ⟨w, hw⟩ : ∃ w : Nat, q_K b n p = w := ⟨(q_K b n p).toNat, by omega⟩
    by_cases h4 : w < 4
    · by_cases ht4 : ∃ (k : Nat) (e : q_se), S[k]? = some e ∧ e.1 = w
      · obtain ⟨k, e, h1, h2⟩ := ht4
        exact Or.inl ⟨4, p, cC_4 ht hw h4 hv h1 h2, mC_4 hw h4 hv.1 h1 h2⟩
      · have hno : ∀ (k : Nat) (e : q_se), S[k]? = some e → ¬ e.1 = w := fun k e h1 h2 => ht4 ⟨k, e, h1, h2⟩
        by_cases h24 : S.length < 24
        · rcases law_all (b := b) (n := n) (w := w) (t := t) (F := L) (P := m) (p := p + 1) ht h4 hn (by omega) (by omega) with ⟨fl, pf, s1, s2⟩ | ⟨p1, c, s1, s2, s3, s4⟩
          · exact Or.inl ⟨fl, pf, cC_lawB ht hw h4 hno h24 s1, mC_lawB (by omega) hw h4 h24 hno s2⟩
          · obtain ⟨j1, j2, j3, j4, j5⟩ := s3
            by_cases h42 : q_K b n p1 = 42
            · have hp1 : p1 < n := K_lt (b := b) (n := n) (i := p1) (by omega)
              refine Or.inr ⟨p1 + 1, L + c.length, m + c.length + 1, (w, L, m, c, 0, 0, 0), cC_law ht hw h4 hno h24 hv (by omega) (by omega) (by omega) s1 (fun _ _ _ g => g) (fun q => absurd h42 q), mC_law (L := L) (by omega) hv hw h4 h24 hno s4 s2 (fun _ => rfl) (fun q => absurd h42 q), vS_ap hv h24 (by omega) (by omega) ⟨?_, fun z => ?_, ?_, fun _ => ⟨j3, Nat.le_refl _, ?_, j5⟩⟩ (fun _ => hno), by omega, by omega, by omega, by omega⟩
              · show w ≤ 10; omega
              · exfalso; have z : w = 10 := z; omega
              · show m < m + c.length + 1; omega
              · show m + c.length < m + c.length + 1; omega
            · exact Or.inl ⟨1, p1, cC_law (P := m) ht hw h4 hno h24 hv (by omega) (by omega) (by omega) s1 (fun q => absurd q h42) (fun _ _ _ g => g), mC_law (L := L) (by omega) hv hw h4 h24 hno s4 s2 (fun q => absurd q h42) (fun _ => rfl)⟩
        · exact Or.inl ⟨6, p, cC_6 ht hw (by omega) (fun _ => hno) h24, mC_6 hw (by omega) hv.1 (fun _ => hno) h24⟩
    · by_cases h24 : S.length < 24
      · cases ho : q_xp b n 42 (q_dO b n w (p + 1)) with
        | inl xx =>
          refine Or.inl ⟨xx.1, xx.2, cC_deed (P := m) ht hw (by omega) h24 hv (by omega) (fun fl pf e σ ρ g => ?_) (fun p' e => ?_), mC_deed (L := L) (by omega) hv hw (by omega) h24 (fun fl pf e => ?_) (fun p' e => ?_)⟩
          · rw [ho] at e; cases e; exact g
          · rw [ho] at e; cases e
          · rw [ho] at e; cases e; rfl
          · rw [ho] at e; cases e
        | inr p' =>
          obtain ⟨r, e1, e2, e3⟩ := xp_p ho
          obtain ⟨d1, d2⟩ := dO_p e1
          have hr : r < n := K_lt (b := b) (n := n) (i := r) (by omega)
          refine Or.inr ⟨p', L, m + 1, (w, 0, m, [], q_V b n (p + 1), q_dY b n w (p + 1), q_dZ b n (p + 1)), cC_deed (P := m) ht hw (by omega) h24 hv (by omega) (fun fl pf e => ?_) (fun p2 e σ ρ _ _ _ _ _ g => ?_), mC_deed (L := L) (by omega) hv hw (by omega) h24 (fun fl pf e => ?_) (fun p2 e => ?_), vS_ap hv h24 (Nat.le_refl _) (by omega) ⟨?_, fun z => d2 z, ?_, fun z => ?_⟩ (fun z => ?_), by omega, by omega, by omega, by omega⟩
          · rw [ho] at e; cases e
          · rw [ho] at e; cases e; exact g
          · rw [ho] at e; cases e
          · rw [ho] at e; cases e; rfl
          · show w ≤ 10; omega
          · show m < m + 1; omega
          · exact absurd z h4
          · exact absurd z h4
      · exact Or.inl ⟨6, p, cC_6 ht hw (by omega) (fun z => absurd z h4) h24, mC_6 hw (by omega) hv.1 (fun z => absurd z h4) h24⟩
  · exact Or.inl ⟨1, p, cC_1 ht h10, mC_1 h46 h10⟩
