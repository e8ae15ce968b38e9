/-! the class: a law's clause, a deed's clause -/
theorem st_3 {σ ρ : x_T} {b : Nat → Int} {n t p L : Nat} {v : Int32} (h : q_st σ b n t p L) (e : ρ = x_w1 σ 319 3 v) (ht : t < 4) : q_st ρ b n t p L ∧ x_fr (q_sR t) σ ρ ∧ (∀ c, ¬ c = 319 → ρ.1 c = σ.1 c) := by
  have f : ∀ c, ¬ c = 319 → ρ.1 c = σ.1 c := fun c hc => by rw [e]; exact w1_c hc
  obtain ⟨n3, T, t1', t2', t3', t4', t5', t6'⟩ := h.1
  refine ⟨⟨⟨n3, T, t1', t2', t3', ?_, ?_, fun i hi => ?_⟩, by rw [e]; exact h.2.1, ?_, ?_, ?_⟩, by rw [e]; exact fr_w (fr_r _ _) (Or.inl rfl), f⟩
  · rw [f 314 (by omega)]; exact t4'
  · rw [f 314 (by omega)]; exact t5'
  · rw [f 316 (by omega), f 317 (by omega), f 318 (by omega)]; exact t6' i hi
  · rw [e, w1_at, if_neg (by omega)]; exact h.2.2.1
  · rw [e, w1_at, if_neg (by omega)]; exact h.2.2.2.1
  · rw [f (140 + 9 * t) (by omega)]; exact h.2.2.2.2
theorem kC_3 {σ ρ : x_T} {t j L W : Nat} (h : x_fr (q_sR t) σ ρ) (f : ∀ c, ¬ c = 319 → ρ.1 c = σ.1 c) (ht : t < 4) : q_kC σ ρ t j L W := ⟨h, fun i _ c a b => by rw [f _ (by omega)], fun i _ => ⟨by rw [f _ (by omega)], by rw [f _ (by omega)]⟩, fun i _ => ⟨by rw [f _ (by omega)], by rw [f _ (by omega)]⟩⟩
theorem cC_lawB {b : Nat → Int} {n t p L w pf : Nat} {fl : Int32} {S : List q_se} (ht : t < 4) (hk : q_K b n p = w) (hw : w < 4) (hno : ∀ (k : Nat) (e : q_se), S[k]? = some e → ¬ e.1 = w) (h24 : S.length < 24) (h : q_Cl b n w t 61 mX6_readSum 0 (p + 1) L (q_cB b n t fl pf)) : q_cC b n t p L S (q_cB b n t fl pf) := by
  intro D σ K hD hs hS hK
  obtain ⟨d, rfl⟩ : ∃ d, D = d + 1 + 1 + 1 := ⟨D - 3, by omega⟩
  refine cC_at ht hs hS hk (by omega) (fun _ => hno) (fun _ a2 t7 ea s7 k7 => ⟨fun q => ?_, fun _ => ⟨kc_ref s7 ht, fun y11 e11 t12 e12 => ?_⟩⟩) (fun q => absurd h24 q)
  · rw [z_le, ea] at q; simp only [Int32.reduceToInt] at q; omega
  · obtain ⟨s12, f12, g12⟩ := st_3 s7 e12 ht
    refine h (d + 1 + 1) t12 0 _ (by omega) (by decide) s12 (by rw [e12, w1_at, if_pos ⟨rfl, rfl⟩]; exact ea) (fun π e => ?_)
    have e' : q_cB b n t fl pf σ π := ⟨fr_t (fr_t (kc_sR k7) f12) e.1, e.2.1, e.2.2.1, e.2.2.2⟩
    have fa := cB_a e' hs ht
    exact ⟨fa_ref fa, fa_law e' fa (fun π e fa => ⟨fa_ref fa, fa_add e fa (fun π e fa => k_X6_readClause_127 (fa_expect fa (hK π e)))⟩)⟩
theorem cC_law {b : Nat → Int} {n t p L w p1 m P : Nat} {c : q_co} {S : List q_se} {E : x_T → x_T → Prop} (ht : t < 4) (hk : q_K b n p = w) (hw : w < 4) (hno : ∀ (k : Nat) (e : q_se), S[k]? = some e → ¬ e.1 = w) (h24 : S.length < 24) (hv : q_vS S L m) (hL : L ≤ 300) (hp1 : p1 ≤ 300) (hc : L + c.length ≤ 300) (h : q_Cl b n w t 61 mX6_readSum 0 (p + 1) L (q_cG b n t L L p1 c)) (h1 : q_K b n p1 = 42 → ∀ σ ρ, q_gC b n t (p1 + 1) (L + c.length) (S ++ [(w, L, P, c, 0, 0, 0)]) σ ρ → E σ ρ) (h0 : ¬ q_K b n p1 = 42 → ∀ σ ρ, q_cB b n t 1 p1 σ ρ → E σ ρ) : q_cC b n t p L S E := by
  intro D σ K hD hs hS hK
  obtain ⟨d, rfl⟩ : ∃ d, D = d + 1 + 1 + 1 := ⟨D - 3, by omega⟩
  refine cC_at ht hs hS hk (by omega) (fun _ => hno) (fun _ a2 t7 ea s7 k7 => ⟨fun q => ?_, fun _ => ⟨kc_ref s7 ht, fun y11 e11 t12 e12 => ?_⟩⟩) (fun q => absurd h24 q)
  · rw [z_le, ea] at q; simp only [Int32.reduceToInt] at q; omega
  · have ey : y11.toInt = L := by rw [e11, s7.2.1]; exact s7.2.2.2.2
    obtain ⟨s12, f12, g12⟩ := st_3 s7 e12 ht
    refine h (d + 1 + 1) t12 0 _ (by omega) (by decide) s12 (by rw [e12, w1_at, if_pos ⟨rfl, rfl⟩]; exact ea) (fun π g => ⟨kc_ref g.1 ht, ca_law ht g.1 ea hw (fun ρ s fr oth l5 l6 => ⟨kc_ref s ht, ?_⟩)⟩)
    have cl : (ρ.1 (140 + 9 * t) 4).toInt = S.length := by rw [fr.1 _ (by omega), g.2.1.2.2.1 4 (by omega), g12 _ (by omega), k7.2.2.1 4 (by omega)]; exact hS.1
    refine ca_add ht s cl h24 (fun ρ2 s2 ka n2 v1 v2 v3 v4 => k_X6_readClause_127 ?_)
    have kC : q_kC σ ρ2 t S.length L w := kC_t (kC_t (kC_t (kC_t (kC_c k7 (by omega)) (kC_3 f12 g12 ht)) (kC_c g.2.1 (Nat.le_refl _))) (kC_l fr oth)) (kC_a ka)
    refine cr_expect s2 ht (by omega) (fun q ρ3 s3 k3 => hK ρ3 (h1 q σ ρ3 ⟨s3, ?_, ?_⟩)) (fun q ρ3 f e1 e2 => hK ρ3 (h0 q σ ρ3 ⟨fr_t kC.1 f, e1, by decide, e2⟩))
    · refine ⟨fr_t kC.1 (kc_sR k3), ?_⟩
      rw [k3.2.1 5 (by omega) (by omega) (by omega), ka.1.1 319 (by omega), fr.1 319 (by omega), g.2.1.2.1 5 (by omega) (by omega) (by omega), e12, w1_at, if_neg (by omega), k7.2.1 5 (by omega) (by omega) (by omega)]
    · have k3' : q_kC ρ2 ρ3 t S.length L w := kC_c k3 (by omega)
      refine cS_ap hS hv (kC_t kC k3') (fun k e he _ => hno k e he) ?_ ⟨?_, fun z => ?_, fun z => ?_, fun z => ?_, fun _ => ⟨?_, ?_, ?_⟩⟩ (fun _ => rfl)
      · rw [k3.2.2.1 4 (by omega)]; exact n2
      · rw [k3.1.1 _ (by omega), v1]; exact ea
      · exfalso; have z : w = 4 ∨ w = 5 ∨ w = 6 ∨ w = 7 ∨ w = 10 := z; omega
      · exfalso; have z : w = 5 ∨ w = 7 := z; omega
      · exfalso; have z : w = 5 := z; omega
      · show (ρ3.1 (140 + 9 * t + 5) w).toInt = L
        rw [k3.1.1 _ (by omega), ka.1.1 _ (by omega), l5]; exact ey
      · show (ρ3.1 (140 + 9 * t + 6) w).toInt = (L + c.length : Nat)
        rw [k3.1.1 _ (by omega), ka.1.1 _ (by omega)]; exact l6
      · have kk : q_kC π ρ3 t S.length (L + c.length) w := kC_t (kC_t (kC_l fr oth) (kC_a ka)) (kC_c k3 (by omega))
        exact cc_C g.2.2 kk (Nat.le_refl _)
theorem cC_deed {b : Nat → Int} {n t p L w m P : Nat} {S : List q_se} {E : x_T → x_T → Prop} (ht : t < 4) (hk : q_K b n p = w) (hw : 4 ≤ w ∧ w ≤ 10) (h24 : S.length < 24) (hv : q_vS S L m) (hL : L ≤ 300) (hB : ∀ fl pf, q_xp b n 42 (q_dO b n w (p + 1)) = .inl (fl, pf) → ∀ σ ρ, q_cB b n t fl pf σ ρ → E σ ρ) (hG : ∀ p', q_xp b n 42 (q_dO b n w (p + 1)) = .inr p' → ∀ (σ ρ : x_T) (x y z : Int), q_dn b n w (p + 1) x y z → (w = 10 → 1 ≤ x ∧ x ≤ 60) → q_gC b n t p' L (S ++ [(w, 0, P, [], q_V b n (p + 1), q_dY b n w (p + 1), q_dZ b n (p + 1))]) σ ρ → E σ ρ) : q_cC b n t p L S E := by
  intro D σ K hD hs hS hK
  obtain ⟨d, rfl⟩ : ∃ d, D = d + 1 + 1 + 1 + 1 := ⟨D - 4, by omega⟩
  have hp : p < n := K_lt (b := b) (n := n) (i := p) (by omega)
  have hn := hs.1.1
  refine cC_at ht hs hS hk (by omega) (fun z => by omega) (fun _ a2 t7 ea s7 k7 => ⟨fun _ => ?_, fun q => ?_⟩) (fun q => absurd h24 q)
  · refine cd_num ht hn hp s7 ea hw (fun π x y z g gi => k_X6_readDeed_149 ?_)
    have pb : q_pb b n (q_dO b n w (p + 1)) := by
      have b0 : q_pb b n (.inr (p + 1)) := hp
      unfold q_dO
      repeat' split
      · exact pb_nu b0
      · exact pb_nu (pb_xp (by decide) (pb_nu (pb_xp (by decide) (pb_nu b0))))
      · exact pb_nu b0
      · exact pb_nu (pb_xp (by decide) (pb_nu b0))
      · exact pb_nu b0
      · exact b0
    cases ho : q_dO b n w (p + 1) with
    | inl xx =>
      rw [ho] at g hB
      have g : q_cB b n t xx.1 xx.2 t7 π := g
      have fa := cB_a g s7 ht
      exact ⟨fa_ref fa, fa_add (cB_k k7 g) fa (fun π e fa => k_X6_readClause_127 (fa_expect fa (hK π (hB xx.1 xx.2 rfl σ π e))))⟩
    | inr p' =>
      rw [ho] at g gi hB hG pb
      obtain ⟨g1, g2⟩ : q_st π b n t p' L ∧ q_kc t7 π t 1000 := g
      have pb : p' ≤ n := pb
      obtain ⟨gn, g60⟩ := gi ⟨p', rfl⟩
      have cl : (π.1 (140 + 9 * t) 4).toInt = S.length := by rw [g2.2.2.1 4 (by omega), k7.2.2.1 4 (by omega)]; exact hS.1
      refine ⟨kc_ref g1 ht, ca_add ht g1 cl h24 (fun ρ2 s2 ka n2 v1 v2 v3 v4 => k_X6_readClause_127 ?_)⟩
      have kC : q_kC σ ρ2 t S.length L 4 := kC_t (kC_t (kC_c k7 (by omega)) (kC_c g2 (by omega))) (kC_a ka)
      rw [xp_r] at hB hG
      refine cr_expect s2 ht (by omega) (fun q ρ3 s3 k3 => ?_) (fun q ρ3 f e1 e2 => ?_)
      · rw [if_pos (show q_K b n p' = 42 from q)] at hG
        refine hK ρ3 (hG (p' + 1) rfl σ ρ3 _ _ _ gn g60 ⟨s3, ⟨fr_t kC.1 (kc_sR k3), by rw [k3.2.1 5 (by omega) (by omega) (by omega), ka.1.1 319 (by omega), g2.2.1 5 (by omega) (by omega) (by omega), k7.2.1 5 (by omega) (by omega) (by omega)]⟩, cS_ap hS hv (kC_t kC (kC_c k3 (by omega))) (fun k e he h4 => by omega) ?_ ⟨?_, fun z => ?_, fun z => ?_, fun z => ?_, fun z => ?_⟩ (fun z => by omega)⟩)
        · rw [k3.2.2.1 4 (by omega)]; exact n2
        · rw [k3.1.1 _ (by omega), v1]; exact ea
        · rw [k3.1.1 _ (by omega), v2]; exact gn.1 z
        · rw [k3.1.1 _ (by omega), v3]; exact gn.2.1 z
        · rw [k3.1.1 _ (by omega), v4]; exact gn.2.2 z
        · exfalso; have z : w < 4 := z; omega
      · rw [if_neg (show ¬ q_K b n p' = 42 from q)] at hB
        exact hK ρ3 (hB 1 p' rfl σ ρ3 ⟨fr_t kC.1 f, e1, by decide, e2⟩)
  · rw [z_le, ea] at q; simp only [Int32.reduceToInt] at q; omega
