/-! what was read so far, on the model's side -/
def q_m1 (σ : x_T) (k : Nat) (e : q_se) : Prop := (σ.1 362 k).toInt = e.1 ∧ (σ.1 363 k).toInt = e.2.2.1 ∧ (e.1 = 4 ∨ e.1 = 5 ∨ e.1 = 6 ∨ e.1 = 7 ∨ e.1 = 10 → (σ.1 364 k).toInt = e.2.2.2.2.1) ∧ (e.1 = 5 ∨ e.1 = 7 → (σ.1 365 k).toInt = e.2.2.2.2.2.1) ∧ (e.1 = 5 → (σ.1 366 k).toInt = e.2.2.2.2.2.2) ∧ (e.1 < 4 → q_cm σ e.2.2.1 e.2.2.1 e.2.2.2.1 ∧ (σ.1 367 (e.2.2.1 + e.2.2.2.1.length)).toInt = 408)
def q_mS (σ : x_T) (S : List q_se) : Prop := (σ.1 345 30).toInt = S.length ∧ ∀ (k : Nat) (e : q_se), S[k]? = some e → q_m1 σ k e
def q_sm (c : Nat) : Prop := c = 345 ∨ (357 ≤ c ∧ c ≤ 368)
def q_kM (σ ρ : x_T) (j m : Nat) : Prop := x_fr q_sm σ ρ ∧ (∀ k, ¬ q_cs k → ¬ k = 30 → ¬ k = 31 → ρ.1 345 k = σ.1 345 k) ∧ (∀ i, i < j → ∀ c, 362 ≤ c → c ≤ 366 → ρ.1 c i = σ.1 c i) ∧ ∀ i, i < m → ρ.1 367 i = σ.1 367 i ∧ ρ.1 368 i = σ.1 368 i
theorem kM_r (σ : x_T) (j m : Nat) : q_kM σ σ j m := ⟨fr_r _ _, fun _ _ _ _ => rfl, fun _ _ _ _ _ => rfl, fun _ _ => ⟨rfl, rfl⟩⟩
theorem kM_t {σ ρ π : x_T} {j m : Nat} (h : q_kM σ ρ j m) (g : q_kM ρ π j m) : q_kM σ π j m := ⟨fr_t h.1 g.1, fun k a b c => (g.2.1 k a b c).trans (h.2.1 k a b c), fun i hi c a b => (g.2.2.1 i hi c a b).trans (h.2.2.1 i hi c a b), fun i hi => ⟨(g.2.2.2 i hi).1.trans (h.2.2.2 i hi).1, (g.2.2.2 i hi).2.trans (h.2.2.2 i hi).2⟩⟩
theorem kM_p {σ ρ : x_T} {f u m' j m : Nat} (h : q_kp σ ρ f u m') (hm : m ≤ m') : q_kM σ ρ j m := ⟨fr_m (fun c hc => by unfold q_sM at hc; unfold q_sm; omega) h.1, fun k a _ _ => h.2.1 k a, fun i _ c a b => by rw [h.1.1 c (by unfold q_sM; omega)], fun i hi => h.2.2.2.2.2 i (by omega)⟩
theorem kM_w {σ ρ : x_T} {j m c k : Nat} (v : Int32) (h : q_kM σ ρ j m) (hk : (c = 345 ∧ (q_cs k ∨ k = 30 ∨ k = 31)) ∨ (362 ≤ c ∧ c ≤ 366 ∧ j ≤ k)) : q_kM σ (x_w1 ρ c k v) j m := by
  obtain ⟨h1, h2, h3, h4⟩ := h
  refine ⟨fr_w h1 (by unfold q_sm; omega), fun i a a2 a3 => ?_, fun i a c' a1 a2 => ?_, fun i a => ⟨?_, ?_⟩⟩
  · rw [w1_at, if_neg (fun q => by unfold q_cs at a hk; omega)]; exact h2 i a a2 a3
  · rw [w1_at, if_neg (by omega)]; exact h3 i a c' a1 a2
  · rw [w1_at, if_neg (by omega)]; exact (h4 i a).1
  · rw [w1_at, if_neg (by omega)]; exact (h4 i a).2
theorem cm_M {σ ρ : x_T} {P j m : Nat} {c : q_co} (h : q_cm σ P P c) (g : q_kM σ ρ j m) (hm : P + c.length ≤ m) : q_cm ρ P P c := by
  intro i x hx
  have hi := co_lt hx
  obtain ⟨g1, g2⟩ := g.2.2.2 (P + i) (by omega)
  rw [g1, g2]
  exact h i x hx
theorem mS_k {σ ρ : x_T} {L m : Nat} {S : List q_se} (h : q_mS σ S) (hv : q_vS S L m) (g : q_kM σ ρ S.length m) : ∀ (k : Nat) (e : q_se), S[k]? = some e → q_m1 ρ k e := by
  intro k e he
  have q := (List.getElem?_eq_some_iff.mp he).1
  obtain ⟨c1, c2, c3, c4, c5, c6⟩ := h.2 k e he
  refine ⟨?_, ?_, fun z => ?_, fun z => ?_, fun z => ?_, fun z => ?_⟩
  · rw [g.2.2.1 k q 362 (by omega) (by omega)]; exact c1
  · rw [g.2.2.1 k q 363 (by omega) (by omega)]; exact c2
  · rw [g.2.2.1 k q 364 (by omega) (by omega)]; exact c3 z
  · rw [g.2.2.1 k q 365 (by omega) (by omega)]; exact c4 z
  · rw [g.2.2.1 k q 366 (by omega) (by omega)]; exact c5 z
  · obtain ⟨d1, d2⟩ := c6 z
    have hb := ((hv.2.1 k e he).2.2.2 z).2.2.1
    refine ⟨cm_M d1 g (by omega), ?_⟩
    rw [(g.2.2.2 _ hb).1]; exact d2
theorem mS_ap {σ ρ : x_T} {L m : Nat} {S : List q_se} {e : q_se} (h : q_mS σ S) (hv : q_vS S L m) (g : q_kM σ ρ S.length m) (hn : (ρ.1 345 30).toInt = (S.length + 1 : Nat)) (he : q_m1 ρ S.length e) : q_mS ρ (S ++ [e]) := by
  refine ⟨by rw [hn, List.length_append]; rfl, fun k e' hk => ?_⟩
  rcases ap_i hk with ⟨q, hk'⟩ | ⟨rfl, rfl⟩
  · exact mS_k h hv g k e' hk'
  · exact he
theorem mq_told {d w : Nat} {v : Int32} {S : List q_se} {σ : x_T} {K : x_T → Int32 → Prop} (hS : q_mS σ S) (h24 : S.length ≤ 24) (hv : v.toInt = w) (h1 : (∃ (k : Nat) (e : q_se), S[k]? = some e ∧ e.1 = w) → K σ 1) (h0 : (∀ (k : Nat) (e : q_se), S[k]? = some e → ¬ e.1 = w) → K σ 0) : x_CI d mX12_wasTold [.ref 345, .int v] σ K := by
  have z : ∀ k, k ≤ S.length → ∀ v2 : Int32, (v2 = 0 ∧ ∀ (k' : Nat) (e : q_se), k' < k → S[k']? = some e → ¬ e.1 = w) ∨ (v2 = 1 ∧ ∃ (k : Nat) (e : q_se), S[k]? = some e ∧ e.1 = w) → x_WI d mX12_wasTold K 4 [(0, .ref 345), (1, .int v), (2, .int v2), (3, .int (nI k))] [] σ := by
    refine z_down (P := fun k => ∀ v2 : Int32, (v2 = 0 ∧ ∀ (k' : Nat) (e : q_se), k' < k → S[k']? = some e → ¬ e.1 = w) ∨ (v2 = 1 ∧ ∃ (k : Nat) (e : q_se), S[k]? = some e ∧ e.1 = w) → x_WI d mX12_wasTold K 4 [(0, .ref 345), (1, .int v), (2, .int v2), (3, .int (nI k))] [] σ) ?_ ?_
    · intro v2 hv2
      refine k_X12_wasTold_4 ⟨fun _ => ?_, fun q => ?_⟩
      · rcases hv2 with ⟨rfl, g⟩ | ⟨rfl, g⟩
        · exact ⟨rfl, h0 (fun k e he => g k e (List.getElem?_eq_some_iff.mp he).1 he)⟩
        · exact ⟨rfl, h1 g⟩
      · rw [z_le, hS.1, nI_toInt (by omega)] at q; omega
    · intro k hk ih v2 hv2
      have nx : ∀ s0 : Int32, (s0 = 0 ∧ ∀ (k' : Nat) (e : q_se), k' < k + 1 → S[k']? = some e → ¬ e.1 = w) ∨ (s0 = 1 ∧ ∃ (k : Nat) (e : q_se), S[k]? = some e ∧ e.1 = w) → x_WI d mX12_wasTold K 31 [(0, .ref 345), (1, .int v), (3, .int (nI k))] [.int s0] σ := fun s0 hs => k_X12_wasTold_31 (fun y1 e1 => by
        have : y1 = nI (k + 1) := z_eq.mpr (by rw [e1, z_add (by rw [nI_toInt (by omega)]; simp only [Int32.reduceToInt]; omega), nI_toInt (by omega), nI_toInt (by omega)]; simp only [Int32.reduceToInt]; omega)
        rw [this]; exact ih s0 hs)
      obtain ⟨e, he⟩ : ∃ e, S[k]? = some e := ⟨S[k], List.getElem?_eq_getElem hk⟩
      have hw := (hS.2 k e he).1
      have ck : (nI k).toNatClampNeg = k := by rw [z_cl, nI_toInt (by omega)]; omega
      refine k_X12_wasTold_4 ⟨fun q => ?_, fun _ => ⟨fun q => k_X12_wasTold_26 (nx 1 (Or.inr ⟨rfl, ?_⟩)), fun q => ⟨ix_n (by rw [nI_toInt (by omega)]; omega), fun q2 => nx 0 (Or.inl ⟨rfl, fun k' e' hk' he' => ?_⟩), fun q2 => k_X12_wasTold_26 (nx 1 (Or.inr ⟨rfl, k, e, he, ?_⟩))⟩⟩⟩
      · rw [z_le, hS.1, nI_toInt (by omega)] at q; omega
      · rcases hv2 with ⟨a, _⟩ | ⟨_, g⟩
        · exact absurd a q
        · exact g
      · by_cases ek : k' = k
        · subst ek
          rw [ck, z_eq, hw, hv] at q2
          rw [he] at he'
          cases he'
          omega
        · rcases hv2 with ⟨_, g⟩ | ⟨a, _⟩
          · exact g k' e' (by omega) he'
          · rw [a] at q; exact absurd q (by decide)
      · rw [ck, z_eq, hw, hv] at q2; omega
  exact e_X12_wasTold (z 0 (Nat.zero_le _) 0 (Or.inl ⟨rfl, fun k' e h => by omega⟩))
