/-! what is asked of all houses -/
def z_first (P : Nat → Bool) : Nat → Nat → Int
  | 0, _ => -1
  | f + 1, k => if P k = true then (k : Int) else z_first P f (k + 1)
/-- votes -/
def z_vs (A : Nat → Int) (i j : Nat) : Nat → Int
  | 0 => 0
  | h + 1 => z_vs A i j h + (if z_W A h i < z_W A h j ∨ (z_W A h i = z_W A h j ∧ i < j) then 1 else -1)
def z_bt (A : Nat → Int) (i j : Nat) : Bool := decide (0 < z_vs A i j (A 0).toNat)
theorem vs_b (A : Nat → Int) (i j : Nat) : ∀ h : Nat, -(h : Int) ≤ z_vs A i j h ∧ z_vs A i j h ≤ h := by
  intro h
  induction h with
  | zero => simp [z_vs]
  | succ h ih => rw [z_vs]; split <;> omega
theorem far_W {A : Nat → Int} {i j : Nat} (hi : (i : Int) < A 0) (hj : (j : Int) < A 0) : z_far A i j = z_W A i j := by
  unfold z_far
  rw [if_pos (by omega)]
  rfl
theorem cl_beats {d i j : Nat} {a b : Int32} {τ : x_T} {A : Nat → Int} {K : x_T → Int32 → Prop} (hc : x_cl 1 τ A) (wA : w_A A) (ha : a.toInt = i) (hb : b.toInt = j) (hi : (i : Int) < A 0) (hj : (j : Int) < A 0) (h1 : z_bt A i j = true → K τ 1) (h0 : z_bt A i j = false → K τ 0) : x_CI (d + 1) mX0_beats [.ref 339, .int a, .int b] τ K := by
  have w0 := wA.1
  have c0 := hc.1
  obtain ⟨N, hN⟩ : ∃ N : Nat, A 0 = N := ⟨(A 0).toNat, by omega⟩
  have hNt : (A 0).toNat = N := by omega
  refine e_X0_beats ?_
  have loop : ∀ k, k ≤ N → (fun k => ∀ (v : Int32), v.toInt = z_vs A i j k → x_WI (d + 1) mX0_beats K 5 [(0, .ref 339), (1, .int a), (2, .int b), (3, .int v), (4, .int (nI k))] [] τ) k := by
    refine z_down ?_ ?_
    · intro v hv
      refine k_X0_beats_5 ⟨fun _ => ⟨fun q => h0 ?_, fun q => h1 ?_⟩, fun q => absurd (by rw [z_le, c0, z_n (by omega)]; omega) q⟩
      · rw [z_le, hv] at q; simp only [Int32.reduceToInt] at q
        rw [z_bt, hNt, decide_eq_false (by omega)]
      · rw [z_le, hv] at q; simp only [Int32.reduceToInt] at q
        rw [z_bt, hNt, decide_eq_true (by omega)]
    · intro k hk ih v hv
      have zk : (nI k).toInt = k := z_n (by omega)
      have bb := vs_b A i j k
      have go : ∀ (s : Int32), s.toInt = (if z_W A k i < z_W A k j ∨ (z_W A k i = z_W A k j ∧ i < j) then 1 else -1) → x_WI (d + 1) mX0_beats K 78 [(0, .ref 339), (1, .int a), (2, .int b), (4, .int (nI k))] [.int s, .int v] τ := by
        intro s hs
        refine k_X0_beats_78 (fun y1 e1 y2 e2 => ?_)
        rw [e2, ← nI_succ]
        have : -1 ≤ s.toInt ∧ s.toInt ≤ 1 := by rw [hs]; split <;> omega
        refine ih y1 ?_
        rw [e1, z_add (by omega), hv, hs, z_vs]
      have yes : (z_W A k i < z_W A k j ∨ (z_W A k i = z_W A k j ∧ i < j)) → x_WI (d + 1) mX0_beats K 60 [(0, .ref 339), (1, .int a), (2, .int b), (3, .int v), (4, .int (nI k))] [] τ := by
        intro z
        exact k_X0_beats_60 (k_X0_beats_65 ⟨fun q => absurd q z_10, fun _ => go 1 (by rw [if_pos z]; rfl)⟩)
      have nope : ¬ (z_W A k i < z_W A k j ∨ (z_W A k i = z_W A k j ∧ i < j)) → x_WI (d + 1) mX0_beats K 64 [(0, .ref 339), (1, .int a), (2, .int b), (3, .int v), (4, .int (nI k))] [] τ := by
        intro z
        exact k_X0_beats_64 (k_X0_beats_65 ⟨fun _ => go (-1) (by rw [if_neg z]; rfl), fun q => absurd rfl q⟩)
      refine k_X0_beats_5 ⟨fun q => ?_, fun _ => cl_wayBetween hc wA (fun u1 hu1 => cl_wayBetween hc wA (fun u2 hu2 => ?_))⟩
      · rw [z_le, c0, zk] at q; omega
      rw [zk, ha, far_W (by omega) hi] at hu1
      rw [zk, hb, far_W (by omega) hj] at hu2
      refine ⟨fun q => yes ?_, fun q1 => ⟨fun q => nope ?_, fun q2 => ⟨fun q => nope ?_, fun q => yes ?_⟩⟩⟩
      · rw [z_lt, hu1, hu2] at q; exact Or.inl q
      · rw [z_lt, hu1, hu2] at q1; rw [z_eq, hu1, hu2] at q; omega
      · rw [z_lt, hu1, hu2] at q1; rw [z_eq, hu1, hu2] at q2; rw [z_le, ha, hb] at q; omega
      · rw [z_lt, hu1, hu2] at q1; rw [z_eq, hu1, hu2] at q2; rw [z_le, ha, hb] at q; omega
  exact loop 0 (by omega) 0 rfl
theorem ml_doesBeat {d i j : Nat} {a b : Int32} {τ : x_T} {A : Nat → Int} {K : x_T → Int32 → Prop} (wA : w_A A) (hm : (τ.1 346 0).toInt = A 0) (hf : ∀ k, k < 64 → (τ.1 369 k).toInt = z_W A (k / 8) (k % 8)) (ha : a.toInt = i) (hb : b.toInt = j) (hi : (i : Int) < A 0) (hj : (j : Int) < A 0) (h1 : z_bt A i j = true → K τ 1) (h0 : z_bt A i j = false → K τ 0) : x_CI d mX12_doesBeat [.ref 345, .int a, .int b] τ K := by
  have w0 := wA.1
  obtain ⟨N, hN⟩ : ∃ N : Nat, A 0 = N := ⟨(A 0).toNat, by omega⟩
  have hNt : (A 0).toNat = N := by omega
  have ea : a = nI i := z_of (by omega) ha
  have eb : b = nI j := z_of (by omega) hb
  refine e_X12_doesBeat ?_
  have loop : ∀ k, k ≤ N → (fun k => ∀ (v : Int32), v.toInt = z_vs A i j k → x_WI d mX12_doesBeat K 5 [(0, .ref 345), (1, .int a), (2, .int b), (3, .int v), (4, .int (nI k))] [] τ) k := by
    refine z_down ?_ ?_
    · intro v hv
      refine k_X12_doesBeat_5 ⟨fun _ => ⟨fun q => h0 ?_, fun q => h1 ?_⟩, fun q => absurd (by rw [z_le, hm, z_n (by omega)]; omega) q⟩
      · rw [z_le, hv] at q; simp only [Int32.reduceToInt] at q
        rw [z_bt, hNt, decide_eq_false (by omega)]
      · rw [z_le, hv] at q; simp only [Int32.reduceToInt] at q
        rw [z_bt, hNt, decide_eq_true (by omega)]
    · intro k hk ih v hv
      have zk : (nI k).toInt = k := z_n (by omega)
      have bb := vs_b A i j k
      have go : ∀ (s : Int32), s.toInt = (if z_W A k i < z_W A k j ∨ (z_W A k i = z_W A k j ∧ i < j) then 1 else -1) → x_WI d mX12_doesBeat K 64 [(0, .ref 345), (1, .int a), (2, .int b), (4, .int (nI k))] [.int s, .int v] τ := by
        intro s hs
        refine k_X12_doesBeat_64 (fun y1 e1 y2 e2 => ?_)
        rw [e2, ← nI_succ]
        have : -1 ≤ s.toInt ∧ s.toInt ≤ 1 := by rw [hs]; split <;> omega
        refine ih y1 ?_
        rw [e1, z_add (by omega), hv, hs, z_vs]
      have yes : (z_W A k i < z_W A k j ∨ (z_W A k i = z_W A k j ∧ i < j)) → x_WI d mX12_doesBeat K 59 [(0, .ref 345), (1, .int a), (2, .int b), (4, .int (nI k))] [.int v] τ := fun z => k_X12_doesBeat_59 (go 1 (by rw [if_pos z]; rfl))
      have nope : ¬ (z_W A k i < z_W A k j ∨ (z_W A k i = z_W A k j ∧ i < j)) → x_WI d mX12_doesBeat K 63 [(0, .ref 345), (1, .int a), (2, .int b), (4, .int (nI k))] [.int v] τ := fun z => k_X12_doesBeat_63 (go (-1) (by rw [if_neg z]; rfl))
      have k1 : (8 : Int32) * nI k + b = nI (8 * k + j) := by rw [eb, show (8 : Int32) * nI k = nI (8 * k) from n_mul 8 k, n_add]
      have k2 : (8 : Int32) * nI k + a = nI (8 * k + i) := by rw [ea, show (8 : Int32) * nI k = nI (8 * k) from n_mul 8 k, n_add]
      have f1 := hf (8 * k + j) (by omega)
      have f2 := hf (8 * k + i) (by omega)
      rw [show (8 * k + j) / 8 = k by omega, show (8 * k + j) % 8 = j by omega] at f1
      rw [show (8 * k + i) / 8 = k by omega, show (8 * k + i) % 8 = i by omega] at f2
      have b1 := z_W_b wA k j
      have b2 := z_W_b wA k i
      refine k_X12_doesBeat_5 ⟨fun q => ?_, fun _ => ?_⟩
      · rw [z_le, hm, zk] at q; omega
      rw [k1, k2, nI_clamp (by omega), nI_clamp (by omega)]
      refine ⟨vp_in_nI (by omega) (by decide), vp_in_nI (by omega) (by decide), fun y1 e1 => ?_⟩
      have hy : y1.toInt = z_W A k j - z_W A k i := by rw [e1, z_sub (by omega), f1, f2]
      refine ⟨fun q => yes ?_, fun q1 => ⟨fun q => nope ?_, fun q2 => ⟨fun q => nope ?_, fun q => yes ?_⟩⟩⟩
      · rw [z_lt, hy] at q; simp only [Int32.reduceToInt] at q; omega
      · rw [z_lt, hy] at q1; rw [z_eq, hy] at q; simp only [Int32.reduceToInt] at q1 q; omega
      · rw [z_eq, hy] at q2; rw [z_le, ha, hb] at q; simp only [Int32.reduceToInt] at q2; omega
      · rw [z_eq, hy] at q2; rw [z_le, ha, hb] at q; simp only [Int32.reduceToInt] at q2; omega
  exact loop 0 (by omega) 0 rfl
def z_ball (A : Nat → Int) (i : Nat) : Bool := decide (∀ o, o < (A 0).toNat → o = i ∨ z_bt A i o = true)
theorem q_winner (hL : x_HL) {τ : x_T} (h : x_J τ) : x_CI 2000 mX11_winner [.ref 0] τ (fun τ1 u => x_CI 2000 mX12_winner [.ref 345] τ1 (fun τ2 v => u = v ∧ x_J τ2)) := by
  obtain ⟨L, l1, l2⟩ := hL τ h
  generalize hA : j_A τ = A
  have hJ := h.1
  rw [hA] at hJ
  have wA := hJ.1
  have w0 := wA.1
  have hc := hJ.2.1
  have c0 := hc.1
  have hmm : x_hm τ A L := ⟨hA, l2⟩
  obtain ⟨N, hN⟩ : ∃ N : Nat, A 0 = N := ⟨(A 0).toNat, by omega⟩
  have hNt : (A 0).toNat = N := by omega
  generalize hZ : z_first (z_ball A) N 0 = Z
  refine pair_q h Z (fun K hK => ?_) (fun σ f K hK => ?_)
  · refine e_X11_winner (e_X0_voted ?_)
    have all : ∀ (i : Nat) (P : x_T → Int32 → Prop), i < N → (z_ball A i = true → P τ 1) → (z_ball A i = false → P τ 0) → x_CI 1998 mX0_beatsAll [.ref 339, .int (nI i)] τ P := by
      intro i P hi h1 h0
      refine e_X0_beatsAll ?_
      have zi : (nI i).toInt = i := z_n (by omega)
      have loop : ∀ k, k ≤ N → (fun k => (∀ o, o < k → o = i ∨ z_bt A i o = true) → x_WI 1998 mX0_beatsAll P 2 [(0, .ref 339), (1, .int (nI i)), (2, .int (nI k))] [] τ) k := by
        refine z_down ?_ ?_
        · intro ho
          refine k_X0_beatsAll_2 ⟨fun _ => h1 ?_, fun q => absurd (by rw [z_le, c0, z_n (by omega)]; omega) q⟩
          rw [z_ball, hNt, decide_eq_true ho]
        · intro k hk ih ho
          have zk : (nI k).toInt = k := z_n (by omega)
          refine k_X0_beatsAll_2 ⟨fun q => ?_, fun _ => ⟨fun q => k_X0_beatsAll_29 (fun y1 e1 => ?_), fun q => cl_beats hc wA zi zk (by omega) (by omega) (fun hb => ⟨fun _ => k_X0_beatsAll_29 (fun y1 e1 => ?_), fun z => absurd z z_10⟩) (fun hb => ⟨fun z => absurd rfl z, fun _ => h0 ?_⟩)⟩⟩
          · rw [z_le, c0, zk] at q; omega
          · rw [z_eq, zi, zk] at q
            rw [e1, ← nI_succ]
            refine ih (fun o hlt => ?_)
            by_cases r : o = k
            · left; omega
            · exact ho o (by omega)
          · rw [e1, ← nI_succ]
            refine ih (fun o hlt => ?_)
            by_cases r : o = k
            · right; rw [r]; exact hb
            · exact ho o (by omega)
          · rw [z_ball, hNt, decide_eq_false]
            intro z
            rw [z_eq, zi, zk] at q
            rcases z k hk with z | z
            · omega
            · rw [hb] at z; exact absurd z (by decide)
      exact loop 0 (by omega) (fun o ho => by omega)
    have loop : ∀ (f k : Nat), k + f = N → Z = z_first (z_ball A) f k → x_WI 1999 mX0_voted K 2 [(0, .ref 339), (1, .int (nI k))] [] τ := by
      intro f
      induction f with
      | zero =>
        intro k hk hz
        exact k_X0_voted_2 ⟨fun _ => hK _ _ (fr_r _ _) (by rw [hz]; rfl), fun q => absurd (by rw [z_le, c0, z_n (by omega)]; omega) q⟩
      | succ f ih =>
        intro k hk hz
        have zk : (nI k).toInt = k := z_n (by omega)
        rw [z_first] at hz
        refine k_X0_voted_2 ⟨fun q => ?_, fun _ => all k _ (by omega) (fun hb => ⟨fun z => absurd z z_10, fun _ => hK _ _ (fr_r _ _) ?_⟩) (fun hb => ⟨fun _ y3 e3 => ?_, fun z => absurd rfl z⟩)⟩
        · rw [z_le, c0, zk] at q; omega
        · rw [zk, hz, if_pos hb]
        · rw [e3, ← nI_succ]
          rw [hb] at hz
          exact ih (k + 1) (by omega) hz
    exact loop N 0 (by omega) hZ.symm
  · have hmσ := hmX_fr hmm f
    refine e_X12_winner (ml_laysNow hmσ wA (fun σ1 f1 g1 mc1 hm1 => ?_))
    have fx := fr_m s69_x f1
    have m0 := jA_at hm1.1 0
    have loop : ∀ (f k : Nat), k + f = N → Z = z_first (z_ball A) f k → x_WI 2000 mX12_winner K 6 [(0, .ref 345), (1, .int (nI k))] [] σ1 := by
      intro f
      induction f with
      | zero =>
        intro k hk hz
        exact k_X12_winner_6 ⟨fun _ => hK _ _ fx (by rw [hz]; rfl), fun q => absurd (by rw [z_le, m0, z_n (by omega)]; omega) q⟩
      | succ f ih =>
        intro k hk hz
        have zk : (nI k).toInt = k := z_n (by omega)
        rw [z_first] at hz
        refine k_X12_winner_6 ⟨fun q => ?_, fun _ => ?_⟩
        · rw [z_le, m0, zk] at q; omega
        have inner : ∀ j, j ≤ N → (fun j => ∀ v : Int32, v = z_b (decide (∀ o, o < j → o = k ∨ z_bt A k o = true)) → x_WI 2000 mX12_winner K 20 [(0, .ref 345), (1, .int (nI k)), (2, .int v), (3, .int (nI j))] [] σ1) j := by
          refine z_down ?_ ?_
          · intro v hv
            have hb : z_ball A k = decide (∀ o, o < N → o = k ∨ z_bt A k o = true) := by rw [z_ball, hNt]
            rw [← hb] at hv
            refine k_X12_winner_20 ⟨fun _ => ⟨fun q y1 e1 => ?_, fun q => hK _ _ fx ?_⟩, fun q => absurd (by rw [z_le, m0, z_n (by omega)]; omega) q⟩
            · rw [hv, z_b0] at q
              rw [q] at hz
              rw [e1, ← nI_succ]
              exact ih (k + 1) (by omega) hz
            · have hb2 : z_ball A k = true := by
                cases hb3 : z_ball A k
                · rw [hv, hb3] at q; exact absurd rfl q
                · rfl
              rw [zk, hz, if_pos hb2]
          · intro j hj ihj v hv
            have zj : (nI j).toInt = j := z_n (by omega)
            have nx : ∀ s : Int32, s = z_b (decide (∀ o, o < j + 1 → o = k ∨ z_bt A k o = true)) → x_WI 2000 mX12_winner K 53 [(0, .ref 345), (1, .int (nI k)), (3, .int (nI j))] [.int s] σ1 := by
              intro s hs
              refine k_X12_winner_53 (fun y1 e1 => ?_)
              rw [e1, ← nI_succ]
              exact ihj s hs
            have nx0 : ¬ (∀ o, o < j + 1 → o = k ∨ z_bt A k o = true) → x_WI 2000 mX12_winner K 52 [(0, .ref 345), (1, .int (nI k)), (3, .int (nI j))] [] σ1 := fun z => k_X12_winner_52 (nx 0 (by rw [decide_eq_false z]; rfl))
            have nx1 : (∀ o, o < j + 1 → o = k ∨ z_bt A k o = true) → x_WI 2000 mX12_winner K 48 [(0, .ref 345), (1, .int (nI k)), (3, .int (nI j))] [] σ1 := fun z => k_X12_winner_48 (nx 1 (by rw [decide_eq_true z]; rfl))
            refine k_X12_winner_20 ⟨fun q => ?_, fun _ => ⟨fun q => nx0 (fun z => ?_), fun q => ?_⟩⟩
            · rw [z_le, m0, zj] at q; omega
            · rw [hv, z_b0, decide_eq_false_iff_not] at q
              exact q (fun o ho => z o (by omega))
            · have hall : ∀ o, o < j → o = k ∨ z_bt A k o = true := by
                by_cases r : ∀ o, o < j → o = k ∨ z_bt A k o = true
                · exact r
                · rw [hv, decide_eq_false r] at q; exact absurd rfl q
              have ext : (j = k ∨ z_bt A k j = true) → ∀ o, o < j + 1 → o = k ∨ z_bt A k o = true := by
                intro z o ho
                by_cases r : o = j
                · rw [r]; exact z
                · exact hall o (by omega)
              refine ⟨fun r => nx1 (ext ?_), fun r => ml_doesBeat wA m0 mc1.2.1 zk zj (by omega) (by omega) (fun hb => ⟨fun z => absurd z z_10, fun _ => nx1 (ext (Or.inr hb))⟩) (fun hb => ⟨fun _ => nx0 (fun z => ?_), fun z => absurd rfl z⟩)⟩
              · rw [z_eq, zk, zj] at r; left; omega
              · rw [z_eq, zk, zj] at r
                rcases z j (by omega) with z | z
                · omega
                · rw [hb] at z; exact absurd z (by decide)
        exact inner 0 (by omega) 1 (by rw [decide_eq_true (fun o ho => by omega)]; rfl)
    exact loop N 0 (by omega) hZ.symm
