/-! played -/
theorem house_3 {A : Nat → Int} {a : Int} {k : Nat} (w : 0 ≤ A 0) (hk : k = 2 ∨ k = 3) : z_Phouse A a k = A k := by
  unfold z_Phouse
  split
  · rename_i q
    have := of_decide_eq_true q
    exact (Ph_k (by omega) (by omega) (by omega)).symm
  · rfl
theorem lane_3 {A : Nat → Int} {a b l : Int} {k : Nat} (w : A 0 ≤ 8) (hk : k = 2 ∨ k = 3) : z_Plane A a b l k = A k := by
  unfold z_Plane
  split
  · rename_i q
    have := of_decide_eq_true q
    exact (Pl_o (by omega) (by omega) (by omega)).symm
  · rfl
theorem pus_3 {A : Nat → Int} {a : Int} {k : Nat} (w : 0 ≤ A 1) (hk : k = 2 ∨ k = 3) : z_Ppus A a k = A k := by
  unfold z_Ppus
  split
  · rename_i q
    have := of_decide_eq_true q
    exact (Pp_o (by omega) (by omega) (by omega)).symm
  · rfl
theorem wH_house {A : Nat → Int} (w : w_H A) (a : Int) : w_H (z_Phouse A a) := by
  have w0 := w.1.1
  unfold z_Phouse
  split
  · rename_i q
    have q := of_decide_eq_true q
    have w0' : 0 ≤ A 0 ∧ A 0 < 8 := by omega
    refine wH_land w (wA_Ph w.1 (by omega) (by omega)) ?_ ?_ (Ph_k (by omega) (by omega) w0') (fun k hk => Ph_k (by omega) (by omega) w0')
    · rw [z_Ph, z_set_e, if_pos rfl]; omega
    · rw [← Ph_k (a := a) (k := 1) (by omega) (by omega) w0']; omega
  · exact w
theorem wH_lane {A : Nat → Int} (w : w_H A) (a b l : Int) : w_H (z_Plane A a b l) := by
  have w0 := w.1.1
  unfold z_Plane
  split
  · rename_i q
    have q := of_decide_eq_true q
    refine wH_land w (wA_Pl w.1 (by omega) (by omega) (by omega) (by omega)) ?_ ?_ (Pl_o (by omega) (by omega) (by omega)) (fun k hk => Pl_o (by omega) (by omega) (by omega))
    · rw [← Pl_o (k := 0) (l := l) (by omega) (by omega) (by omega)]; omega
    · rw [← Pl_o (k := 1) (l := l) (by omega) (by omega) (by omega)]; omega
  · exact w
theorem wH_pus {A : Nat → Int} (w : w_H A) (a : Int) : w_H (z_Ppus A a) := by
  have w0 := w.1.1
  unfold z_Ppus
  split
  · rename_i q
    have q := of_decide_eq_true q
    have w0' : 0 ≤ A 1 ∧ A 1 < 4 := by omega
    refine wH_land w (wA_Pp w.1 (by omega) (by omega)) ?_ ?_ (Pp_o (by omega) (by omega) w0') (fun k hk => Pp_o (by omega) (by omega) w0')
    · rw [← Pp_o (s := a) (k := 0) (by omega) (by omega) w0']; omega
    · rw [z_Pp, z_set_e, if_pos rfl]; omega
  · exact w
def y_pas (A : Nat → Int) (u : Int) : Int := min u (9999 - A 135)
def y_cA (A : Nat → Int) (L : x_L2) (w u1 u2 u3 : Int) : Nat → Int := if w = 4 then z_Phouse A u1 else if w = 5 then z_Plane A u1 u2 u3 else if w = 6 then z_Ppus A u1 else if w = 7 then z_Ppush A L u1 u2 else if w = 8 then z_Ptip A else if w = 9 then z_Pmend A else if w = 10 then z_Pm A L (y_pas A u1).toNat else A
def y_ne (z : Int) : Int := if z = -1 then 0 else 1
def y_cB (A : Nat → Int) (L : x_L2) (w u1 u2 u3 : Int) : Int := if w = 4 then y_ne (z_Ahouse A u1) else if w = 5 then z_Alane A u1 u2 u3 else if w = 6 then y_ne (z_Apus A u1) else if w = 7 then y_ne (z_Apush A L u1 u2) else if w = 8 then z_Atip A else if w = 9 then z_Amend A else if w = 10 then (if y_pas A u1 = u1 then 1 else 0) else 1
theorem cA_H {A : Nat → Int} (wH : w_H A) (L : x_L2) (w u1 u2 u3 : Int) (h : w = 10 → 1 ≤ u1) : w_H (y_cA A L w u1 u2 u3) := by
  have w5 : 0 ≤ A 135 ∧ A 135 ≤ 9999 := wH.2.1.2.2.2.2.2.1
  unfold y_cA
  split
  · exact wH_house wH _
  · split
    · exact wH_lane wH _ _ _
    · split
      · exact wH_pus wH _
      · split
        · exact wH_push wH L _ _
        · split
          · exact wH_tip wH
          · split
            · exact wH_mend wH
            · split
              · rename_i q
                have := h q
                exact wH_Pm wH L _ (by unfold y_pas; omega)
              · exact wH
theorem cA_3 {A : Nat → Int} (wH : w_H A) (L : x_L2) (w u1 u2 u3 : Int) {k : Nat} (hk : k = 2 ∨ k = 3) : y_cA A L w u1 u2 u3 k = A k := by
  have w0 := wH.1.1
  unfold y_cA
  split
  · exact house_3 (by omega) hk
  · split
    · exact lane_3 (by omega) hk
    · split
      · exact pus_3 (by omega) hk
      · split
        · exact push_3 (by omega) (by omega)
        · split
          · exact tip_3 (by omega) (by omega)
          · split
            · exact mend_3 (by omega) (by omega)
            · split
              · exact Pm_lt A L (by omega) (by omega) _
              · rfl
theorem pas_e {A : Nat → Int} {L : x_L2} {u : Int} (w5 : 0 ≤ A 135 ∧ A 135 ≤ 9999) (hu : 1 ≤ u ∧ u ≤ 60) : z_Pmin A L (y_pas A u) = z_Pm A L (y_pas A u).toNat := by
  unfold z_Pmin
  by_cases q : z_okm A (y_pas A u) = true
  · rw [if_pos q]
  · rw [if_neg q]
    have : y_pas A u = 0 := by
      rw [z_okm, decide_eq_true_iff] at q
      unfold y_pas at q ⊢
      omega
    rw [this]
    rfl
theorem nar_01 {v : Int32} (h : v.toInt = 0 ∨ v.toInt = 1) : narrow .boolean (.int v) = .int v := by
  rcases h with q | q
  · have : v = 0 := z_eq.mpr q
    rw [this]; rfl
  · have : v = 1 := z_eq.mpr q
    rw [this]; rfl
theorem ne_01 (z : Int) : y_ne z = 0 ∨ y_ne z = 1 := by unfold y_ne; split <;> omega
set_option maxRecDepth 4000 in
theorem cl_isDone {d r k : Nat} (hr : x_sh r = (9, 10)) (hk : k < 24) {σ : x_T} {A : Nat → Int} {L : x_L2} {w u1 u2 u3 : Int} {K : x_T → Int32 → Prop} (hc : x_hc σ A L) (hw : (σ.1 (r + 1) k).toInt = w) (h1 : w = 4 ∨ w = 5 ∨ w = 6 ∨ w = 7 ∨ w = 10 → (σ.1 (r + 2) k).toInt = u1) (h2 : w = 5 ∨ w = 7 → (σ.1 (r + 3) k).toInt = u2) (h3 : w = 5 → (σ.1 (r + 4) k).toInt = u3) (h10 : w = 10 → 1 ≤ u1 ∧ u1 ≤ 60) (hK : ∀ (ρ : x_T) (b : Int32), x_fr j_sC σ ρ → x_hf 1 13 17 ρ (y_cA A L w u1 u2 u3) → b.toInt = y_cB A L w u1 u2 u3 → K ρ b) : x_CI (d + 1 + 1 + 1 + 1 + 1 + 1) mX11_isDone [.ref 0, .ref r, .int (nI k)] σ K := by
  have zk : (nI k).toInt = k := z_n (by omega)
  have ck : (nI k).toNatClampNeg = k := nI_clamp (by omega)
  have n1 : (-1 : Int32).toInt = -1 := by decide
  have vk : vp_in (nI k) 24 := vp_in_nI (by omega) (by decide)
  have w5 : 0 ≤ A 135 ∧ A 135 ≤ 9999 := hc.1.2.2.1.2.2.2.2.2.1
  have yes : ∀ (ρ : x_T) (a : Int32) (z : Int), x_fr j_sC σ ρ → x_hf 1 13 17 ρ (y_cA A L w u1 u2 u3) → a.toInt = z → y_cB A L w u1 u2 u3 = y_ne z → (a = -1 → K ρ 0) ∧ (¬ a = -1 → K ρ 1) := by
    intro ρ a z f g ha hb
    refine ⟨fun q => hK ρ 0 f g ?_, fun q => hK ρ 1 f g ?_⟩
    · rw [z_eq, ha, n1] at q
      rw [hb, y_ne, if_pos q]; rfl
    · rw [z_eq, ha, n1] at q
      rw [hb, y_ne, if_neg q]; rfl
  have b01 : ∀ (ρ : x_T) (a : Int32) (z : Int), x_fr j_sC σ ρ → x_hf 1 13 17 ρ (y_cA A L w u1 u2 u3) → a.toInt = z → (z = 0 ∨ z = 1) → y_cB A L w u1 u2 u3 = z → narrow .boolean (.int a) = .int a ∧ K ρ a := by
    intro ρ a z f g ha h01 hb
    exact ⟨nar_01 (by omega), hK ρ a f g (by rw [hb, ha])⟩
  refine e_X11_isDone hr ⟨fun q => ?_, fun _ => ⟨fun _ => ?_, fun q => ?_⟩⟩
  · rw [z_lt, zk] at q; simp only [Int32.reduceToInt] at q; omega
  · rw [ck]
    refine ⟨vk, fun y1 e1 => ⟨vk, fun y2 e2 => ⟨vk, fun y3 e3 => ?_⟩⟩⟩
    rw [← e1] at h1
    rw [← e2] at h2
    rw [← e3] at hw
    refine ⟨fun q => ?_, fun q4 => ⟨fun q => ?_, fun q5 => ⟨fun q => ?_, fun q6 => ⟨fun q => ?_, fun q7 => ⟨fun q => ?_, fun q8 => ⟨fun q => ?_, fun q9 => ⟨fun q => ?_, fun q10 => ?_⟩⟩⟩⟩⟩⟩⟩
    · have e : w = 4 := by rw [z_eq, hw] at q; exact q
      refine cs_house hc.1 (fun ρ a f g ha => yes ρ a _ f ?_ ha ?_)
      · rw [y_cA, if_pos e, ← h1 (by omega)]; exact g
      · rw [y_cB, if_pos e, ← h1 (by omega)]
    · have e : w = 5 := by rw [z_eq, hw] at q; exact q
      refine ⟨vk, cs_lane hc.1 (fun ρ a f g ha => b01 ρ a _ f ?_ ha ?_ ?_)⟩
      · rw [y_cA, if_neg (by omega), if_pos e, ← h1 (by omega), ← h2 (by omega), ← h3 (by omega)]; exact g
      · unfold z_Alane; split <;> omega
      · rw [y_cB, if_neg (by omega), if_pos e, ← h1 (by omega), ← h2 (by omega), ← h3 (by omega)]
    · have e : w = 6 := by rw [z_eq, hw] at q; exact q
      refine cs_pusher hc.1 (fun ρ a f g ha => yes ρ a _ f ?_ ha ?_)
      · rw [y_cA, if_neg (by omega), if_neg (by omega), if_pos e, ← h1 (by omega)]; exact g
      · rw [y_cB, if_neg (by omega), if_neg (by omega), if_pos e, ← h1 (by omega)]
    · have e : w = 7 := by rw [z_eq, hw] at q; exact q
      refine cs_push hc (fun ρ a f g ha => yes ρ a _ f ?_ ha ?_)
      · rw [y_cA, if_neg (by omega), if_neg (by omega), if_neg (by omega), if_pos e, ← h1 (by omega), ← h2 (by omega)]; exact g
      · rw [y_cB, if_neg (by omega), if_neg (by omega), if_neg (by omega), if_pos e, ← h1 (by omega), ← h2 (by omega)]
    · have e : w = 8 := by rw [z_eq, hw] at q; exact q
      refine cs_tip hc (fun ρ a f g ha => b01 ρ a _ f ?_ ha ?_ ?_)
      · rw [y_cA, if_neg (by omega), if_neg (by omega), if_neg (by omega), if_neg (by omega), if_pos e]; exact g
      · unfold z_Atip; split <;> omega
      · rw [y_cB, if_neg (by omega), if_neg (by omega), if_neg (by omega), if_neg (by omega), if_pos e]
    · have e : w = 9 := by rw [z_eq, hw] at q; exact q
      refine cs_mend hc (fun ρ a f g ha => b01 ρ a _ f ?_ ha ?_ ?_)
      · rw [y_cA, if_neg (by omega), if_neg (by omega), if_neg (by omega), if_neg (by omega), if_neg (by omega), if_pos e]; exact g
      · unfold z_Amend; split <;> omega
      · rw [y_cB, if_neg (by omega), if_neg (by omega), if_neg (by omega), if_neg (by omega), if_neg (by omega), if_pos e]
    · have e : w = 10 := by rw [z_eq, hw] at q; exact q
      intro y16 e16
      have hu := h1 (by omega)
      have hb := h10 e
      have e5 : (σ.1 13 5).toInt = A 135 := cd_0 hc.1.2.2.2.1 (k := 5) (by omega)
      have m : (9999 - σ.1 13 5).toInt = 9999 - A 135 := by rw [z_sub (by rw [e5]; simp only [Int32.reduceToInt]; omega), e5]; rfl
      have h16 : y16.toInt = y_pas A u1 := by
        rw [e16, y_pas]
        split
        · rename_i r; rw [z_lt, m, hu] at r; rw [m]; omega
        · rename_i r; rw [z_lt, m, hu] at r; rw [hu]; omega
      refine cs_min hc (fun ρ a f g ha => ?_)
      rw [h16, pas_e w5 hb] at g
      have g' : x_hf 1 13 17 ρ (y_cA A L w u1 u2 u3) := by
        rw [y_cA, if_neg (by omega), if_neg (by omega), if_neg (by omega), if_neg (by omega), if_neg (by omega), if_neg (by omega), if_pos e]; exact g
      have hB : y_cB A L w u1 u2 u3 = (if y_pas A u1 = u1 then 1 else 0) := by
        rw [y_cB, if_neg (by omega), if_neg (by omega), if_neg (by omega), if_neg (by omega), if_neg (by omega), if_neg (by omega), if_pos e]
      refine ⟨fun r => hK ρ 0 f g' ?_, fun r => hK ρ 1 f g' ?_⟩
      · rw [z_eq, h16, hu] at r; rw [hB, if_neg r]; rfl
      · rw [z_eq, h16, hu] at r; rw [hB, if_pos r]; rfl
    · have no : ∀ n : Int32, ¬ y3 = n → ¬ w = n.toInt := fun n hn z => hn (z_eq.mpr (by rw [hw, z]))
      have r4 := no 4 q4
      have r5 := no 5 q5
      have r6 := no 6 q6
      have r7 := no 7 q7
      have r8 := no 8 q8
      have r9 := no 9 q9
      have r10 := no 10 q10
      simp only [Int32.reduceToInt] at r4 r5 r6 r7 r8 r9 r10
      refine hK σ 1 (fr_r _ _) ?_ ?_
      · rw [y_cA, if_neg (by omega), if_neg (by omega), if_neg (by omega), if_neg (by omega), if_neg (by omega), if_neg (by omega), if_neg (by omega)]; exact hc.1
      · rw [y_cB, if_neg (by omega), if_neg (by omega), if_neg (by omega), if_neg (by omega), if_neg (by omega), if_neg (by omega), if_neg (by omega)]; rfl
  · rw [z_lt, zk] at q; simp only [Int32.reduceToInt] at q; omega
theorem ml_minutes {d : Nat} {σ : x_T} {A : Nat → Int} {L : x_L2} {u : Int32} {K : x_T → Int32 → Prop} (hm : x_hm σ A L) (wH : w_H A) (hu : 1 ≤ u.toInt ∧ u.toInt ≤ 60) (hK : ∀ (ρ : x_T) (b : Int32), x_fr j_sM σ ρ → j_A ρ = z_Pm A L (y_pas A u.toInt).toNat → b.toInt = (if y_pas A u.toInt = u.toInt then 1 else 0) → K ρ b) : x_CI (d + 1 + 1 + 1 + 1 + 1 + 1 + 1) mX12_minutes [.ref 345, .int u] σ K := by
  have w5 : 0 ≤ A 135 ∧ A 135 ≤ 9999 := wH.2.1.2.2.2.2.2.1
  have n1 : (-1 : Int32).toInt = -1 := by decide
  obtain ⟨n, hn⟩ : ∃ n : Nat, u.toInt = n := ⟨u.toInt.toNat, by omega⟩
  refine e_X12_minutes ?_
  have loop : ∀ k, k ≤ n → (fun k : Nat => A 135 + k ≤ 9999 → ∀ ρ : x_T, x_fr j_sM σ ρ → j_A ρ = z_Pm A L k → x_WI (d + 1 + 1 + 1 + 1 + 1 + 1 + 1) mX12_minutes K 2 [(0, .ref 345), (1, .int u), (2, .int (nI k))] [] ρ) k := by
    refine z_down ?_ ?_
    · intro h5 ρ f g
      have e : y_pas A u.toInt = n := by unfold y_pas; omega
      refine k_X12_minutes_2 ⟨fun _ => hK ρ 1 f ?_ ?_, fun q => absurd (by rw [z_le, hn, z_n (by omega)]; omega) q⟩
      · rw [e]; exact g
      · rw [e, hn, if_pos rfl]; rfl
    · intro k hk ih h5 ρ f g
      have zk : (nI k).toInt = k := z_n (by omega)
      have wk := wH_Pm wH L k h5
      have hmρ : x_hm ρ (z_Pm A L k) L := hm_fr hm f g (Pm_lt A L (by omega) (by omega) k)
      have one : (1 : Int32).toInt = 1 := by decide
      refine k_X12_minutes_2 ⟨fun q => ?_, fun _ => ms_min hmρ wk (fun ρ2 v f2 g2 hv => ?_)⟩
      · rw [z_le, hn, zk] at q; omega
      rw [one] at g2 hv
      have f3 := fr_t f f2
      by_cases q5 : A 135 + k < 9999
      · have okm : z_okm (z_Pm A L k) 1 = true := decide_eq_true (by rw [Pm_135]; omega)
        rw [z_Pmin, if_pos okm] at g2
        rw [z_Amin, if_pos okm] at hv
        have cb := Cm_b wk L 1 (by rw [Pm_135]; omega)
        refine ⟨fun q y3 e3 => ?_, fun q => ?_⟩
        · rw [e3, ← nI_succ]
          exact ih (by omega) ρ2 f3 g2
        · rw [z_eq, hv, n1] at q
          have : z_Cm (z_Pm A L k) L (1 : Int).toNat = z_Cm (z_Pm A L k) L 1 := rfl
          rw [this] at q
          omega
      · have okm : z_okm (z_Pm A L k) 1 = false := decide_eq_false (by rw [Pm_135]; omega)
        rw [z_Pmin, okm] at g2
        rw [z_Amin, okm] at hv
        have e : y_pas A u.toInt = k := by unfold y_pas; omega
        refine ⟨fun q => ?_, fun q => hK ρ2 0 f3 ?_ ?_⟩
        · exact absurd (by rw [z_eq, hv, n1]; rfl) q
        · rw [e]; exact g2
        · rw [e, hn, if_neg (by omega)]; rfl
  exact loop 0 (by omega) (by omega) σ (fr_r _ _) hm.1
set_option maxRecDepth 4000 in
theorem ml_clause {t k : Nat} (ht : t < 4) (hk : k < 24) {σ : x_T} {A : Nat → Int} {L : x_L2} {w u1 u2 u3 : Int} {K : x_T → Int32 → Prop} (hm : x_hm σ A L) (wH : w_H A) (hn : (k : Int) < (σ.1 349 t).toInt) (hw : (σ.1 350 (24 * t + k)).toInt = w) (h1 : (σ.1 352 (24 * t + k)).toInt = u1) (h2 : (σ.1 353 (24 * t + k)).toInt = u2) (h3 : (σ.1 354 (24 * t + k)).toInt = u3) (h10 : w = 10 → 1 ≤ u1 ∧ u1 ≤ 60) (hK : ∀ (ρ : x_T) (b : Int32), x_fr j_sM σ ρ → j_A ρ = y_cA A L w u1 u2 u3 → b.toInt = y_cB A L w u1 u2 u3 → x_WI 2000 mX12_played K 214 [(0, .ref 345), (1, .int (nI t)), (2, .int (nI k)), (6, .int b)] [] ρ) : x_WI 2000 mX12_played K 21 [(0, .ref 345), (1, .int (nI t)), (2, .int (nI k))] [] σ := by
  have zk : (nI k).toInt = k := z_n (by omega)
  have ct : (nI t).toNatClampNeg = t := nI_clamp (by omega)
  have n1 : (-1 : Int32).toInt = -1 := by decide
  have ix : (24 : Int32) * nI t + nI k = nI (24 * t + k) := by rw [show (24 : Int32) * nI t = nI (24 * t) from n_mul 24 t, n_add]
  have cx : (nI (24 * t + k)).toNatClampNeg = 24 * t + k := nI_clamp (by omega)
  have vx : vp_in (nI (24 * t + k)) 96 := vp_in_nI (by omega) (by decide)
  have yes : ∀ (ρ : x_T) (a : Int32) (z : Int) (P : Int32 → Prop), x_fr j_sM σ ρ → j_A ρ = y_cA A L w u1 u2 u3 → a.toInt = z → y_cB A L w u1 u2 u3 = y_ne z → (∀ b, x_WI 2000 mX12_played K 214 [(0, .ref 345), (1, .int (nI t)), (2, .int (nI k)), (6, .int b)] [] ρ → P b) → (a = -1 → P 0) ∧ (¬ a = -1 → P 1) := by
    intro ρ a z P f g ha hb hp
    refine ⟨fun q => hp 0 (hK ρ 0 f g ?_), fun q => hp 1 (hK ρ 1 f g ?_)⟩
    · rw [z_eq, ha, n1] at q
      rw [hb, y_ne, if_pos q]; rfl
    · rw [z_eq, ha, n1] at q
      rw [hb, y_ne, if_neg q]; rfl
  refine k_X12_played_21 ⟨vp_in_nI (by omega) (by decide), fun q => ?_, fun _ y1 e1 => ?_⟩
  · rw [ct, z_le, zk] at q; omega
  rw [ix] at e1
  subst e1
  rw [cx]
  refine ⟨vx, fun y2 e2 => ⟨vx, fun y3 e3 => ⟨vx, fun y4 e4 => ?_⟩⟩⟩
  rw [← e2] at h1
  rw [← e3] at h2
  rw [← e4] at hw
  refine ⟨fun q => ?_, fun q4 => ⟨fun q => ?_, fun q5 => ⟨fun q => ?_, fun q6 => ⟨fun q => ?_, fun q7 => ⟨fun q => ?_, fun q8 => ⟨fun q => ?_, fun q9 => ⟨fun q => ?_, fun q10 => ?_⟩⟩⟩⟩⟩⟩⟩
  · have e : w = 4 := by rw [z_eq, hw] at q; exact q
    refine ms_house hm.1 wH.1 (fun ρ a f g ha => yes ρ a _ (fun b => x_WI 2000 mX12_played K 119 [(0, .ref 345), (1, .int (nI t)), (2, .int (nI k))] [.int b] ρ) f ?_ ha ?_ (fun b hb => k_X12_played_119 hb))
    · rw [y_cA, if_pos e, ← h1]; exact g
    · rw [y_cB, if_pos e, ← h1]
  · have e : w = 5 := by rw [z_eq, hw] at q; exact q
    refine ⟨vx, ms_lane hm.1 wH.1 (fun ρ a f g ha => hK ρ a f ?_ ?_)⟩
    · rw [y_cA, if_neg (by omega), if_pos e, ← h1, ← h2, ← h3]; exact g
    · rw [y_cB, if_neg (by omega), if_pos e, ← h1, ← h2, ← h3]; exact ha
  · have e : w = 6 := by rw [z_eq, hw] at q; exact q
    refine ms_pusher hm.1 wH.1 (fun ρ a f g ha => yes ρ a _ (fun b => x_WI 2000 mX12_played K 158 [(0, .ref 345), (1, .int (nI t)), (2, .int (nI k))] [.int b] ρ) f ?_ ha ?_ (fun b hb => k_X12_played_158 hb))
    · rw [y_cA, if_neg (by omega), if_neg (by omega), if_pos e, ← h1]; exact g
    · rw [y_cB, if_neg (by omega), if_neg (by omega), if_pos e, ← h1]
  · have e : w = 7 := by rw [z_eq, hw] at q; exact q
    refine ms_push hm wH (fun ρ a f g ha => yes ρ a _ (fun b => x_WI 2000 mX12_played K 180 [(0, .ref 345), (1, .int (nI t)), (2, .int (nI k))] [.int b] ρ) f ?_ ha ?_ (fun b hb => k_X12_played_180 hb))
    · rw [y_cA, if_neg (by omega), if_neg (by omega), if_neg (by omega), if_pos e, ← h1, ← h2]; exact g
    · rw [y_cB, if_neg (by omega), if_neg (by omega), if_neg (by omega), if_pos e, ← h1, ← h2]
  · have e : w = 8 := by rw [z_eq, hw] at q; exact q
    refine ms_tip hm wH (fun ρ a f g ha => hK ρ a f ?_ ?_)
    · rw [y_cA, if_neg (by omega), if_neg (by omega), if_neg (by omega), if_neg (by omega), if_pos e]; exact g
    · rw [y_cB, if_neg (by omega), if_neg (by omega), if_neg (by omega), if_neg (by omega), if_pos e]; exact ha
  · have e : w = 9 := by rw [z_eq, hw] at q; exact q
    refine ms_mend hm wH (fun ρ a f g ha => hK ρ a f ?_ ?_)
    · rw [y_cA, if_neg (by omega), if_neg (by omega), if_neg (by omega), if_neg (by omega), if_neg (by omega), if_pos e]; exact g
    · rw [y_cB, if_neg (by omega), if_neg (by omega), if_neg (by omega), if_neg (by omega), if_neg (by omega), if_pos e]; exact ha
  · have e : w = 10 := by rw [z_eq, hw] at q; exact q
    refine ml_minutes hm wH (by rw [h1]; exact h10 e) (fun ρ b f g hb => hK ρ b f ?_ ?_)
    · rw [y_cA, if_neg (by omega), if_neg (by omega), if_neg (by omega), if_neg (by omega), if_neg (by omega), if_neg (by omega), if_pos e, ← h1]; exact g
    · rw [y_cB, if_neg (by omega), if_neg (by omega), if_neg (by omega), if_neg (by omega), if_neg (by omega), if_neg (by omega), if_pos e, ← h1]; exact hb
  · have no : ∀ n : Int32, ¬ y4 = n → ¬ w = n.toInt := fun n hn z => hn (z_eq.mpr (by rw [hw, z]))
    have r4 := no 4 q4
    have r5 := no 5 q5
    have r6 := no 6 q6
    have r7 := no 7 q7
    have r8 := no 8 q8
    have r9 := no 9 q9
    have r10 := no 10 q10
    simp only [Int32.reduceToInt] at r4 r5 r6 r7 r8 r9 r10
    refine hK σ 1 (fr_r _ _) ?_ ?_
    · rw [y_cA, if_neg (by omega), if_neg (by omega), if_neg (by omega), if_neg (by omega), if_neg (by omega), if_neg (by omega), if_neg (by omega)]; exact hm.1
    · rw [y_cB, if_neg (by omega), if_neg (by omega), if_neg (by omega), if_neg (by omega), if_neg (by omega), if_neg (by omega), if_neg (by omega)]; rfl
theorem q_played (hL : x_HL) {τ : x_T} (h : x_J τ) (a1 : Int32) : x_CI 2000 mX11_played [.ref 0, .int a1] τ (fun τ1 u => x_CI 2000 mX12_played [.ref 345, .int a1] τ1 (fun τ2 v => u = v ∧ x_J τ2)) := by
  obtain ⟨L, l1, l2⟩ := hL τ h
  have m := h.2.2.1.2.1
  have m1 := h.2.2.1.1.1
  have m2 : (τ.1 346 2).toInt = j_A τ 2 := rfl
  have sb : (τ.1 346 2 - 1).toInt = j_A τ 2 - 1 := by rw [z_sub (by rw [m2]; simp only [Int32.reduceToInt]; omega), m2]; rfl
  refine e_X11_played (cl_textTold m1 (by omega) (fun z => ⟨fun c3 e => (by cases e), fun _ => ?_⟩) (fun z1 z2 hs => ⟨fun c3 e => ?_, fun e => (by cases e)⟩))
  · refine e_X12_played (ml_in (fun q1 q2 => ?_) (fun _ => ⟨fun q => absurd rfl q, fun _ => ⟨rfl, h⟩⟩))
    rw [sb] at q2
    simp only [Int32.reduceToInt] at q1
    omega
  · cases e
    refine ⟨hs, ?_⟩
    obtain ⟨t, ht⟩ : ∃ t : Nat, a1.toInt = t := ⟨a1.toInt.toNat, by omega⟩
    have ea : a1 = nI t := z_of (by omega) ht
    have et : a1.toInt.toNat = t := by omega
    rw [et] at hs ⊢
    have t4 : t < 4 := by omega
    obtain ⟨n, hn24, hn1, hn2, hcl, -⟩ := h.2.2.2.2.2 t (by omega)
    let w : Nat → Int := fun k => (τ.1 350 (24 * t + k)).toInt
    let u1 : Nat → Int := fun k => (τ.1 352 (24 * t + k)).toInt
    let u2 : Nat → Int := fun k => (τ.1 353 (24 * t + k)).toInt
    let u3 : Nat → Int := fun k => (τ.1 354 (24 * t + k)).toInt
    have hcl2 : ∀ k, k < n → (τ.1 (140 + 9 * t + 1) k).toInt = w k ∧ j_num τ t k (w k) := fun k hk => ⟨(hcl k hk).1, (hcl k hk).2.2.2⟩
    have both : ∀ (f k : Nat), k + f = n → ∀ A : Nat → Int, w_H A → A 2 = j_A τ 2 → A 3 = j_A τ 3 → ∃ (A' : Nat → Int) (z : Int), A' 2 = j_A τ 2 ∧ A' 3 = j_A τ 3
        ∧ (∀ (σ : x_T) (K : x_T → Int32 → Prop), x_fr j_sC τ σ → x_hf 1 13 17 σ A → (∀ (ρ : x_T) (u : Int32), x_fr j_sC τ ρ → x_hf 1 13 17 ρ A' → u.toInt = z → K ρ u) → x_WI 2000 mX11_played K 15 [(0, .ref 0), (2, .ref (140 + 9 * t)), (3, .int (nI k))] [] σ)
        ∧ (∀ (σ0 σ : x_T) (K : x_T → Int32 → Prop), x_fr j_sC τ σ0 → x_fr j_sM σ0 σ → j_A σ = A → (∀ (ρ : x_T) (v : Int32), x_fr j_sM σ0 ρ → j_A ρ = A' → v.toInt = z → K ρ v) → x_WI 2000 mX12_played K 21 [(0, .ref 345), (1, .int (nI t)), (2, .int (nI k))] [] σ) := by
      intro f
      induction f with
      | zero =>
        intro k hk A wH h2 h3
        have e : k = n := by omega
        subst e
        refine ⟨A, -1, h2, h3, fun σ K fσ hf hK => ?_, fun σ0 σ K f0 fσ hA hK => ?_⟩
        · have e4 : (σ.1 (140 + 9 * t) 4).toInt = k := by rw [fσ.1 _ (by unfold j_sC; omega)]; exact hn1
          exact k_X11_played_15 hs ⟨fun _ => hK σ _ fσ hf (by decide), fun q => absurd (by rw [z_le, e4, z_n (by omega)]; omega) q⟩
        · have e9 : σ.1 349 = τ.1 349 := by rw [fσ.1 349 (by unfold j_sM; omega), f0.1 349 (by unfold j_sC; omega)]
          refine k_X12_played_21 ⟨vp_in_nI (by omega) (by decide), fun _ => hK σ _ fσ hA (by decide), fun q => absurd ?_ q⟩
          rw [nI_clamp (by omega), e9, z_le, hn2, z_n (by omega)]; omega
      | succ f ih =>
        intro k hk A wH h2 h3
        have hkn : k < n := by omega
        obtain ⟨cw, j1, j2, j3, j4⟩ := hcl2 k hkn
        have wH' := cA_H wH L (w k) (u1 k) (u2 k) (u3 k) (fun e => (j4 e).1)
        have p2 := (cA_3 wH L (w k) (u1 k) (u2 k) (u3 k) (k := 2) (by omega)).trans h2
        have p3 := (cA_3 wH L (w k) (u1 k) (u2 k) (u3 k) (k := 3) (by omega)).trans h3
        have p3' := cA_3 wH L (w k) (u1 k) (u2 k) (u3 k) (k := 3) (by omega)
        generalize hA' : y_cA A L (w k) (u1 k) (u2 k) (u3 k) = A1 at wH' p2 p3 p3'
        generalize hB' : y_cB A L (w k) (u1 k) (u2 k) (u3 k) = B1
        have zk : (nI k).toInt = k := z_n (by omega)
        obtain ⟨A2, z2, i2, i3, ic, im⟩ := ih (k + 1) (by omega) A1 wH' p2 p3
        have cside : ∀ (σ : x_T) (K : x_T → Int32 → Prop), x_fr j_sC τ σ → x_hf 1 13 17 σ A → (∀ (ρ : x_T) (b : Int32), x_fr j_sC τ ρ → x_hf 1 13 17 ρ A1 → b.toInt = B1 → (¬ b = 0 → ∀ y3, y3 = nI k + 1 → x_WI 2000 mX11_played K 15 [(0, .ref 0), (2, .ref (140 + 9 * t)), (3, .int y3)] [] ρ) ∧ (b = 0 → K ρ (nI k))) → x_WI 2000 mX11_played K 15 [(0, .ref 0), (2, .ref (140 + 9 * t)), (3, .int (nI k))] [] σ := by
          intro σ K fσ hf hK
          have tc : ∀ c, 140 + 9 * t ≤ c → c ≤ 140 + 9 * t + 8 → σ.1 c = τ.1 c := fun c c1 c2 => fσ.1 c (by unfold j_sC; omega)
          have e4 : (σ.1 (140 + 9 * t) 4).toInt = n := by rw [tc _ (by omega) (by omega)]; exact hn1
          refine k_X11_played_15 hs ⟨fun q => ?_, fun _ => cl_isDone hs (by omega) (w := w k) (u1 := u1 k) (u2 := u2 k) (u3 := u3 k) (L := L) (A := A) ⟨hf, LC2_fr l1 (fun c hc => fσ.1 c (by unfold j_sC; omega)) (by rw [fσ.2])⟩ ?_ ?_ ?_ ?_ j4 (fun ρ b f g hb => hK ρ b (fr_t fσ f) (by rw [← hA']; exact g) (by rw [← hB']; exact hb))⟩
          · rw [z_le, e4, zk] at q; omega
          · rw [tc _ (by omega) (by omega)]; exact cw
          · intro z; rw [tc _ (by omega) (by omega)]; exact j1 z
          · intro z; rw [tc _ (by omega) (by omega)]; exact j2 z
          · intro z; rw [tc _ (by omega) (by omega)]; exact j3 z
        have mside : ∀ (σ0 σ : x_T) (K : x_T → Int32 → Prop), x_fr j_sC τ σ0 → x_fr j_sM σ0 σ → j_A σ = A → (∀ (ρ : x_T) (b : Int32), x_fr j_sM σ0 ρ → j_A ρ = A1 → b.toInt = B1 → x_WI 2000 mX12_played K 214 [(0, .ref 345), (1, .int (nI t)), (2, .int (nI k)), (6, .int b)] [] ρ) → x_WI 2000 mX12_played K 21 [(0, .ref 345), (1, .int (nI t)), (2, .int (nI k))] [] σ := by
          intro σ0 σ K f0 fσ hA hK
          have tc : ∀ c, 349 ≤ c → c ≤ 356 → σ.1 c = τ.1 c := fun c c1 c2 => by rw [fσ.1 c (by unfold j_sM; omega), f0.1 c (by unfold j_sC; omega)]
          have hm0 : x_hm σ0 (j_A τ) L := hmC_fr ⟨rfl, l2⟩ f0
          have hmσ : x_hm σ A L := hm_fr hm0 fσ hA h3
          refine ml_clause t4 (by omega) (w := w k) (u1 := u1 k) (u2 := u2 k) (u3 := u3 k) hmσ wH ?_ ?_ ?_ ?_ ?_ j4 (fun ρ b f g hb => hK ρ b (fr_t fσ f) (by rw [← hA']; exact g) (by rw [← hB']; exact hb))
          · rw [tc _ (by omega) (by omega), hn2]; omega
          · rw [tc _ (by omega) (by omega)]
          · rw [tc _ (by omega) (by omega)]
          · rw [tc _ (by omega) (by omega)]
          · rw [tc _ (by omega) (by omega)]
        by_cases q0 : B1 = 0
        · refine ⟨A1, k, p2, p3, fun σ K fσ hf hK => cside σ K fσ hf (fun ρ b f g hb => ⟨fun z => absurd (z_eq.mpr (by rw [hb, q0]; rfl)) z, fun _ => hK ρ _ f g zk⟩), fun σ0 σ K f0 fσ hA hK => mside σ0 σ K f0 fσ hA (fun ρ b f g hb => k_X12_played_214 ⟨fun z => absurd (z_eq.mpr (by rw [hb, q0]; rfl)) z, fun _ => hK ρ _ f g zk⟩)⟩
        · refine ⟨A2, z2, i2, i3, fun σ K fσ hf hK => cside σ K fσ hf (fun ρ b f g hb => ⟨fun _ y3 e3 => ?_, fun z => absurd (by rw [z_eq, hb] at z; exact z) q0⟩), fun σ0 σ K f0 fσ hA hK => mside σ0 σ K f0 fσ hA (fun ρ b f g hb => k_X12_played_214 ⟨fun _ y1 e1 => ?_, fun z => absurd (by rw [z_eq, hb] at z; exact z) q0⟩)⟩
          · rw [e3, ← nI_succ]; exact ic ρ K f g hK
          · rw [e1, ← nI_succ]; exact im σ0 ρ K f0 f g hK
    obtain ⟨A', z, b2, b3, bc, bm⟩ := both n 0 (by omega) (j_A τ) (hf_wH h.1) rfl rfl
    refine bc τ _ (fr_r _ _) h.1 (fun σ u f g hu => ?_)
    have s46 : σ.1 346 = τ.1 346 := f.1 346 (by unfold j_sC; omega)
    refine e_X12_played (ml_in (fun _ _ => ⟨fun _ => ?_, fun q => absurd q z_10⟩) (fun q => ?_))
    · rw [ea]
      refine bm σ σ _ f (fr_r _ _) (jA_fr f (by unfold j_sC; omega)) (fun ρ v f2 g2 hv => ⟨z_eq.mpr (by rw [hu, hv]), J_of h f g f2 g2 b2 b3⟩)
    · rw [s46, sb] at q
      simp only [Int32.reduceToInt] at q
      omega
