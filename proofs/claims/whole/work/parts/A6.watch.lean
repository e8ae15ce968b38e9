/-! watch -/
def y_ct (Q : Nat → Bool) : Nat → Nat
  | 0 => 0
  | k + 1 => y_ct Q k + if Q k = true then 1 else 0
theorem ct_le (Q : Nat → Bool) : ∀ k, y_ct Q k ≤ k := by
  intro k
  induction k with
  | zero => simp [y_ct]
  | succ k ih => rw [y_ct]; split <;> omega
theorem ct_cg {Q R : Nat → Bool} : ∀ k, (∀ j, j < k → Q j = R j) → y_ct Q k = y_ct R k := by
  intro k
  induction k with
  | zero => intro _; rfl
  | succ k ih => intro h; rw [y_ct, y_ct, ih (fun j hj => h j (by omega)), h k (by omega)]
theorem ct_tr {Q : Nat → Bool} {N : Nat} : ∀ M, N ≤ M → (∀ j, N ≤ j → Q j = false) → y_ct Q M = y_ct Q N := by
  intro M
  induction M with
  | zero => intro h _; have : N = 0 := by omega
            rw [this]
  | succ M ih =>
    intro h hq
    by_cases r : N = M + 1
    · rw [r]
    · rw [y_ct, hq M (by omega), if_neg (by decide), Nat.add_zero, ih (by omega) hq]
def y_pc (v0 : Int32) : Int32 :=
  let y1 := v0 - (((v0.toUInt32 >>> ((1 : Int32).toUInt32 &&& Int32.toUInt32 31)).toInt32) &&& 1431655765)
  let y2 := (y1 &&& 858993459) + (((y1.toUInt32 >>> ((2 : Int32).toUInt32 &&& Int32.toUInt32 31)).toInt32) &&& 858993459)
  let y3 := (y2 + ((y2.toUInt32 >>> ((4 : Int32).toUInt32 &&& Int32.toUInt32 31)).toInt32)) &&& 252645135
  let y4 := y3 + ((y3.toUInt32 >>> ((8 : Int32).toUInt32 &&& Int32.toUInt32 31)).toInt32)
  let y5 := y4 + ((y4.toUInt32 >>> ((16 : Int32).toUInt32 &&& Int32.toUInt32 31)).toInt32)
  y5 &&& 63
theorem pc_e : ∀ s, s < 256 → y_pc (nI s) = nI (y_ct (fun j => s.testBit j) 8) := by decide +kernel
theorem cl_bitCount {d s : Nat} {τ : x_T} {K : x_T → Int32 → Prop} (hs : s < 256) (h : K τ (nI (y_ct (fun j => s.testBit j) 8))) : x_CI d mJ6_bitCount_0f7a4 [.int (nI s)] τ K := by
  refine e_J6_bitCount_0f7a4 (fun y1 e1 y2 e2 y3 e3 y4 e4 y5 e5 => ?_)
  rw [← pc_e s hs] at h
  have : y5 &&& 63 = y_pc (nI s) := by rw [e5, e4, e3, e2, e1]; rfl
  rw [this]
  exact h
theorem ml_many {d s : Nat} {τ : x_T} {K : x_T → Int32 → Prop} (hs : s < 256) (h : K τ (nI (y_ct (fun j => s.testBit j) 8))) : x_CI d mX12_many [.int (nI s)] τ K := by
  refine e_X12_many ?_
  have loop : ∀ k, k ≤ 8 → (fun k => x_WI d mX12_many K 4 [(1, .int (nI (y_ct (fun j => s.testBit j) k))), (2, .int (nI (s / 2 ^ k)))] [] τ) k := by
    refine z_down ?_ ?_
    · refine k_X12_many_4 ⟨fun _ => h, fun q => absurd ?_ q⟩
      rw [show s / 2 ^ 8 = 0 by omega]; rfl
    · intro k hk ih
      have hl : s / 2 ^ k < 2 ^ 31 := Nat.lt_of_le_of_lt (Nat.div_le_self _ _) (by omega)
      refine k_X12_many_4 ⟨fun q => ?_, fun _ y1 e1 y2 e2 => ?_⟩
      · rw [z_eq, z_n (by omega)] at q
        simp only [Int32.reduceToInt] at q
        have h0 : s / 2 ^ k = 0 := by omega
        have hlt : s < 2 ^ k := by
          rcases Nat.lt_or_ge s (2 ^ k) with r | r
          · exact r
          · have := Nat.div_pos r (Nat.pow_pos (by omega)); omega
        rw [ct_tr (N := k) 8 (by omega) (fun j hj => Nat.testBit_lt_two_pow (Nat.lt_of_lt_of_le hlt (Nat.pow_le_pow_right (by omega) hj)))] at h
        exact h
      · have a1 : nI (s / 2 ^ k) &&& 1 = nI (s / 2 ^ k % 2) := pk_andN (by omega) 1 rfl
        have a2 : nI (s / 2 ^ k) >>> (1 &&& 31 : Int32) = nI (s / 2 ^ k / 2 ^ 1) := pk_shrN hl _ 1 (by decide)
        rw [e2, a2, e1, a1, n_add, Nat.div_div_eq_div_mul, ← Nat.pow_add]
        have e : (if s.testBit k = true then 1 else 0) = s / 2 ^ k % 2 := by
          rw [Nat.testBit_eq_decide_div_mod_eq]
          have : s / 2 ^ k % 2 = 0 ∨ s / 2 ^ k % 2 = 1 := by omega
          rcases this with r | r <;> rw [r] <;> decide
        rw [y_ct, e] at ih
        exact ih
  have := loop 0 (by omega)
  simp only [Nat.pow_zero, Nat.div_one] at this
  exact this
def y_wq (A : Nat → Int) (N : Nat) (d : Int) (s o : Nat) : Bool := decide (∃ h, h < N ∧ s.testBit h = true ∧ z_W A h o ≤ d)
def y_bw (c : Nat → Nat) (ok : Nat → Bool) : Nat → Int
  | 0 => -1
  | k + 1 => if ok k = true ∧ (y_bw c ok k = -1 ∨ c (y_bw c ok k).toNat < c k) then (k : Int) else y_bw c ok k
theorem bw_b (c : Nat → Nat) (ok : Nat → Bool) : ∀ k : Nat, -1 ≤ y_bw c ok k ∧ (y_bw c ok k < k ∨ y_bw c ok k = -1) := by
  intro k
  induction k with
  | zero => simp [y_bw]
  | succ k ih => rw [y_bw]; split <;> omega
theorem bw_tr {c : Nat → Nat} {ok : Nat → Bool} {N : Nat} : ∀ M, N ≤ M → (∀ j, N ≤ j → ok j = false) → y_bw c ok M = y_bw c ok N := by
  intro M
  induction M with
  | zero => intro h _; have : N = 0 := by omega
            rw [this]
  | succ M ih =>
    intro h hq
    by_cases r : N = M + 1
    · rw [r]
    · rw [y_bw, hq M (by omega), if_neg (by rintro ⟨z, -⟩; exact absurd z (by decide)), ih (by omega) hq]
def y_ow (s : Nat) (R : Nat → Nat) : Nat → Nat
  | 0 => 0
  | h + 1 => if s.testBit h = true then y_ow s R h ||| R h else y_ow s R h
theorem ow_lt (s : Nat) (R : Nat → Nat) (hR : ∀ h, R h < 2 ^ 8) : ∀ h, y_ow s R h < 2 ^ 8 := by
  intro h
  induction h with
  | zero => simp [y_ow]
  | succ h ih =>
    rw [y_ow]
    split
    · exact Nat.or_lt_two_pow ih (hR h)
    · exact ih
theorem ow_bit (s : Nat) (R : Nat → Nat) (j : Nat) : ∀ h, (y_ow s R h).testBit j = true ↔ ∃ i, i < h ∧ s.testBit i = true ∧ (R i).testBit j = true := by
  intro h
  induction h with
  | zero => simp [y_ow]
  | succ h ih =>
    rw [y_ow]
    by_cases q : s.testBit h = true
    · rw [if_pos q, Nat.testBit_or, Bool.or_eq_true, ih]
      constructor
      · rintro (⟨i, h1, h2, h3⟩ | r)
        · exact ⟨i, by omega, h2, h3⟩
        · exact ⟨h, by omega, q, r⟩
      · rintro ⟨i, h1, h2, h3⟩
        by_cases r : i = h
        · right; rw [← r]; exact h3
        · left; exact ⟨i, by omega, h2, h3⟩
    · rw [if_neg q, ih]
      constructor
      · rintro ⟨i, h1, h2, h3⟩; exact ⟨i, by omega, h2, h3⟩
      · rintro ⟨i, h1, h2, h3⟩
        by_cases r : i = h
        · rw [r] at h2; exact absurd h2 q
        · exact ⟨i, by omega, h2, h3⟩
theorem q_watch (hL : x_HL) {τ : x_T} (h : x_J τ) (a1 a2 : Int32) : x_CI 2000 mX11_watch [.ref 0, .int a1, .int a2] τ (fun τ1 u => x_CI 2000 mX12_watch [.ref 345, .int a1, .int a2] τ1 (fun τ2 v => u = v ∧ x_J τ2)) := by
  obtain ⟨L, l1, l2⟩ := hL τ h
  generalize hA : j_A τ = A
  have hJ := h.1
  rw [hA] at hJ
  have wA := hJ.1
  have w0 := wA.1
  have hc := hJ.2.1
  have c0 := hc.1
  have hmm : x_hm τ A L := ⟨hA, l2⟩
  have n1 : (-1 : Int32).toInt = -1 := by decide
  obtain ⟨N, hN⟩ : ∃ N : Nat, A 0 = N := ⟨(A 0).toNat, by omega⟩
  by_cases ok : 1 ≤ a1.toInt ∧ a1.toInt ≤ 3 ∧ a1.toInt ≤ N ∧ 0 ≤ a2.toInt ∧ a2.toInt ≤ 9
  · obtain ⟨n, hn⟩ : ∃ n : Nat, a1.toInt = n := ⟨a1.toInt.toNat, by omega⟩
    have en : a1 = nI n := z_of (by omega) hn
    have p8 : 2 ^ N ≤ 2 ^ 8 := Nat.pow_le_pow_right (by omega) (by omega)
    let c : Nat → Nat := fun s => y_ct (y_wq A N a2.toInt s) N
    have ce : ∀ s, c s = y_ct (y_wq A N a2.toInt s) N := fun _ => rfl
    have cb : ∀ s, c s ≤ N := fun s => ct_le _ _
    let g : Nat → Bool := fun s => decide (y_ct (fun j => s.testBit j) 8 = n ∧ s < 2 ^ N)
    have ge : ∀ s, g s = decide (y_ct (fun j => s.testBit j) 8 = n ∧ s < 2 ^ N) := fun _ => rfl
    have g0 : g 0 = false := by
      rw [ge, decide_eq_false]
      rintro ⟨z, -⟩
      have : y_ct (fun j => (0 : Nat).testBit j) 8 = 0 := by decide
      omega
    have gN : ∀ s, 2 ^ N ≤ s → g s = false := fun s hs => by rw [ge, decide_eq_false (by omega)]
    have b256 : ∀ k, k ≤ 256 → y_bw c g k = -1 ∨ (0 ≤ y_bw c g k ∧ y_bw c g k < 256) := fun k hk => by have := bw_b c g k; omega
    refine pair_q h (y_bw c g (2 ^ N)) (fun K hK => ?_) (fun σ f K hK => ?_)
    · refine e_X11_watch ⟨fun q => ?_, fun _ => ⟨fun q => ?_, fun _ => ⟨fun q => ?_, fun _ => ⟨fun q => ?_, fun _ => ⟨fun _ => e_X0_bestWatch ?_, fun q => ?_⟩⟩⟩⟩⟩
      · rw [z_lt] at q; simp only [Int32.reduceToInt] at q; omega
      · rw [z_lt] at q; simp only [Int32.reduceToInt] at q; omega
      · rw [z_lt, c0] at q; omega
      · rw [z_lt] at q; simp only [Int32.reduceToInt] at q; omega
      · let R : Nat → Nat := fun h => y_bn (fun o => decide (z_far A h o ≤ a2.toInt)) N
        have Re : ∀ h, R h = y_bn (fun o => decide (z_far A h o ≤ a2.toInt)) N := fun _ => rfl
        have Rl : ∀ h, R h < 2 ^ 8 := fun h => Nat.lt_of_lt_of_le (bn_lt _ N) p8
        have near : ∀ (σ : x_T) (h : Nat) (Q : x_T → Int32 → Prop), x_fr x_sc τ σ → h < 8 → Q σ (nI (R h)) → x_CI 1998 mX0_nearBits [.ref 339, .int (nI h), .int a2] σ Q := by
          intro σ h Q fσ hh hQ
          have cσ : x_cl 1 σ A := clB_fr hc (fun c hc => fσ.1 c (by unfold x_sc; omega))
          have c0 := cσ.1
          have zh : (nI h).toInt = h := z_n (by omega)
          refine e_X0_nearBits ?_
          have loop : ∀ k, k ≤ N → (fun k => x_WI 1998 mX0_nearBits Q 5 [(0, .ref 339), (1, .int (nI h)), (2, .int a2), (3, .int (nI (y_bn (fun o => decide (z_far A h o ≤ a2.toInt)) k))), (4, .int (nI k))] [] σ) k := by
            refine z_down ?_ ?_
            · exact k_X0_nearBits_5 ⟨fun _ => hQ, fun q => absurd (by rw [z_le, c0, z_n (by omega)]; omega) q⟩
            · intro k hk ih
              have zk : (nI k).toInt = k := z_n (by omega)
              refine k_X0_nearBits_5 ⟨fun q => ?_, fun _ => cl_wayBetween cσ wA (fun u hu => ⟨fun q => k_X0_nearBits_38 (fun y1 e1 => ?_), fun q y3 e3 => k_X0_nearBits_38 (fun y1 e1 => ?_)⟩)⟩
              · rw [z_le, c0, zk] at q; omega
              · rw [zh, zk] at hu
                rw [z_lt, hu] at q
                rw [y_bn, if_neg (by rw [decide_eq_true_iff]; omega)] at ih
                rw [e1, ← nI_succ]
                exact ih
              · rw [zh, zk] at hu
                rw [z_lt, hu] at q
                rw [y_bn, if_pos (decide_eq_true (by omega))] at ih
                rw [e1, ← nI_succ, e3, yb_one (by omega), yb_or]
                exact ih
          exact loop 0 (by omega)
        have wat : ∀ (σ : x_T) (s : Nat) (Q : x_T → Int32 → Prop), s < 2 ^ N → (∀ h, h < 8 → σ.1 340 h = nI (R h)) → Q σ (nI (y_bn (y_wq A N a2.toInt s) N)) → x_CI 1998 mX0_watchedBy [.ref 339, .int (nI s)] σ Q := by
          intro σ s Q hs hr hQ
          refine e_X0_watchedBy ?_
          have fin : y_ow s R 8 = y_bn (y_wq A N a2.toInt s) N := by
            apply Nat.eq_of_testBit_eq
            intro j
            rw [bn_bit, Bool.eq_iff_iff, ow_bit, Bool.and_eq_true, decide_eq_true_iff, y_wq, decide_eq_true_iff]
            constructor
            · rintro ⟨i, h1, h2, h3⟩
              rw [Re, bn_bit, Bool.and_eq_true, decide_eq_true_iff, decide_eq_true_iff] at h3
              have hi : i < N := by
                rcases Nat.lt_or_ge i N with r | r
                · exact r
                · rw [Nat.testBit_lt_two_pow (Nat.lt_of_lt_of_le hs (Nat.pow_le_pow_right (by omega) r))] at h2
                  exact absurd h2 (by decide)
              refine ⟨h3.1, i, hi, h2, ?_⟩
              rw [← far_W (by omega) (by omega)]
              exact h3.2
            · rintro ⟨h1, i, hi, h2, h3⟩
              refine ⟨i, by omega, h2, ?_⟩
              rw [Re, bn_bit, Bool.and_eq_true, decide_eq_true_iff, decide_eq_true_iff, far_W (by omega) (by omega)]
              exact ⟨h1, h3⟩
          rw [← fin] at hQ
          have loop : ∀ k, k ≤ 8 → (fun k => x_WI 1998 mX0_watchedBy Q 4 [(0, .ref 339), (1, .int (nI s)), (2, .int (nI (y_ow s R k))), (3, .int (nI k))] [] σ) k := by
            refine z_down ?_ ?_
            · exact k_X0_watchedBy_4 ⟨fun _ => hQ, fun q => absurd (by decide) q⟩
            · intro k hk ih
              refine k_X0_watchedBy_4 ⟨fun q => absurd q (nI_ge (a := k) (b := 8) (by omega) (by decide)), fun _ => ⟨fun q => k_X0_watchedBy_27 (fun y1 e1 => ?_), fun q => ⟨vp_in_nI (by omega) (by decide), fun y1 e1 => k_X0_watchedBy_27 (fun y2 e2 => ?_)⟩⟩⟩
              · rw [yb_b0 (by omega) (by omega)] at q
                rw [y_ow, if_neg (by rw [q]; decide)] at ih
                rw [e1, ← nI_succ]
                exact ih
              · rw [yb_b0 (by omega) (by omega), Bool.not_eq_false] at q
                rw [y_ow, if_pos q] at ih
                rw [e2, ← nI_succ, e1, nI_clamp (by omega), hr k hk, yb_or]
                exact ih
          exact loop 0 (by omega)
        have loop2 : ∀ k, k ≤ 256 → (fun k => ∀ (σ : x_T) (v m : Int32), x_fr x_sc τ σ → (∀ h, h < 8 → σ.1 340 h = nI (R h)) → v.toInt = y_bw c g k → m.toInt = (if y_bw c g k = -1 then -1 else (c (y_bw c g k).toNat : Int)) → x_WI 1999 mX0_bestWatch K 34 [(0, .ref 339), (1, .int a1), (3, .int v), (4, .int m), (5, .int (nI k))] [] σ) k := by
          refine z_down ?_ ?_
          · intro σ v m fσ hr hv hm
            refine k_X0_bestWatch_34 ⟨fun _ => hK σ v fσ ?_, fun q => absurd (by decide) q⟩
            rw [hv, bw_tr (N := 2 ^ N) 256 (by omega) gN]
          · intro k hk ih σ v m fσ hr hv hm
            have cσ : x_cl 1 σ A := clB_fr hc (fun c hc => fσ.1 c (by unfold x_sc; omega))
            have c0 := cσ.1
            have e0 : σ.1 1 0 = nI N := z_of (by omega) (by rw [c0, hN])
            have zk : (nI k).toInt = k := z_n (by omega)
            have sh : nI k >>> (σ.1 1 0 &&& 31) = nI (k / 2 ^ N) := by rw [e0]; exact pk_shrN (by omega) _ N (yb_sl N (by omega))
            have kd : k / 2 ^ N ≤ k := Nat.div_le_self _ _
            have ctl := ct_le (fun j => k.testBit j) 8
            have skip : ¬ (g k = true ∧ (y_bw c g k = -1 ∨ c (y_bw c g k).toNat < c k)) → x_WI 1999 mX0_bestWatch K 89 [(0, .ref 339), (1, .int a1), (3, .int v), (4, .int m), (5, .int (nI k))] [] σ := by
              intro z
              refine k_X0_bestWatch_89 (fun y1 e1 => ?_)
              rw [e1, ← nI_succ]
              have e : y_bw c g (k + 1) = y_bw c g k := by rw [y_bw, if_neg z]
              exact ih σ v m fσ hr (by rw [e, hv]) (by rw [e, hm])
            refine k_X0_bestWatch_34 ⟨fun q => absurd q (nI_ge (a := k) (b := 256) (by omega) (by decide)), fun _ => cl_bitCount hk ⟨fun q => skip ?_, fun q => ⟨fun q2 => skip ?_, fun q2 => ?_⟩⟩⟩
            · rw [z_eq, z_n (by omega), hn] at q
              rintro ⟨z, -⟩
              rw [ge, decide_eq_true_iff] at z
              omega
            · rintro ⟨z, -⟩
              rw [ge, decide_eq_true_iff] at z
              rw [sh, Nat.div_eq_of_lt z.2] at q2
              exact q2 rfl
            · rw [z_eq, z_n (by omega), hn] at q
              rw [sh, z_eq, z_n (by omega)] at q2
              simp only [Int32.reduceToInt] at q2
              have hlt : k < 2 ^ N := by
                rcases Nat.lt_or_ge k (2 ^ N) with r | r
                · exact r
                · have := Nat.div_pos r (Nat.pow_pos (by omega)); omega
              have gk : g k = true := by rw [ge]; exact decide_eq_true ⟨by omega, hlt⟩
              have bl : y_bn (y_wq A N a2.toInt k) N < 256 := Nat.lt_of_lt_of_le (bn_lt _ N) p8
              have cc : y_ct (fun j => (y_bn (y_wq A N a2.toInt k) N).testBit j) 8 = c k := by
                have t1 := ct_tr (Q := fun j => (y_bn (y_wq A N a2.toInt k) N).testBit j) (N := N) 8 (by omega) (fun j hj => by show (y_bn (y_wq A N a2.toInt k) N).testBit j = false; rw [bn_bit, decide_eq_false (by omega), Bool.false_and])
                have t2 := ct_cg (Q := fun j => (y_bn (y_wq A N a2.toInt k) N).testBit j) (R := y_wq A N a2.toInt k) N (fun j hj => by show (y_bn (y_wq A N a2.toInt k) N).testBit j = _; rw [bn_bit, decide_eq_true hj, Bool.true_and])
                exact t1.trans t2
              have b1 := cb k
              have b2 := cb (y_bw c g k).toNat
              refine wat σ k _ hlt hr (cl_bitCount bl ⟨fun q3 => skip ?_, fun q3 => k_X0_bestWatch_89 (fun y1 e1 => ?_)⟩)
              · rw [cc, z_le, hm, z_n (by omega)] at q3
                rintro ⟨-, z⟩
                split at q3 <;> omega
              · rw [cc, z_le, hm, z_n (by omega)] at q3
                have e : y_bw c g (k + 1) = k := by
                  rw [y_bw, if_pos]
                  refine ⟨gk, ?_⟩
                  split at q3
                  · rename_i r; exact Or.inl r
                  · exact Or.inr (by omega)
                rw [e1, ← nI_succ]
                refine ih σ (nI k) _ fσ hr (by rw [e, zk]) ?_
                rw [cc, e, z_n (by omega), if_neg (by omega)]; rfl
        have fill : ∀ k, k ≤ 8 → (fun k => ∀ σ : x_T, x_fr x_sc τ σ → (∀ h, h < k → σ.1 340 h = nI (R h)) → x_WI 1999 mX0_bestWatch K 2 [(0, .ref 339), (1, .int a1), (2, .int a2), (3, .int (nI k))] [] σ) k := by
          refine z_down ?_ ?_
          · intro σ fσ hr
            exact k_X0_bestWatch_2 ⟨fun _ => loop2 0 (by omega) σ (-1) (-1) fσ hr (by rw [y_bw]; exact n1) (by rw [y_bw, if_pos rfl]; exact n1), fun q => absurd (by decide) q⟩
          · intro k hk ih σ fσ hr
            refine k_X0_bestWatch_2 ⟨fun q => absurd q (nI_ge (a := k) (b := 8) (by omega) (by decide)), fun _ => near σ k _ fσ hk ⟨vp_in_nI (by omega) (by decide), fun t3 e3 y4 e4 => ?_⟩⟩
            rw [e4, ← nI_succ]
            rw [nI_clamp (by omega)] at e3
            refine ih t3 (by rw [e3]; exact fr_w fσ (by unfold x_sc; omega)) (fun j hj => ?_)
            rw [e3, w1_at]
            by_cases r : j = k
            · rw [if_pos ⟨rfl, r⟩, r]
            · rw [if_neg (fun z => r z.2)]; exact hr j (by omega)
        exact fill 0 (by omega) τ (fr_r _ _) (fun j hj => by omega)
      · rw [z_le] at q; simp only [Int32.reduceToInt] at q; omega
    · have hmσ := hmX_fr hmm f
      have m0 := jA_at hmσ.1 0
      refine e_X12_watch (ml_in (fun _ _ => ⟨fun z => absurd z z_10, fun _ => ml_in (fun _ _ => ⟨fun z => absurd z z_10, fun _ => ⟨fun _ => ml_laysNow hmσ wA (fun σ1 f1 g1 mc1 hm1 => ?_), fun q => absurd (by rw [z_le, m0]; omega) q⟩⟩) (fun q => ?_)⟩) (fun q => ?_))
      · have fx := fr_m s69_x f1
        have m0 := jA_at hm1.1 0
        have hf := mc1.2.1
        have e0 : σ1.1 346 0 = nI N := z_of (by omega) (by rw [m0, hN])
        have sh : (1 : Int32) <<< (σ1.1 346 0 &&& 31) = nI (2 ^ N) := by rw [e0]; exact yb_one (by omega)
        have wat : ∀ (s : Nat) (Q : x_T → Int32 → Prop), s < 256 → Q σ1 (nI (c s)) → x_CI 1999 mX12_watchedBy [.ref 345, .int (nI s), .int a2] σ1 Q := by
          intro s Q hs hQ
          refine e_X12_watchedBy ?_
          have loop : ∀ k, k ≤ N → (fun k => x_WI 1999 mX12_watchedBy Q 5 [(0, .ref 345), (1, .int (nI s)), (2, .int a2), (3, .int (nI (y_ct (y_wq A N a2.toInt s) k))), (4, .int (nI k))] [] σ1) k := by
            refine z_down ?_ ?_
            · exact k_X12_watchedBy_5 ⟨fun _ => hQ, fun q => absurd (by rw [z_le, m0, z_n (by omega)]; omega) q⟩
            · intro k hk ih
              have zk : (nI k).toInt = k := z_n (by omega)
              have inner : ∀ i, i ≤ N → (fun i => ∀ v : Int32, v = z_b (decide (∃ h, h < i ∧ s.testBit h = true ∧ z_W A h k ≤ a2.toInt)) → x_WI 1999 mX12_watchedBy Q 22 [(0, .ref 345), (1, .int (nI s)), (2, .int a2), (3, .int (nI (y_ct (y_wq A N a2.toInt s) k))), (4, .int (nI k)), (5, .int v), (6, .int (nI i))] [] σ1) i := by
                refine z_down ?_ ?_
                · intro v hv
                  have hv : v = z_b (y_wq A N a2.toInt s k) := hv
                  refine k_X12_watchedBy_22 ⟨fun _ => ⟨fun q => k_X12_watchedBy_88 (fun y1 e1 y2 e2 => ?_), fun q => k_X12_watchedBy_88 (fun y1 e1 y2 e2 => ?_)⟩, fun q => absurd (by rw [z_le, m0, z_n (by omega)]; omega) q⟩
                  · rw [hv, z_b0] at q
                    rw [y_ct, q, if_neg (by decide), Nat.add_zero] at ih
                    rw [e2, ← nI_succ, e1, Int32.add_zero]
                    exact ih
                  · have q : y_wq A N a2.toInt s k = true := by
                      cases hb : y_wq A N a2.toInt s k
                      · rw [hv, hb] at q; exact absurd rfl q
                      · rfl
                    rw [y_ct, if_pos q, nI_succ] at ih
                    rw [e2, ← nI_succ, e1]
                    exact ih
                · intro i hi ihi v hv
                  have zi : (nI i).toInt = i := z_n (by omega)
                  have nx : ∀ s1 : Int32, s1 = z_b (decide (∃ h, h < i + 1 ∧ s.testBit h = true ∧ z_W A h k ≤ a2.toInt)) → x_WI 1999 mX12_watchedBy Q 69 [(0, .ref 345), (1, .int (nI s)), (2, .int a2), (3, .int (nI (y_ct (y_wq A N a2.toInt s) k))), (4, .int (nI k)), (6, .int (nI i))] [.int s1] σ1 := by
                    intro s1 hs1
                    refine k_X12_watchedBy_69 (fun y1 e1 => ?_)
                    rw [e1, ← nI_succ]
                    exact ihi s1 hs1
                  have ye : (∃ h, h < i + 1 ∧ s.testBit h = true ∧ z_W A h k ≤ a2.toInt) → x_WI 1999 mX12_watchedBy Q 64 [(0, .ref 345), (1, .int (nI s)), (2, .int a2), (3, .int (nI (y_ct (y_wq A N a2.toInt s) k))), (4, .int (nI k)), (6, .int (nI i))] [] σ1 := fun z => k_X12_watchedBy_64 (nx 1 (by rw [decide_eq_true z]; rfl))
                  have no : ¬ (∃ h, h < i + 1 ∧ s.testBit h = true ∧ z_W A h k ≤ a2.toInt) → x_WI 1999 mX12_watchedBy Q 68 [(0, .ref 345), (1, .int (nI s)), (2, .int a2), (3, .int (nI (y_ct (y_wq A N a2.toInt s) k))), (4, .int (nI k)), (6, .int (nI i))] [] σ1 := fun z => k_X12_watchedBy_68 (nx 0 (by rw [decide_eq_false z]; rfl))
                  have ix : (8 : Int32) * nI i + nI k = nI (8 * i + k) := by rw [show (8 : Int32) * nI i = nI (8 * i) from n_mul 8 i, n_add]
                  have fv := hf (8 * i + k) (by omega)
                  rw [show (8 * i + k) / 8 = i by omega, show (8 * i + k) % 8 = k by omega] at fv
                  refine k_X12_watchedBy_22 ⟨fun q => ?_, fun _ => ⟨fun q => ye ?_, fun q => ?_⟩⟩
                  · rw [z_le, m0, zi] at q; omega
                  · have : decide (∃ h, h < i ∧ s.testBit h = true ∧ z_W A h k ≤ a2.toInt) = true := by
                      cases hb : decide (∃ h, h < i ∧ s.testBit h = true ∧ z_W A h k ≤ a2.toInt)
                      · rw [hv, hb] at q; exact absurd rfl q
                      · rfl
                    obtain ⟨j, h1, h2, h3⟩ := of_decide_eq_true this
                    exact ⟨j, by omega, h2, h3⟩
                  · rw [hv, z_b0, decide_eq_false_iff_not] at q
                    have only : ¬ (s.testBit i = true ∧ z_W A i k ≤ a2.toInt) → ¬ (∃ h, h < i + 1 ∧ s.testBit h = true ∧ z_W A h k ≤ a2.toInt) := by
                      rintro z ⟨j, h1, h2, h3⟩
                      by_cases r : j = i
                      · rw [r] at h2 h3; exact z ⟨h2, h3⟩
                      · exact q ⟨j, by omega, h2, h3⟩
                    refine e_X12_has ⟨fun q2 => ⟨fun _ => no (only ?_), fun z => absurd rfl z⟩, fun q2 => ⟨fun z => absurd z z_10, fun _ => ?_⟩⟩
                    · rw [yb_b1 (by omega) (by omega)] at q2
                      exact fun z => q2 z.1
                    · rw [yb_b1 (by omega) (by omega)] at q2
                      rw [ix, nI_clamp (by omega)]
                      refine ⟨vp_in_nI (by omega) (by decide), fun q3 => no (only ?_), fun q3 => ye ⟨i, by omega, q2, ?_⟩⟩
                      · rw [z_lt, fv] at q3
                        exact fun z => by have := z.2; omega
                      · rw [z_lt, fv] at q3; omega
              refine k_X12_watchedBy_5 ⟨fun q => ?_, fun _ => inner 0 (by omega) 0 ?_⟩
              · rw [z_le, m0, zk] at q; omega
              · rw [decide_eq_false (fun ⟨j, hj, _⟩ => by omega)]; rfl
          exact loop 0 (by omega)
        have loop : ∀ k, k ≤ 2 ^ N → (fun k => ∀ v : Int32, v.toInt = y_bw c g k → x_WI 2000 mX12_watch K 40 [(0, .ref 345), (1, .int a1), (2, .int a2), (3, .int v), (4, .int (nI k))] [] σ1) k := by
          refine z_down ?_ ?_
          · intro v hv
            refine k_X12_watch_40 ⟨fun _ => hK σ1 v fx hv, fun q => absurd ?_ q⟩
            rw [sh, z_le]; exact Int.le_refl _
          · intro k hk ih v hv
            have zk : (nI k).toInt = k := z_n (by omega)
            have ctl := ct_le (fun j => k.testBit j) 8
            have b1 := cb k
            have b2 := cb (y_bw c g k).toNat
            have bb := bw_b c g k
            have skip : ¬ (g k = true ∧ (y_bw c g k = -1 ∨ c (y_bw c g k).toNat < c k)) → x_WI 2000 mX12_watch K 86 [(0, .ref 345), (1, .int a1), (2, .int a2), (3, .int v), (4, .int (nI k))] [] σ1 := by
              intro z
              refine k_X12_watch_86 (fun y1 e1 => ?_)
              rw [e1, ← nI_succ]
              exact ih v (by rw [y_bw, if_neg z, hv])
            have take : (g k = true ∧ (y_bw c g k = -1 ∨ c (y_bw c g k).toNat < c k)) → x_WI 2000 mX12_watch K 83 [(0, .ref 345), (1, .int a1), (2, .int a2), (4, .int (nI k))] [] σ1 := by
              intro z
              refine k_X12_watch_83 (k_X12_watch_86 (fun y1 e1 => ?_))
              rw [e1, ← nI_succ]
              exact ih (nI k) (by rw [y_bw, if_pos z, zk])
            refine k_X12_watch_40 ⟨fun q => ?_, fun _ => ml_many (by omega) ⟨fun q => skip ?_, fun q => ⟨fun q2 => take ?_, fun q2 => ?_⟩⟩⟩
            · rw [sh, z_le, zk, z_n (by omega)] at q; omega
            · rw [z_eq, z_n (by omega), hn] at q
              rintro ⟨z, -⟩
              rw [ge, decide_eq_true_iff] at z
              omega
            · rw [z_eq, z_n (by omega), hn] at q
              rw [z_eq, hv, n1] at q2
              exact ⟨by rw [ge]; exact decide_eq_true ⟨by omega, hk⟩, Or.inl q2⟩
            · rw [z_eq, z_n (by omega), hn] at q
              rw [z_eq, hv, n1] at q2
              have ev : v = nI (y_bw c g k).toNat := z_of (by omega) (by omega)
              rw [ev]
              refine wat k _ (by omega) (wat _ _ (by omega) ⟨fun q3 => ?_, fun q3 => take ?_⟩)
              · rw [z_le, z_n (by omega), z_n (by omega)] at q3
                rw [← ev]
                exact skip (fun z => by omega)
              · rw [z_le, z_n (by omega), z_n (by omega)] at q3
                exact ⟨by rw [ge]; exact decide_eq_true ⟨by omega, hk⟩, Or.inr (by omega)⟩
        refine loop 1 (Nat.pow_pos (by omega)) (-1) ?_
        rw [y_bw, if_neg (by rw [g0]; rintro ⟨z, -⟩; exact absurd z (by decide)), y_bw]
        exact n1
      · simp only [Int32.reduceToInt] at q; omega
      · simp only [Int32.reduceToInt] at q; omega
  · refine pair_q h (-1) (fun K hK => ?_) (fun σ f K hK => ?_)
    · have bad : K τ (-1) := hK τ _ (fr_r _ _) (by decide)
      refine e_X11_watch ⟨fun q => bad, fun q1 => ⟨fun q => bad, fun q2 => ⟨fun q => bad, fun q3 => ⟨fun q => bad, fun q4 => ⟨fun q5 => ?_, fun q => bad⟩⟩⟩⟩⟩
      rw [z_lt] at q1 q2 q3 q4
      rw [c0] at q3
      rw [z_le] at q5
      simp only [Int32.reduceToInt] at q1 q2 q4 q5
      omega
    · have bad : K σ (-1) := hK σ _ (fr_r _ _) (by decide)
      have m0 := jA_at (hmX_fr hmm f).1 0
      refine e_X12_watch (ml_in (fun r1 r2 => ⟨fun _ => bad, fun _ => ml_in (fun r3 r4 => ⟨fun _ => bad, fun _ => ⟨fun r5 => ?_, fun _ => bad⟩⟩) (fun q => ⟨fun _ => bad, fun z => absurd rfl z⟩)⟩) (fun q => ⟨fun _ => bad, fun z => absurd rfl z⟩))
      rw [z_le, m0] at r5
      simp only [Int32.reduceToInt] at r1 r2 r3 r4
      omega
