/-! the class cuts: words, numbers, signs -/
theorem cl_wordOf {d k m n : Nat} {v1 v2 : Int32} {σ : x_T} {b : Nat → Int} {K : x_T → Int32 → Prop} (hb : q_cb σ b n) (h1 : v1.toInt = k) (h2 : v2.toInt = (k + m : Nat)) (hm : 1 ≤ m) (hkm : k + m ≤ n) (hK : ∀ u : Int32, u.toInt = q_wk b k m → K σ u) : x_CI (d + 1 + 1 + 1 + 1) mX8_wordOf [.ref 314, .int v1, .int v2] σ K := by
  have n3 := hb.2.1
  have sb : (v2 - v1).toInt = m := by rw [z_sub (by rw [h1, h2]; omega), h1, h2]; omega
  refine e_X8_wordOf ⟨fun q => ?_, fun q => hK 47 ?_⟩
  · rw [z_le, sb] at q
    simp only [Int32.reduceToInt] at q
    have m8 : m ≤ 8 := by omega
    have hK : ∀ u : Int32, u.toInt = (if z_first (q_mt b k m) 32 0 = -1 then 47 else z_first (q_mt b k m) 32 0) → K σ u := fun u hu => hK u (by rw [q_wk, if_pos m8]; exact hu)
    generalize hZ : z_first (q_mt b k m) 32 0 = Z at hK
    have words : ∀ (f q : Nat), q + f = 32 → Z = z_first (q_mt b k m) f q → x_WI (d + 1 + 1 + 1 + 1) mX8_wordOf K 19 [(0, .ref 314), (1, .int v1), (2, .int v2), (3, .int (nI q)), (4, .int 0), (5, .int (nI (q_so.getD q 0)))] [] σ := by
      intro f
      induction f with
      | zero =>
        intro q hq hz
        have e : q = 32 := by omega
        subst e
        have e160 : q_so.getD 32 0 = 160 := by decide
        rw [e160]
        refine k_X8_wordOf_19 ⟨fun _ => hK 47 ?_, fun q => absurd (by decide) q⟩
        have : Z = -1 := hz
        rw [this, if_pos rfl]; rfl
      | succ f ih =>
        intro q hq hz
        obtain ⟨w1, w2, w3, w4, w5, w6⟩ := q_ws q (by omega)
        rw [z_first] at hz
        have nextw : ¬ q_mt b k m q = true → x_WI (d + 1 + 1 + 1 + 1) mX8_wordOf K 19 [(0, .ref 314), (1, .int v1), (2, .int v2), (3, .int (nI (q + 1))), (4, .int 0), (5, .int (nI (q_so.getD (q + 1) 0)))] [] σ := by
          intro z
          rw [if_neg z] at hz
          exact ih (q + 1) (by omega) hz
        have loop : ∀ j, j ≤ q_wl.getD q 0 → (fun j : Nat => ∀ v4 : Int32, ((∀ i, i < j → i < m ∧ b (k + i) = q_ch q i) → v4.toInt = j) → (¬ (∀ i, i < j → i < m ∧ b (k + i) = q_ch q i) → v4 = -1) → x_WI (d + 1 + 1 + 1 + 1) mX8_wordOf K 19 [(0, .ref 314), (1, .int v1), (2, .int v2), (3, .int (nI q)), (4, .int v4), (5, .int (nI (q_so.getD q 0 + j)))] [] σ) j := by
          refine z_down ?_ ?_
          · intro v4 g1 g0
            refine k_X8_wordOf_19 ⟨fun z => absurd z (nI_ge (a := q_so.getD q 0 + q_wl.getD q 0) (b := 160) (by omega) (by decide)), fun _ => ⟨_, rfl, w2, fun y2 e2 => ⟨fun z => absurd (e2.trans w3) z, fun _ => ⟨fun z y6 e6 => ?_, fun z => ?_⟩⟩⟩⟩
            · refine k_X8_wordOf_99 (fun y1 e1 => ?_)
              rw [e1, ← nI_succ, e6, ← nI_succ, ← w1]
              refine nextw (fun y => z ?_)
              have y := of_decide_eq_true y
              rw [z_eq, sb]
              rw [g1 (fun i hi => ⟨by omega, y.2 i (by omega)⟩), y.1]
            · rw [z_eq, sb] at z
              have all : ∀ i, i < q_wl.getD q 0 → i < m ∧ b (k + i) = q_ch q i := by
                by_cases y : ∀ i, i < q_wl.getD q 0 → i < m ∧ b (k + i) = q_ch q i
                · exact y
                · rw [g0 y] at z
                  have : (-1 : Int32).toInt = -1 := by decide
                  omega
              have e := g1 all
              have mt : q_mt b k m q = true := decide_eq_true ⟨by omega, fun j hj => (all j (by omega)).2⟩
              refine hK (nI q) ?_
              rw [if_pos mt] at hz
              rw [hz, if_neg (by omega), z_n (by omega)]
          · intro j hj ih2 v4 g1 g0
            have wj := w6 j (by omega) hj
            have wr : ∀ v : Int32, ((∀ i, i < j + 1 → i < m ∧ b (k + i) = q_ch q i) → v.toInt = (j + 1 : Nat)) → (¬ (∀ i, i < j + 1 → i < m ∧ b (k + i) = q_ch q i) → v = -1) → x_WI (d + 1 + 1 + 1 + 1) mX8_wordOf K 99 [(0, .ref 314), (1, .int v1), (2, .int v2), (3, .int (nI q)), (4, .int v), (5, .int (nI (q_so.getD q 0 + j)))] [] σ := by
              intro v a1 a0
              refine k_X8_wordOf_99 (fun y1 e1 => ?_)
              rw [e1, ← nI_succ]
              exact ih2 v a1 a0
            have no : ¬ (∀ i, i < j + 1 → i < m ∧ b (k + i) = q_ch q i) → x_WI (d + 1 + 1 + 1 + 1) mX8_wordOf K 96 [(0, .ref 314), (1, .int v1), (2, .int v2), (3, .int (nI q)), (5, .int (nI (q_so.getD q 0 + j)))] [] σ := fun z => k_X8_wordOf_96 (wr (-1) (fun y => absurd y z) (fun _ => rfl))
            refine k_X8_wordOf_19 ⟨fun z => absurd z (nI_ge (a := q_so.getD q 0 + j) (b := 160) (by omega) (by decide)), fun _ => ⟨_, rfl, by omega, fun y2 e2 => ⟨fun _ => ⟨fun z => no (fun y => ?_), fun z => ⟨fun z2 => no (fun y => ?_), fun z2 => ?_⟩⟩, fun z => absurd (e2.symm.trans z) wj.1⟩⟩⟩
            · have := g1 (fun i hi => y i (by omega))
              rw [z_lt, this] at z; simp only [Int32.reduceToInt] at z; omega
            · have e := g1 (fun i hi => y i (by omega))
              have yj := (y j (by omega)).1
              rw [z_le, h2, z_add (by rw [h1, e]; omega), h1, e] at z2
              omega
            · have all : ∀ i, i < j → i < m ∧ b (k + i) = q_ch q i := by
                by_cases y : ∀ i, i < j → i < m ∧ b (k + i) = q_ch q i
                · exact y
                · rw [g0 y] at z; exact absurd (by decide) z
              have e := g1 all
              have ea : (v1 + v4).toInt = (k + j : Nat) := by rw [z_add (by rw [h1, e]; omega), h1, e]; omega
              rw [z_le, h2, ea] at z2
              refine cl_byteAt hb ea (fun u hu => ⟨fun z3 => no (fun y => z3 ?_), fun z3 y5 e5 => wr y5 (fun _ => ?_) (fun y => ?_)⟩)
              · rw [e2, z_eq, hu, if_pos (by omega)]; exact (y j (by omega)).2
              · rw [e5, z_add (by rw [e]; simp only [Int32.reduceToInt]; omega), e]; simp only [Int32.reduceToInt]; omega
              · exfalso; apply y
                intro i hi
                by_cases r : i = j
                · rw [e2, z_eq, hu, if_pos (by omega)] at z3
                  rw [r]; exact ⟨by omega, z3⟩
                · exact all i (by omega)
        exact loop 0 (by omega) 0 (fun _ => rfl) (fun z => absurd (fun i hi => by omega) z)
    exact words 32 0 (by omega) hZ.symm
  · rw [z_le, sb] at q
    simp only [Int32.reduceToInt] at q
    rw [q_wk, if_neg (by omega)]; rfl
theorem nt_b {τ σ : x_T} {b : Nat → Int} {n i : Nat} (hb : q_cb τ b n) (h : q_nt τ σ b n i) : q_cb σ b n := ⟨h.2.1, hb.2.1, fun k hk => by rw [h.1.1 315 (by unfold q_sK; omega)]; exact hb.2.2 k hk⟩
theorem cl_cutWord {d n i : Nat} {v1 : Int32} {τ σ : x_T} {b : Nat → Int} {K : x_T → Int32 → Prop} (hb : q_cb τ b n) (h : q_nt τ σ b n i) (hi : i ≤ 300) (ht : q_tp b n i < n) (hv : v1.toInt = q_tp b n i) (hl : q_le (b (q_tp b n i)) = true) (hK : ∀ (ρ : x_T) (u : Int32), q_nt τ ρ b n (i + 1) → u.toInt = q_en b n (q_tp b n i) → K ρ u) : x_CI (d + 1 + 1 + 1 + 1 + 1) mX8_cutWord [.ref 314, .int v1] σ K := by
  have hbσ := nt_b hb h
  have n3 := hb.2.1
  have hKe : q_K b n i = q_wk b (q_tp b n i) (q_r q_le b n (q_tp b n i) - q_tp b n i) := by rw [q_K, if_pos ht, q_kd, if_pos hl]
  have hVe : q_V b n i = 0 := by rw [q_V, if_pos ht, q_va, if_pos hl]
  have hEe : q_en b n (q_tp b n i) = q_r q_le b n (q_tp b n i) := by rw [q_en, if_pos hl]
  rw [hEe] at hK
  generalize hp : q_tp b n i = p at ht hv hl hK hKe
  obtain ⟨r1, r2, r3, r4⟩ := r_b (P := q_le) (b := b) (n - p) p rfl (by omega)
  have r5 : p < q_r q_le b n p := by
    rw [r_go ht hl]
    have := (r_b (P := q_le) (b := b) (n - (p + 1)) (p + 1) rfl (by omega)).1
    omega
  generalize hr : q_r q_le b n p = e at r1 r2 r3 r4 r5 hK hKe
  refine e_X8_cutWord ?_
  have fin : ∀ v2 : Int32, v2.toInt = e → x_WI (d + 1 + 1 + 1 + 1 + 1) mX8_cutWord K 27 [(0, .ref 314), (1, .int v1), (2, .int v2)] [] σ := by
    intro v2 h2
    refine k_X8_cutWord_27 (cl_wordOf (m := e - p) hbσ hv (by rw [h2]; omega) (by omega) (by omega) (fun u hu => cl_note h hi (by rw [hu, hKe]) (by rw [hVe]; rfl) (by rw [hv, hp]) (fun ρ hρ => hK ρ v2 hρ h2)))
  have loop : ∀ k, k ≤ e → (fun k : Nat => p ≤ k → ∀ v2 : Int32, v2.toInt = k → x_WI (d + 1 + 1 + 1 + 1 + 1) mX8_cutWord K 2 [(0, .ref 314), (1, .int v1), (2, .int v2)] [] σ) k := by
    refine z_down ?_ ?_
    · intro _ v2 h2
      refine k_X8_cutWord_2 ⟨fun _ => fin v2 h2, fun q => cl_byteAt hbσ h2 (fun u hu => cl_isLetter (fun z => ?_) (fun z => ⟨fun _ => fin v2 h2, fun y => absurd rfl y⟩))⟩
      rw [z_le, hbσ.1, h2] at q
      rw [if_pos (by omega)] at hu
      rw [hu] at z
      exact absurd ⟨by omega, z⟩ r4
    · intro k hk ih hpk v2 h2
      have hl := r3 k hpk hk
      refine k_X8_cutWord_2 ⟨fun q => ?_, fun _ => cl_byteAt hbσ h2 (fun u hu => ?_)⟩
      · rw [z_le, hbσ.1, h2] at q; omega
      · rw [if_pos (by omega)] at hu
        refine cl_isLetter (fun z => ⟨fun y => absurd y z_10, fun _ y5 e5 => ih (by omega) y5 ?_⟩) (fun z => ?_)
        · rw [e5, z_add (by rw [h2]; simp only [Int32.reduceToInt]; omega), h2]; simp only [Int32.reduceToInt]; omega
        · rw [hu, hl] at z; exact absurd z (by decide)
  exact loop p (by omega) (Nat.le_refl _) v1 hv
theorem cl_cutNumber {d n i : Nat} {v1 : Int32} {τ σ : x_T} {b : Nat → Int} {K : x_T → Int32 → Prop} (hb : q_cb τ b n) (h : q_nt τ σ b n i) (hi : i ≤ 300) (ht : q_tp b n i < n) (hv : v1.toInt = q_tp b n i) (hl : q_le (b (q_tp b n i)) = false) (hd : q_di (b (q_tp b n i)) = true) (hK : ∀ (ρ : x_T) (u : Int32), q_nt τ ρ b n (i + 1) → u.toInt = q_en b n (q_tp b n i) → K ρ u) : x_CI (d + 1) mX8_cutNumber [.ref 314, .int v1] σ K := by
  have hbσ := nt_b hb h
  have n3 := hb.2.1
  have hl' : ¬ q_le (b (q_tp b n i)) = true := by rw [hl]; decide
  have hKe : q_K b n i = 45 := by rw [q_K, if_pos ht, q_kd, if_neg hl', if_pos hd]
  have hVe : q_V b n i = q_nc b (q_tp b n i) (q_r q_di b n (q_tp b n i) - q_tp b n i) := by rw [q_V, if_pos ht, q_va, if_neg hl', if_pos hd]
  have hEe : q_en b n (q_tp b n i) = q_r q_di b n (q_tp b n i) := by rw [q_en, if_neg hl', if_pos hd]
  rw [hEe] at hK
  generalize hp : q_tp b n i = p at ht hv hl hd hK hVe
  obtain ⟨r1, r2, r3, r4⟩ := r_b (P := q_di) (b := b) (n - p) p rfl (by omega)
  generalize hr : q_r q_di b n p = e at r1 r2 r3 r4 hK hVe
  refine e_X8_cutNumber ?_
  have ncb : ∀ j, p + j ≤ e → 0 ≤ q_nc b p j ∧ q_nc b p j ≤ 10000 := by
    intro j
    induction j with
    | zero => intro _; exact ⟨Int.le_refl _, by show (0 : Int) ≤ 10000; omega⟩
    | succ j ih =>
      intro hj
      have h1 := ih (by omega)
      have := of_decide_eq_true (r3 (p + j) (by omega) (by omega))
      rw [q_nc]; omega
  have fin : ∀ v2 v3 : Int32, v2.toInt = e → v3.toInt = q_nc b p (e - p) → x_WI (d + 1) mX8_cutNumber K 49 [(0, .ref 314), (1, .int v1), (2, .int v2), (3, .int v3)] [] σ := by
    intro v2 v3 h2 h3
    refine k_X8_cutNumber_49 (cl_note h hi (by rw [hKe]; rfl) (by rw [h3, hVe]) (by rw [hv, hp]) (fun ρ hρ => hK ρ v2 hρ h2))
  have loop : ∀ k, k ≤ e → (fun k : Nat => p ≤ k → ∀ v2 v3 : Int32, v2.toInt = k → v3.toInt = q_nc b p (k - p) → x_WI (d + 1) mX8_cutNumber K 4 [(0, .ref 314), (1, .int v1), (2, .int v2), (3, .int v3)] [] σ) k := by
    refine z_down ?_ ?_
    · intro _ v2 v3 h2 h3
      refine k_X8_cutNumber_4 ⟨fun _ => fin v2 v3 h2 h3, fun q => cl_byteAt hbσ h2 (fun u hu => cl_isDigit (fun z => ?_) (fun z => ⟨fun _ => fin v2 v3 h2 h3, fun y => absurd rfl y⟩))⟩
      rw [z_le, hbσ.1, h2] at q
      rw [if_pos (by omega)] at hu
      rw [hu] at z
      exact absurd ⟨by omega, z⟩ r4
    · intro k hk ih hpk v2 v3 h2 h3
      have hl := r3 k hpk hk
      have dg := of_decide_eq_true hl
      have nb := ncb (k - p) (by omega)
      refine k_X8_cutNumber_4 ⟨fun q => ?_, fun _ => cl_byteAt hbσ h2 (fun u hu => ?_)⟩
      · rw [z_le, hbσ.1, h2] at q; omega
      · rw [if_pos (by omega)] at hu
        refine cl_isDigit (fun z => ⟨fun y => absurd y z_10, fun _ => cl_byteAt hbσ h2 (fun u2 hu2 y7 e7 y8 e8 => ih (by omega) y8 y7 ?_ ?_)⟩) (fun z => ?_)
        · rw [e8, z_add (by rw [h2]; simp only [Int32.reduceToInt]; omega), h2]; simp only [Int32.reduceToInt]; omega
        · rw [if_pos (by omega)] at hu2
          have m1 : (v3 * 10).toInt = v3.toInt * 10 := z_mul (by simp only [Int32.reduceToInt]; omega)
          have m2 : (v3 * 10 + u2).toInt = v3.toInt * 10 + b k := by rw [z_add (by rw [m1, hu2]; omega), m1, hu2]
          have m3 : (v3 * 10 + u2 - 48).toInt = v3.toInt * 10 + b k - 48 := by rw [z_sub (by rw [m2]; simp only [Int32.reduceToInt]; omega), m2]; rfl
          rw [show k + 1 - p = (k - p) + 1 by omega, q_nc, ← h3, show p + (k - p) = k by omega, e7]
          split
          · rename_i y; rw [z_lt, m3] at y; simp only [Int32.reduceToInt] at y; rw [m3]; omega
          · rename_i y; rw [z_lt, m3] at y; simp only [Int32.reduceToInt] at y ⊢; omega
        · rw [hu, hl] at z; exact absurd z (by decide)
  exact loop p (by omega) (Nat.le_refl _) v1 0 hv (by rw [Nat.sub_self]; rfl)
theorem sg_ix : ∀ x, x < 256 → (if 0 ≤ (x_ix (nI x)).toInt then 32 + (x_ix (nI x)).toInt else 47) = q_sg x ∧ (x_ix (nI x)).toInt < 11 ∧ ((nI x).toUInt32 % 65536).toInt32 = nI x := by decide +kernel
theorem cl_cutSign {d n i : Nat} {v1 : Int32} {τ σ : x_T} {b : Nat → Int} {K : x_T → Int32 → Prop} (hb : q_cb τ b n) (h : q_nt τ σ b n i) (hi : i ≤ 300) (ht : q_tp b n i < n) (hv : v1.toInt = q_tp b n i) (hl : q_le (b (q_tp b n i)) = false) (hd : q_di (b (q_tp b n i)) = false) (hK : ∀ (ρ : x_T) (u : Int32), q_nt τ ρ b n (i + 1) → u.toInt = q_en b n (q_tp b n i) → K ρ u) : x_CI (d + 1 + 1 + 1 + 1) mX8_cutSign [.ref 314, .int v1] σ K := by
  have hbσ := nt_b hb h
  have n3 := hb.2.1
  have hl' : ¬ q_le (b (q_tp b n i)) = true := by rw [hl]; decide
  have hd' : ¬ q_di (b (q_tp b n i)) = true := by rw [hd]; decide
  have hVe : q_V b n i = 0 := by rw [q_V, if_pos ht, q_va, if_neg hl', if_neg hd']
  have hKe : q_K b n i = if q_2s b n (q_tp b n i) = true then (if b (q_tp b n i) = 60 then 43 else 44) else q_sg (b (q_tp b n i)) := by rw [q_K, if_pos ht, q_kd, if_neg hl', if_neg hd']
  have hEe : q_en b n (q_tp b n i) = if q_2s b n (q_tp b n i) = true then q_tp b n i + 2 else q_tp b n i + 1 := by rw [q_en, if_neg hl', if_neg hd']
  rw [hEe] at hK
  have bb := hb.2.2 (q_tp b n i) (by omega)
  generalize hp : q_tp b n i = p at ht hv hl hd hK hKe bb
  have one : ¬ q_2s b n p = true → ∀ u : Int32, u.toInt = b p → x_WI (d + 1 + 1 + 1 + 1) mX8_cutSign K 53 [(0, .ref 314), (1, .int v1), (2, .int u)] [] σ := by
    intro n2 u hu
    rw [if_neg n2] at hK hKe
    obtain ⟨x, hx⟩ : ∃ x : Nat, b p = x := ⟨(b p).toNat, by omega⟩
    have eu : u = nI x := z_of (by omega) (by rw [hu, hx])
    obtain ⟨s1, s2, s3⟩ := sg_ix x (by omega)
    rw [eu]
    refine k_X8_cutSign_53 ?_
    rw [s3]
    have zx : (nI x).toInt = x := z_n (by omega)
    have nx : (v1 + 1).toInt = ((p + 1 : Nat) : Int) := by rw [z_add (by rw [hv]; simp only [Int32.reduceToInt]; omega), hv]; simp only [Int32.reduceToInt]; omega
    refine ⟨fun z => ?_, fun z => ?_, fun y1 e1 => ⟨fun z => k_X8_cutSign_75 (cl_note h hi ?_ (by rw [hVe]; rfl) (by rw [hv, hp]) (fun ρ hρ => hK ρ _ hρ nx)), fun z => k_X8_cutSign_75 (cl_note h hi ?_ (by rw [hVe]; rfl) (by rw [hv, hp]) (fun ρ hρ => hK ρ _ hρ nx))⟩⟩
    · rw [z_lt, zx] at z; simp only [Int32.reduceToInt] at z; omega
    · rw [z_lt, zx] at z; simp only [Int32.reduceToInt] at z; omega
    · rw [z_le, e1] at z
      simp only [Int32.reduceToInt] at z
      rw [if_pos z] at s1
      rw [hKe, hx, ← s1, e1, z_add (by simp only [Int32.reduceToInt]; omega)]; rfl
    · rw [z_le, e1] at z
      simp only [Int32.reduceToInt] at z
      rw [if_neg z] at s1
      rw [hKe, hx, ← s1]; rfl
  have n1 : (v1 + 1).toInt = ((p + 1 : Nat) : Int) := by rw [z_add (by rw [hv]; simp only [Int32.reduceToInt]; omega), hv]; simp only [Int32.reduceToInt]; omega
  have two : (b p = 60 ∨ b p = 62) → ∀ u : Int32, u.toInt = b p → x_WI (d + 1 + 1 + 1 + 1) mX8_cutSign K 18 [(0, .ref 314), (1, .int v1), (2, .int u)] [] σ := by
    intro h6 u hu
    refine k_X8_cutSign_18 (cl_byteAt hbσ n1 (fun u2 hu2 => ⟨fun z => one (fun y => ?_) u hu, fun z => ?_⟩))
    · have y := of_decide_eq_true y
      rw [if_pos y.2.1] at hu2
      exact z (z_eq.mpr (by rw [hu2, y.2.2]; decide))
    · have e61 : u2.toInt = 61 := by rw [z]; decide
      have ts : q_2s b n p = true := by
        by_cases y : p + 1 < n
        · rw [if_pos y, e61] at hu2
          exact decide_eq_true ⟨h6, y, hu2.symm⟩
        · rw [if_neg y, e61] at hu2; omega
      rw [if_pos ts] at hK hKe
      have nx : (v1 + 2).toInt = ((p + 2 : Nat) : Int) := by rw [z_add (by rw [hv]; simp only [Int32.reduceToInt]; omega), hv]; simp only [Int32.reduceToInt]; omega
      refine ⟨fun y => k_X8_cutSign_44 (cl_note h hi ?_ (by rw [hVe]; rfl) (by rw [hv, hp]) (fun ρ hρ => hK ρ _ hρ nx)), fun y => k_X8_cutSign_44 (cl_note h hi ?_ (by rw [hVe]; rfl) (by rw [hv, hp]) (fun ρ hρ => hK ρ _ hρ nx))⟩
      · have : ¬ b p = 60 := fun w => y (z_eq.mpr (by rw [hu, w]; decide))
        rw [hKe, if_neg this]; rfl
      · have : b p = 60 := by rw [← hu, y]; decide
        rw [hKe, if_pos this]; rfl
  refine e_X8_cutSign (cl_byteAt hbσ hv (fun u hu => ?_))
  rw [if_pos ht] at hu
  refine ⟨fun z => two (Or.inl (by rw [← hu, z]; decide)) u hu, fun z1 => ⟨fun z2 => one (fun y => ?_) u hu, fun z => two (Or.inr (by rw [← hu, z]; decide)) u hu⟩⟩
  have y := (of_decide_eq_true y).1
  rcases y with y | y
  · exact z1 (z_eq.mpr (by rw [hu, y]; decide))
  · exact z2 (z_eq.mpr (by rw [hu, y]; decide))
/-- the tokens lie there -/
def q_C (σ : x_T) (b : Nat → Int) (n : Nat) : Prop := n ≤ 300 ∧ ∃ T, T ≤ n ∧ q_tp b n T = n ∧ (∀ i, i < T → q_tp b n i < n) ∧ (σ.1 314 1).toInt = n ∧ (σ.1 314 5).toInt = (T + 1 : Nat) ∧ ∀ i, i ≤ T → (σ.1 316 i).toInt = q_K b n i ∧ (σ.1 317 i).toInt = q_V b n i ∧ (σ.1 318 i).toInt = q_tp b n i
theorem cl_cut {d n : Nat} {τ : x_T} {b : Nat → Int} {K : x_T → Prop} (hb : q_cb τ b n) (hK : ∀ σ : x_T, x_fr q_sK τ σ → q_C σ b n → K σ) : x_CV (d + 1 + 1 + 1 + 1 + 1 + 1) mX8_cut [.ref 314] τ K := by
  have n3 := hb.2.1
  refine e_X8_cut (fun t1 e1 => ?_)
  have h0 : q_nt τ t1 b n 0 := ⟨by rw [e1]; exact fr_w (fr_r _ _) (Or.inl rfl), by rw [e1, w1_at, if_neg (by omega)]; exact hb.1, by rw [e1, w1_at, if_pos ⟨rfl, rfl⟩]; rfl, fun j hj => by omega⟩
  have fin : ∀ (σ : x_T) (i : Nat), q_nt τ σ b n i → i ≤ n → q_tp b n i = n → (∀ j, j < i → q_tp b n j < n) → x_WV (d + 1 + 1 + 1 + 1 + 1 + 1) mX8_cut K 92 [(0, .ref 314)] [] σ := by
    intro σ i h hi ht hall
    refine k_X8_cut_92 (cl_note h (by omega) (by rw [q_K, if_neg (by omega)]; rfl) (by rw [q_V, if_neg (by omega)]; rfl) (by rw [h.2.1, ht]) (fun ρ hρ => hK ρ hρ.1 ⟨n3, i, hi, ht, hall, hρ.2.1, hρ.2.2.1, fun j hj => hρ.2.2.2 j (by omega)⟩))
  have loop : ∀ (f a : Nat), n - a = f → a ≤ n → ∀ (σ : x_T) (i : Nat) (v1 v2 : Int32), q_nt τ σ b n i → i ≤ a → v1.toInt = a → 0 ≤ v2.toInt → v2.toInt ≤ a → q_r q_sp b n a = q_tp b n i → (∀ j, j < i → q_tp b n j < n) → x_WV (d + 1 + 1 + 1 + 1 + 1 + 1) mX8_cut K 9 [(0, .ref 314), (1, .int v1), (2, .int v2)] [] σ := by
    intro f
    induction f using Nat.strongRecOn with
    | _ f ih =>
      intro a hf ha σ i v1 v2 h hia h1 h20 h2 hr hall
      have hbσ := nt_b hb h
      by_cases an : a = n
      · have ht : q_tp b n i = n := by rw [← hr, an]; exact r_no (by omega)
        refine k_X8_cut_9 ⟨fun _ => fin σ i h (by omega) ht hall, fun _ => ⟨fun _ => fin σ i h (by omega) ht hall, fun z => absurd (by rw [z_le, hbσ.1, h1]; omega) z⟩⟩
      · have nx : ∀ (ρ : x_T) (i' : Nat) (w : Int32) (a' : Nat), q_nt τ ρ b n i' → a < a' → a' ≤ n → i' ≤ a' → w.toInt = a' → q_r q_sp b n a' = q_tp b n i' → (∀ j, j < i' → q_tp b n j < n) → x_WV (d + 1 + 1 + 1 + 1 + 1 + 1) mX8_cut K 86 [(0, .ref 314), (1, .int w), (2, .int v2)] [] ρ := by
          intro ρ i' w a' hρ haa han hia' hw hr' hall'
          refine k_X8_cut_86 (fun y1 e1 => ?_)
          have hy : y1.toInt = v2.toInt + 1 := by rw [e1, z_add (by simp only [Int32.reduceToInt]; omega)]; rfl
          exact ih (n - a') (by omega) a' rfl han ρ i' w y1 hρ hia' hw (by omega) (by omega) hr' hall'
        have space : q_sp (b a) = true → x_WV (d + 1 + 1 + 1 + 1 + 1 + 1) mX8_cut K 42 [(0, .ref 314), (1, .int v1), (2, .int v2)] [] σ := by
          intro z
          refine k_X8_cut_42 (fun y1 e1 => nx σ i y1 (a + 1) h (by omega) (by omega) (by omega) ?_ ?_ hall)
          · rw [e1, z_add (by rw [h1]; simp only [Int32.reduceToInt]; omega), h1]; simp only [Int32.reduceToInt]; omega
          · rw [← r_go (by omega) z]; exact hr
        refine k_X8_cut_9 ⟨fun z => ?_, fun _ => ⟨fun z => ?_, fun _ => cl_byteAt hbσ h1 (fun u hu => ?_)⟩⟩
        · rw [z_le] at z; simp only [Int32.reduceToInt] at z; omega
        · rw [z_le, hbσ.1, h1] at z; omega
        rw [if_pos (by omega)] at hu
        refine ⟨fun z => space (decide_eq_true (Or.inl (by rw [← hu, z]; decide))), fun z1 => ⟨fun z2 => ?_, fun z => space (decide_eq_true (Or.inr (by rw [← hu, z]; decide)))⟩⟩
        have ns : ¬ q_sp (b a) = true := by
          intro z
          rcases of_decide_eq_true z with z | z
          · exact z1 (z_eq.mpr (by rw [hu, z]; decide))
          · exact z2 (z_eq.mpr (by rw [hu, z]; decide))
        have ta : q_tp b n i = a := by rw [← hr]; exact r_no (fun z => ns z.2)
        have ht : q_tp b n i < n := by omega
        have eb := en_b (b := b) ht
        have go : ∀ (ρ : x_T) (w : Int32), q_nt τ ρ b n (i + 1) → w.toInt = q_en b n (q_tp b n i) → x_WV (d + 1 + 1 + 1 + 1 + 1 + 1) mX8_cut K 86 [(0, .ref 314), (1, .int w), (2, .int v2)] [] ρ := by
          intro ρ w hρ hw
          refine nx ρ (i + 1) w (q_en b n (q_tp b n i)) hρ (by omega) eb.2 (by omega) hw (tp_s ht).2.symm (fun j hj => ?_)
          by_cases r : j = i
          · rw [r]; exact ht
          · exact hall j (by omega)
        refine cl_isLetter (fun z => ⟨fun y => absurd y z_10, fun _ => cl_cutWord hb h (by omega) ht (by rw [ta]; exact h1) (by rw [ta, ← hu]; exact z) go⟩) (fun z => ⟨fun _ => cl_isDigit (fun y => ⟨fun w => absurd w z_10, fun _ => cl_cutNumber hb h (by omega) ht (by rw [ta]; exact h1) (by rw [ta, ← hu]; exact z) (by rw [ta, ← hu]; exact y) go⟩) (fun y => ⟨fun _ => cl_cutSign hb h (by omega) ht (by rw [ta]; exact h1) (by rw [ta, ← hu]; exact z) (by rw [ta, ← hu]; exact y) go, fun w => absurd rfl w⟩), fun y => absurd rfl y⟩)
  exact loop n 0 (by omega) (by omega) t1 0 0 0 h0 (by omega) rfl (by decide) (by decide) rfl (fun j hj => by omega)
theorem cl_kindAt {d i n : Nat} {v : Int32} {σ : x_T} {b : Nat → Int} {K : x_T → Int32 → Prop} (hC : q_C σ b n) (hv : v.toInt = i) (h : ∀ u : Int32, u.toInt = q_K b n i → K σ u) : x_CI d mX8_kindAt [.ref 314, .int v] σ K := by
  obtain ⟨n3, T, t1, t2, t3, t4, t5, t6⟩ := hC
  have late : T < i → q_K b n i = 46 := fun z => by
    have := tp_n t2 (i - T)
    rw [show T + (i - T) = i by omega] at this
    rw [q_K, if_neg (by omega)]
  refine e_X8_kindAt ⟨fun q => ?_, fun _ => ⟨fun q => h 46 ?_, fun q => ⟨fun r => ?_, fun r => ⟨ix_n ?_, h _ ?_⟩⟩⟩⟩
  · rw [z_lt, hv] at q; simp only [Int32.reduceToInt] at q; omega
  · rw [z_le, t5, hv] at q; rw [late (by omega)]; rfl
  · rw [z_le, t5, hv] at q; rw [z_le, hv] at r; simp only [Int32.reduceToInt] at r; omega
  · rw [z_le, hv] at r; simp only [Int32.reduceToInt] at r; omega
  · rw [z_le, t5, hv] at q
    rw [z_cl, hv, Int.toNat_natCast]
    exact (t6 i (by omega)).1
theorem cl_valueAt {d i n : Nat} {v : Int32} {σ : x_T} {b : Nat → Int} {K : x_T → Int32 → Prop} (hC : q_C σ b n) (hv : v.toInt = i) (h : ∀ u : Int32, u.toInt = q_V b n i → K σ u) : x_CI d mX8_valueAt [.ref 314, .int v] σ K := by
  obtain ⟨n3, T, t1, t2, t3, t4, t5, t6⟩ := hC
  have late : T < i → q_V b n i = 0 := fun z => by
    have := tp_n t2 (i - T)
    rw [show T + (i - T) = i by omega] at this
    rw [q_V, if_neg (by omega)]
  refine e_X8_valueAt ⟨fun q => ?_, fun _ => ⟨fun q => h 0 ?_, fun q => ⟨fun r => ?_, fun r => ⟨ix_n ?_, h _ ?_⟩⟩⟩⟩
  · rw [z_lt, hv] at q; simp only [Int32.reduceToInt] at q; omega
  · rw [z_le, t5, hv] at q; rw [late (by omega)]; rfl
  · rw [z_le, t5, hv] at q; rw [z_le, hv] at r; simp only [Int32.reduceToInt] at r; omega
  · rw [z_le, hv] at r; simp only [Int32.reduceToInt] at r; omega
  · rw [z_le, t5, hv] at q
    rw [z_cl, hv, Int.toNat_natCast]
    exact (t6 i (by omega)).2.1
theorem cl_placeAt {d i n : Nat} {v : Int32} {σ : x_T} {b : Nat → Int} {K : x_T → Int32 → Prop} (hC : q_C σ b n) (hv : v.toInt = i) (h : ∀ u : Int32, u.toInt = q_tp b n i → K σ u) : x_CI d mX8_placeAt [.ref 314, .int v] σ K := by
  obtain ⟨n3, T, t1, t2, t3, t4, t5, t6⟩ := hC
  have late : T < i → q_tp b n i = n := fun z => by
    have := tp_n t2 (i - T)
    rw [show T + (i - T) = i by omega] at this
    exact this
  refine e_X8_placeAt ⟨fun q => ?_, fun _ => ⟨fun q => h _ ?_, fun q => ⟨fun r => ?_, fun r => ⟨ix_n ?_, h _ ?_⟩⟩⟩⟩
  · rw [z_lt, hv] at q; simp only [Int32.reduceToInt] at q; omega
  · rw [z_le, t5, hv] at q; rw [late (by omega)]; exact t4
  · rw [z_le, t5, hv] at q; rw [z_le, hv] at r; simp only [Int32.reduceToInt] at r; omega
  · rw [z_le, hv] at r; simp only [Int32.reduceToInt] at r; omega
  · rw [z_le, t5, hv] at q
    rw [z_cl, hv, Int.toNat_natCast]
    exact (t6 i (by omega)).2.2
