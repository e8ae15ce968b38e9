/-! the model's next token -/
def q_is (x : Int) : Prop := (59 ≤ x ∧ x ≤ 62) ∨ (40 ≤ x ∧ x ≤ 45) ∨ x = 47 ∨ x = 35
def q_isb (x : Nat) : Bool := decide (59 ≤ x ∧ x ≤ 62) || decide (40 ≤ x ∧ x ≤ 45) || decide (x = 47) || decide (x = 35)
theorem is_b (x : Nat) : q_is x ↔ q_isb x = true := by
  unfold q_is q_isb
  simp only [Bool.or_eq_true, decide_eq_true_iff]
  omega
set_option maxRecDepth 20000 in
theorem sg_1 : ∀ x : Nat, x < 256 → q_isb x = true → q_sg x < 45 → (3 : Int) = q_fs (q_sg x).toNat ∧ (x : Int) = q_ft (q_sg x).toNat := by decide +kernel
set_option maxRecDepth 20000 in
theorem sg_2 : ∀ x : Nat, x < 256 → ¬ q_sg x = 45 ∧ ¬ q_sg x = 46 := by decide +kernel
set_option maxRecDepth 20000 in
theorem sg_3 : ∀ x : Nat, x < 256 → q_isb x = true → q_sg x = 47 → x = 44 := by decide +kernel
set_option maxRecDepth 20000 in
theorem sg_4 : ∀ x : Nat, x < 256 → q_isb x = false → q_sg x = 47 := by decide +kernel
theorem sg_R {x : Int} (h : 0 ≤ x ∧ x < 256) : (q_is x → q_R (q_sg x) 0 3 x) ∧ (¬ q_is x → ∀ t, q_R (q_sg x) 0 4 t) := by
  obtain ⟨k, hk⟩ : ∃ k : Nat, x = k := ⟨x.toNat, by omega⟩
  subst hk
  have hk : k < 256 := by omega
  refine ⟨fun z => ?_, fun z t => ?_⟩
  · rw [is_b] at z
    exact ⟨sg_1 k hk z, fun y => absurd y (sg_2 k hk).1, fun y => absurd y (sg_2 k hk).2, fun y => Or.inr ⟨rfl, by rw [sg_3 k hk z y]; rfl⟩⟩
  · rw [is_b, Bool.not_eq_true] at z
    rw [sg_4 k hk z]
    exact ⟨fun y => by omega, fun y => by omega, fun y => by omega, fun _ => Or.inl rfl⟩
theorem ml_next {d i n : Nat} {σ : x_T} {b : Nat → Int} {K : x_T → Prop} (hb : q_Mb σ b n) (h15 : (σ.1 345 15).toInt = q_ea b n i) (hK : ∀ ρ : x_T, q_fr σ ρ → q_T ρ b n i → K ρ) : x_CV (d + 1 + 1) mX12_next [.ref 345] σ K := by
  have n3 := hb.2.1
  obtain ⟨tb1, tb2, tb3⟩ := tp_b b n i
  refine e_X12_next ?_
  -- the token itself
  have tok : ∀ ρ : x_T, q_fr σ ρ → (ρ.1 345 15).toInt = q_tp b n i → x_WV (d + 1 + 1) mX12_next K 52 [(0, .ref 345)] [] ρ := by
    intro ρ f e15
    refine k_X12_next_52 (fun t1 e1 => ?_)
    have f1 : q_fr σ t1 := by rw [e1]; exact qf_w f (by omega) _
    have b1 := qf_b f1 hb
    have p15 : (t1.1 345 15).toInt = q_tp b n i := by rw [e1, w1_at, if_neg (by omega)]; exact e15
    have p16 : (t1.1 345 16).toInt = q_tp b n i := by rw [e1, w1_at, if_pos ⟨rfl, rfl⟩]; exact e15
    by_cases ht : q_tp b n i < n
    · have hea := (tp_s ht).1
      have hKe : q_K b n i = q_kd b n (q_tp b n i) := by rw [q_K, if_pos ht]
      have hVe : q_V b n i = q_va b n (q_tp b n i) := by rw [q_V, if_pos ht]
      generalize hp : q_tp b n i = p at ht p15 p16 hea hKe hVe
      have pb := b1.2.2 p (by omega)
      have cp : (t1.1 345 15).toNatClampNeg = p := by rw [z_cl, p15]; omega
      refine ⟨fun _ => ⟨ix_n (by omega), fun y2 e2 => ?_⟩, fun z => ?_⟩
      · rw [cp] at e2
        have hy : y2.toInt = q_sx (b p) := by rw [e2]; exact pb.1
        refine ml_isLetter (fun hl => ⟨fun z => absurd z z_10, fun _ => ?_⟩) (fun hl => ⟨fun _ => ml_in (fun d1 d2 => ⟨fun z => absurd z z_10, fun _ t13 e13 t14 e14 => ?_⟩) (fun dn => ⟨fun _ t7 e7 t8 e8 => ?_, fun z => absurd rfl z⟩), fun z => absurd rfl z⟩)
        · -- a word
          rw [hy, by_le _ pb.2] at hl
          obtain ⟨r1, r2, r3, r4⟩ := r_b (P := q_le) (b := b) (n - p) p rfl (by omega)
          have r5 : p < q_r q_le b n p := by
            rw [r_go ht hl]
            have := (r_b (P := q_le) (b := b) (n - (p + 1)) (p + 1) rfl (by omega)).1
            omega
          have hE : q_ea b n (i + 1) = q_r q_le b n p := by rw [hea, q_en, if_pos hl]
          have hK1 : q_K b n i = q_wk b p (q_r q_le b n p - p) := by rw [hKe, q_kd, if_pos hl]
          generalize hr : q_r q_le b n p = e at r1 r2 r3 r4 r5 hE hK1
          have lets : ∀ j, p + j < e → 65 ≤ b (p + j) ∧ b (p + j) ≤ 122 := fun j hj => by
            have := of_decide_eq_true (r3 (p + j) (by omega) hj); omega
          have pkb : ∀ j, p + j ≤ e → 0 ≤ q_pk (fun j => b (p + j)) j ∧ (j ≤ 9 → q_pk (fun j => b (p + j)) j ≤ 18014398509481984) := by
            intro j hj
            have h1 := pk_b (g := fun j => b (p + j)) j (fun j' hj' => lets j' (by omega))
            refine ⟨h1.1, fun h9 => ?_⟩
            have h2 : (64 : Int) ^ j ≤ 64 ^ 9 := (by decide : ∀ j, j < 10 → (64 : Int) ^ j ≤ 64 ^ 9) j (by omega)
            have h3 : (64 : Int) ^ 9 = 18014398509481984 := by decide
            omega
          have fin2 : ∀ (ρ : x_T) (v : Int32), q_fr σ ρ → (ρ.1 345 15).toInt = e → (ρ.1 345 16).toInt = p → (∀ s : Int, s = (if 0 ≤ v.toInt then 1 else 4) → q_R (q_K b n i) (q_V b n i) s v.toInt) → x_WV (d + 1 + 1) mX12_next K 189 [(0, .ref 345)] [.int v, .ref 345] ρ := by
            intro ρ v f2 g15 g16 hR
            refine k_X12_next_189 (fun t2 e2 => ?_)
            have v18 : t2.1 345 18 = v := by rw [e2, w1_at, if_pos ⟨rfl, rfl⟩]
            have last : ∀ s : Int32, s.toInt = (if 0 ≤ v.toInt then 1 else 4) → x_WV (d + 1 + 1) mX12_next K 205 [] [.int s, .ref 345] t2 := by
              intro s hs
              refine k_X12_next_205 (fun t3 e3 => hK t3 ?_ ⟨?_, ?_, ?_⟩)
              · rw [e3, e2]; exact qf_w (qf_w f2 (by omega) _) (by omega) _
              · rw [e3, w1_at, if_neg (by omega), e2, w1_at, if_neg (by omega), hE]; exact g15
              · rw [e3, w1_at, if_neg (by omega), e2, w1_at, if_neg (by omega), hp]; exact g16
              · rw [e3, w1_at, if_pos ⟨rfl, rfl⟩, w1_at, if_neg (by omega), v18]
                exact hR _ hs
            rw [v18]
            refine ⟨fun z => last 1 ?_, fun z => last 4 ?_⟩
            · rw [z_le] at z; simp only [Int32.reduceToInt] at z; rw [if_pos z]; rfl
            · rw [z_le] at z; simp only [Int32.reduceToInt] at z; rw [if_neg z]; rfl
          have fin1 : ∀ (ρ : x_T) (w2 : Int64) (v4 : Int32), q_fr σ ρ → (ρ.1 345 15).toInt = e → (ρ.1 345 16).toInt = p → v4.toInt = (e - p : Nat) → (e - p ≤ 9 → w2.toInt = q_pk (fun j => b (p + j)) (e - p)) → x_WV (d + 1 + 1) mX12_next K 173 [(0, .ref 345), (2, .long w2), (4, .int v4)] [] ρ := by
            intro ρ w2 v4 f2 g15 g16 h4 hw
            refine k_X12_next_173 ⟨fun z => ml_wordOf (hw (by rw [z_le, h4] at z; simp only [Int32.reduceToInt] at z; omega)) (fun q hq hc => fin2 ρ _ f2 g15 g16 (fun s hs => ?_)) (fun hno => fin2 ρ _ f2 g15 g16 (fun s hs => ?_)), fun z => fin2 ρ _ f2 g15 g16 (fun s hs => ?_)⟩
            · rw [z_le, h4] at z; simp only [Int32.reduceToInt] at z
              have qb : q_mw.getD q 0 < 32 := (by decide : ∀ q, q < 32 → q_mw.getD q 0 < 32) q hq
              have cdi : ∀ q', q' < 32 → q_cd.getD q 0 = q_cd.getD q' 0 → q = q' := fun q' hq' => (by decide +kernel : ∀ q, q < 32 → ∀ q', q' < 32 → q_cd.getD q 0 = q_cd.getD q' 0 → q = q') q hq q' hq'
              rw [hK1]
              refine R_w (n := n) _ (by omega) (fun j hj => lets j (by omega)) (fun _ => ⟨fun q' hq' hc' => ?_, fun hno => absurd hc (hno q hq)⟩) (fun y => absurd (by omega) y) s hs
              rw [cdi q' hq' (hc.symm.trans hc'), z_n (by have := (by decide : ∀ q, q < 32 → q_mw.getD q 0 < 32) q' hq'; omega)]
            · rw [z_le, h4] at z; simp only [Int32.reduceToInt] at z
              rw [hK1]
              exact R_w (n := n) _ (by omega) (fun j hj => lets j (by omega)) (fun _ => ⟨fun q' hq' hc' => absurd hc' (hno q' hq'), fun _ => by decide⟩) (fun y => absurd (by omega) y) s hs
            · rw [z_le, h4] at z; simp only [Int32.reduceToInt] at z
              rw [hK1]
              exact R_w (n := n) _ (by omega) (fun j hj => lets j (by omega)) (fun y => absurd (show ((e - p : Nat) : Int) ≤ 8 by omega) z) (fun _ => by decide) s hs
          have loop : ∀ k, k ≤ e → (fun k : Nat => p ≤ k → ∀ (ρ : x_T) (w2 : Int64) (v4 : Int32), q_fr σ ρ → (ρ.1 345 15).toInt = k → (ρ.1 345 16).toInt = p → v4.toInt = (k - p : Nat) → (k - p ≤ 9 → w2.toInt = q_pk (fun j => b (p + j)) (k - p)) → x_WV (d + 1 + 1) mX12_next K 99 [(0, .ref 345), (2, .long w2), (4, .int v4)] [] ρ) k := by
            refine z_down ?_ ?_
            · intro _ ρ w2 v4 f2 g15 g16 h4 hw
              have b2 := qf_b f2 hb
              refine k_X12_next_99 ⟨fun _ => fin1 ρ w2 v4 f2 g15 g16 h4 hw, fun z => ⟨ix_n ?_, ml_isLetter (fun y => ?_) (fun y => ⟨fun _ => fin1 ρ w2 v4 f2 g15 g16 h4 hw, fun w => absurd rfl w⟩)⟩⟩
              · rw [z_le, b2.1, g15] at z; omega
              · rw [z_le, b2.1, g15] at z
                have be := b2.2.2 e (by omega)
                rw [z_cl, g15, Int.toNat_natCast, be.1, by_le _ be.2] at y
                exact absurd ⟨by omega, y⟩ r4
            · intro k hk ih hpk ρ w2 v4 f2 g15 g16 h4 hw
              have b2 := qf_b f2 hb
              have bk := b2.2.2 k (by omega)
              have lk := r3 k hpk hk
              have lk2 := lets (k - p) (by omega)
              rw [show p + (k - p) = k by omega] at lk2
              have pb2 := pkb (k - p) (by omega)
              have sxk : (ρ.1 348 (ρ.1 345 15).toNatClampNeg).toInt = b k := by rw [z_cl, g15, Int.toNat_natCast, bk.1, q_sx, if_pos (by omega)]
              have step : ∀ s : Int64, (k + 1 - p ≤ 9 → s.toInt = q_pk (fun j => b (p + j)) (k + 1 - p)) → x_WV (d + 1 + 1) mX12_next K 156 [(0, .ref 345), (4, .int v4)] [.long s] ρ := by
                intro s hs
                refine k_X12_next_156 (fun y1 ey t2 e2 => ih (by omega) t2 s y1 ?_ ?_ ?_ ?_ hs)
                · rw [e2]; exact qf_w f2 (by omega) _
                · rw [e2, w1_at, if_pos ⟨rfl, rfl⟩, z_add (by rw [g15]; simp only [Int32.reduceToInt]; omega), g15]; simp only [Int32.reduceToInt]; omega
                · rw [e2, w1_at, if_neg (by omega)]; exact g16
                · rw [ey, z_add (by rw [h4]; simp only [Int32.reduceToInt]; omega), h4]; simp only [Int32.reduceToInt]; omega
              refine k_X12_next_99 ⟨fun z => ?_, fun _ => ⟨ix_n (by rw [g15]; omega), ml_isLetter (fun y => ⟨fun w => absurd w z_10, fun _ => ⟨fun z9 => step w2 (fun z => ?_), fun z9 => ⟨ix_n (by rw [g15]; omega), step _ (fun _ => ?_)⟩⟩⟩) (fun y => ?_)⟩⟩
              · rw [z_le, b2.1, g15] at z; omega
              · rw [z_le, h4] at z9; simp only [Int32.reduceToInt] at z9; omega
              · rw [z_le, h4] at z9; simp only [Int32.reduceToInt] at z9
                have hw := hw (by omega)
                have p9 := pb2.2 (by omega)
                have z64 : (64 : Int64).toInt = 64 := by decide
                have m1 : (64 * w2).toInt = 64 * w2.toInt := by rw [l_mul (by rw [z64, hw]; omega), z64]
                have m2 : (64 * w2 + (ρ.1 348 (ρ.1 345 15).toNatClampNeg).toInt64).toInt = 64 * w2.toInt + b k := by rw [l_add (by rw [m1, l_i, sxk, hw]; omega), m1, l_i, sxk]
                rw [l_sub (by rw [m2, z64, hw]; omega), m2, z64, hw, show k + 1 - p = (k - p) + 1 by omega, q_pk, show p + (k - p) = k by omega]
              · rw [sxk, lk] at y; exact absurd y (by decide)
          exact loop p (by omega) (Nat.le_refl _) t1 0 0 f1 p15 p16 (by rw [Nat.sub_self]; rfl) (fun _ => by rw [Nat.sub_self]; rfl)
        · -- a number
          have hl' : ¬ q_le (b p) = true := by rw [hy, by_le _ pb.2] at hl; rw [hl]; decide
          rw [hy] at d1 d2
          have hd : q_di (b p) = true := (by_di _ pb.2).mp (by simp only [Int32.reduceToInt] at d1 d2; omega)
          obtain ⟨r1, r2, r3, r4⟩ := r_b (P := q_di) (b := b) (n - p) p rfl (by omega)
          have hE : q_ea b n (i + 1) = q_r q_di b n p := by rw [hea, q_en, if_neg hl', if_pos hd]
          have hK1 : q_K b n i = 45 := by rw [hKe, q_kd, if_neg hl', if_pos hd]
          have hV1 : q_V b n i = q_nc b p (q_r q_di b n p - p) := by rw [hVe, q_va, if_neg hl', if_pos hd]
          generalize hr : q_r q_di b n p = e at r1 r2 r3 r4 hE hV1
          have done : ∀ ρ : x_T, q_fr σ ρ → (ρ.1 345 15).toInt = e → (ρ.1 345 16).toInt = p → (ρ.1 345 17).toInt = 2 → (((ρ.1 345 18).toInt = q_nc b p (e - p) ∧ 0 ≤ q_nc b p (e - p) ∧ q_nc b p (e - p) ≤ 9999) ∨ (9999 < (ρ.1 345 18).toInt ∧ q_nc b p (e - p) = 10000)) → K ρ := by
            intro ρ f2 g15 g16 g17 g18
            refine hK ρ f2 ⟨by rw [hE]; exact g15, by rw [hp]; exact g16, ?_⟩
            rw [hK1, hV1]
            exact ⟨fun y => by omega, fun _ => ⟨g17, g18⟩, fun y => by omega, fun y => by omega⟩
          have loop : ∀ k, k ≤ e → (fun k : Nat => p ≤ k → ∀ ρ : x_T, q_fr σ ρ → (ρ.1 345 15).toInt = k → (ρ.1 345 16).toInt = p → (ρ.1 345 17).toInt = 2 → (0 ≤ (ρ.1 345 18).toInt ∧ (ρ.1 345 18).toInt ≤ 1000008) → (((ρ.1 345 18).toInt = q_nc b p (k - p) ∧ 0 ≤ q_nc b p (k - p) ∧ q_nc b p (k - p) ≤ 9999) ∨ (9999 < (ρ.1 345 18).toInt ∧ q_nc b p (k - p) = 10000)) → x_WV (d + 1 + 1) mX12_next K 232 [(0, .ref 345)] [] ρ) k := by
            refine z_down ?_ ?_
            · intro _ ρ f2 g15 g16 g17 gb g18
              have b2 := qf_b f2 hb
              refine k_X12_next_232 ⟨fun _ => done ρ f2 g15 g16 g17 g18, fun z => ⟨ix_n ?_, ml_in (fun y1 y2 => ?_) (fun y => ⟨fun _ => done ρ f2 g15 g16 g17 g18, fun w => absurd rfl w⟩)⟩⟩
              · rw [z_le, b2.1, g15] at z; omega
              · rw [z_le, b2.1, g15] at z
                have be := b2.2.2 e (by omega)
                rw [z_cl, g15, Int.toNat_natCast, be.1] at y1 y2
                have := (by_di _ be.2).mp (by simp only [Int32.reduceToInt] at y1 y2; omega)
                exact absurd ⟨by omega, this⟩ r4
            · intro k hk ih hpk ρ f2 g15 g16 g17 gb g18
              have b2 := qf_b f2 hb
              have bk := b2.2.2 k (by omega)
              have dk := r3 k hpk hk
              have dg := of_decide_eq_true dk
              have sxk : (ρ.1 348 (ρ.1 345 15).toNatClampNeg).toInt = b k := by rw [z_cl, g15, Int.toNat_natCast, bk.1, q_sx, if_pos (by omega)]
              have nc1 : q_nc b p (k + 1 - p) = min 10000 (q_nc b p (k - p) * 10 + b k - 48) := by rw [show k + 1 - p = (k - p) + 1 by omega, q_nc, show p + (k - p) = k by omega]
              have step : ∀ s : Int32, (0 ≤ s.toInt ∧ s.toInt ≤ 1000008) → ((s.toInt = q_nc b p (k + 1 - p) ∧ 0 ≤ q_nc b p (k + 1 - p) ∧ q_nc b p (k + 1 - p) ≤ 9999) ∨ (9999 < s.toInt ∧ q_nc b p (k + 1 - p) = 10000)) → x_WV (d + 1 + 1) mX12_next K 299 [(0, .ref 345)] [.int s, .ref 345] ρ := by
                intro s hs1 hs2
                refine k_X12_next_299 (fun t2 e2 t3 e3 => ih (by omega) t3 ?_ ?_ ?_ ?_ ?_ ?_)
                · rw [e3, e2]; exact qf_w (qf_w f2 (by omega) _) (by omega) _
                · have : t2.1 345 15 = ρ.1 345 15 := by rw [e2, w1_at, if_neg (by omega)]
                  rw [e3, w1_at, if_pos ⟨rfl, rfl⟩, this, z_add (by rw [g15]; simp only [Int32.reduceToInt]; omega), g15]; simp only [Int32.reduceToInt]; omega
                · rw [e3, w1_at, if_neg (by omega), e2, w1_at, if_neg (by omega)]; exact g16
                · rw [e3, w1_at, if_neg (by omega), e2, w1_at, if_neg (by omega)]; exact g17
                · rw [e3, w1_at, if_neg (by omega), e2, w1_at, if_pos ⟨rfl, rfl⟩]; exact hs1
                · rw [e3, w1_at, if_neg (by omega), e2, w1_at, if_pos ⟨rfl, rfl⟩]; exact hs2
              refine k_X12_next_232 ⟨fun z => ?_, fun _ => ⟨ix_n (by rw [g15]; omega), ml_in (fun y1 y2 => ⟨fun w => absurd w z_10, fun _ => ⟨fun z9 => ⟨ix_n (by rw [g15]; omega), ?_⟩, fun z9 => step _ gb ?_⟩⟩) (fun y => ?_)⟩⟩
              · rw [z_le, b2.1, g15] at z; omega
              · rw [z_le] at z9; simp only [Int32.reduceToInt] at z9
                have m1 : (10 * ρ.1 345 18).toInt = 10 * (ρ.1 345 18).toInt := z_mul (by simp only [Int32.reduceToInt]; omega)
                have m2 : (10 * ρ.1 345 18 + ρ.1 348 (ρ.1 345 15).toNatClampNeg).toInt = 10 * (ρ.1 345 18).toInt + b k := by rw [z_add (by rw [m1, sxk]; omega), m1, sxk]
                have m3 : (10 * ρ.1 345 18 + ρ.1 348 (ρ.1 345 15).toNatClampNeg - 48).toInt = 10 * (ρ.1 345 18).toInt + b k - 48 := by rw [z_sub (by rw [m2]; simp only [Int32.reduceToInt]; omega), m2]; rfl
                refine step _ (by rw [m3]; omega) ?_
                rw [m3, nc1]
                omega
              · rw [z_le] at z9; simp only [Int32.reduceToInt] at z9
                rw [nc1]; omega
              · rw [sxk] at y; simp only [Int32.reduceToInt] at y; omega
          refine loop p (by omega) (Nat.le_refl _) t14 ?_ ?_ ?_ ?_ ?_ ?_
          · rw [e14, e13]; exact qf_w (qf_w f1 (by omega) _) (by omega) _
          · rw [e14, w1_at, if_neg (by omega), e13, w1_at, if_neg (by omega)]; exact p15
          · rw [e14, w1_at, if_neg (by omega), e13, w1_at, if_neg (by omega)]; exact p16
          · rw [e14, w1_at, if_neg (by omega), e13, w1_at, if_pos ⟨rfl, rfl⟩]; rfl
          · rw [e14, w1_at, if_pos ⟨rfl, rfl⟩]; decide
          · rw [e14, w1_at, if_pos ⟨rfl, rfl⟩, Nat.sub_self]; left; exact ⟨rfl, Int.le_refl _, by show (0 : Int) ≤ 9999; omega⟩
        · -- a sign
          have hl' : ¬ q_le (b p) = true := by rw [hy, by_le _ pb.2] at hl; rw [hl]; decide
          have hd' : ¬ q_di (b p) = true := fun z => by
            have := (by_di _ pb.2).mpr z
            rw [hy] at dn
            simp only [Int32.reduceToInt] at dn
            omega
          have hE : q_ea b n (i + 1) = if q_2s b n p = true then p + 2 else p + 1 := by rw [hea, q_en, if_neg hl', if_neg hd']
          have hK1 : q_K b n i = if q_2s b n p = true then (if b p = 60 then 43 else 44) else q_sg (b p) := by rw [hKe, q_kd, if_neg hl', if_neg hd']
          have hV1 : q_V b n i = 0 := by rw [hVe, q_va, if_neg hl', if_neg hd']
          have f8 : q_fr σ t8 := by rw [e8, e7]; exact qf_w (qf_w f1 (by omega) _) (by omega) _
          have c15 : (t8.1 345 15).toInt = ((p + 1 : Nat) : Int) := by
            rw [e8, w1_at, if_neg (by omega), e7, w1_at, if_pos ⟨rfl, rfl⟩, z_add (by rw [p15]; simp only [Int32.reduceToInt]; omega), p15]; simp only [Int32.reduceToInt]; omega
          have c16 : (t8.1 345 16).toInt = p := by rw [e8, w1_at, if_neg (by omega), e7, w1_at, if_neg (by omega)]; exact p16
          have c18 : t8.1 345 18 = y2 := by rw [e8, w1_at, if_pos ⟨rfl, rfl⟩]
          have fin : ∀ s : Int32, (s.toInt = 3 ∧ q_is (b p) ∨ s.toInt = 4 ∧ ¬ q_is (b p)) → x_WV (d + 1 + 1) mX12_next K 370 [(0, .ref 345), (1, .int y2)] [.int s, .ref 345] t8 := by
            intro s hs
            refine k_X12_next_370 (fun t2 e2 => ?_)
            have f2 : q_fr σ t2 := by rw [e2]; exact qf_w f8 (by omega) _
            have b2 := qf_b f2 hb
            have d15 : (t2.1 345 15).toInt = ((p + 1 : Nat) : Int) := by rw [e2, w1_at, if_neg (by omega)]; exact c15
            have d16 : (t2.1 345 16).toInt = p := by rw [e2, w1_at, if_neg (by omega)]; exact c16
            have d17 : (t2.1 345 17).toInt = s.toInt := by rw [e2, w1_at, if_pos ⟨rfl, rfl⟩]
            have d18 : (t2.1 345 18).toInt = q_sx (b p) := by rw [e2, w1_at, if_neg (by omega), c18]; exact hy
            have single : ¬ q_2s b n p = true → K t2 := by
              intro n2
              rw [if_neg n2] at hE hK1
              refine hK t2 f2 ⟨by rw [hE]; exact d15, by rw [hp]; exact d16, ?_⟩
              rw [hK1, hV1, d17, d18]
              rcases hs with ⟨s1, s2⟩ | ⟨s1, s2⟩
              · rw [s1]
                have : q_sx (b p) = b p := by unfold q_is at s2; unfold q_sx; rw [if_pos (by omega)]
                rw [this]; exact (sg_R pb.2).1 s2
              · rw [s1]; exact (sg_R pb.2).2 s2 _
            have dbl : (b p = 60 ∨ b p = 62) → x_WV (d + 1 + 1) mX12_next K 385 [(0, .ref 345), (1, .int y2)] [] t2 := by
              intro h6
              have ey : y2.toInt = b p := by rw [hy, q_sx, if_pos (by omega)]
              refine k_X12_next_385 ⟨fun z => single (fun y => ?_), fun z => ?_⟩
              · rw [z_le, b2.1, d15] at z
                have := (of_decide_eq_true y).2.1; omega
              · rw [z_le, b2.1, d15] at z
                have bq := b2.2.2 (p + 1) (by omega)
                have cq : (t2.1 345 15).toNatClampNeg = p + 1 := by rw [z_cl, d15]; omega
                rw [cq]
                refine ⟨ix_n (by omega), fun y => single (fun w => y ?_), fun y => ?_⟩
                · have w := (of_decide_eq_true w).2.2
                  exact z_eq.mpr (by rw [bq.1, w]; decide)
                · have b61 : b (p + 1) = 61 := by
                    have : (t2.1 348 (p + 1)).toInt = 61 := by rw [y]; decide
                    rw [bq.1, q_sx] at this
                    split at this <;> omega
                  have ts : q_2s b n p = true := decide_eq_true ⟨h6, by omega, b61⟩
                  rw [if_pos ts] at hE hK1
                  have last : ∀ v : Int32, v.toInt = (if b p = 60 then 300 else 301) → x_WV (d + 1 + 1) mX12_next K 426 [(0, .ref 345)] [.int v, .ref 345] t2 := by
                    intro v hv
                    have s3 : s.toInt = 3 := by
                      rcases hs with ⟨s1, s2⟩ | ⟨s1, s2⟩
                      · exact s1
                      · exact absurd (by unfold q_is; omega) s2
                    refine k_X12_next_426 (fun t3 e3 t4 e4 => hK t4 ?_ ⟨?_, ?_, ?_⟩)
                    · rw [e4, e3]; exact qf_w (qf_w f2 (by omega) _) (by omega) _
                    · have : t3.1 345 15 = t2.1 345 15 := by rw [e3, w1_at, if_neg (by omega)]
                      rw [e4, w1_at, if_pos ⟨rfl, rfl⟩, this, z_add (by rw [d15]; simp only [Int32.reduceToInt]; omega), d15, hE]; simp only [Int32.reduceToInt]; omega
                    · rw [e4, w1_at, if_neg (by omega), e3, w1_at, if_neg (by omega), hp]; exact d16
                    · rw [e4, w1_at, if_neg (by omega), e3, w1_at, if_neg (by omega), d17, s3, w1_at, if_neg (by omega), w1_at, if_pos ⟨rfl, rfl⟩, hv, hK1]
                      by_cases y6 : b p = 60
                      · rw [if_pos y6, if_pos y6]
                        exact ⟨fun _ => by decide, fun w => by omega, fun w => by omega, fun w => by omega⟩
                      · rw [if_neg y6, if_neg y6]
                        exact ⟨fun _ => by decide, fun w => by omega, fun w => by omega, fun w => by omega⟩
                  refine ⟨fun w => last 301 ?_, fun w => last 300 ?_⟩
                  · have : ¬ b p = 60 := fun u => w (z_eq.mpr (by rw [ey, u]; decide))
                    rw [if_neg this]; rfl
                  · have : b p = 60 := by rw [← ey, w]; decide
                    rw [if_pos this]; rfl
            have y6 : ∀ c : Int32, (c.toInt = 60 ∨ c.toInt = 62) → (y2 = c ↔ b p = c.toInt) := by
              intro c hc
              rw [z_eq, hy, q_sx]
              split <;> omega
            refine ⟨fun z => dbl (Or.inl ((y6 60 (by decide)).mp z)), fun z1 => ⟨fun z2 => single (fun w => ?_), fun z => dbl (Or.inr ((y6 62 (by decide)).mp z))⟩⟩
            rcases (of_decide_eq_true w).1 with w | w
            · exact z1 ((y6 60 (by decide)).mpr w)
            · exact z2 ((y6 62 (by decide)).mpr w)
          have sgn : q_is (b p) → x_WV (d + 1 + 1) mX12_next K 365 [(0, .ref 345), (1, .int y2)] [.ref 345] t8 := fun z => k_X12_next_365 (fin 3 (Or.inl ⟨by decide, z⟩))
          have sxr : ∀ lo hi : Int, 0 ≤ lo → hi < 128 → (lo ≤ q_sx (b p) ∧ q_sx (b p) ≤ hi ↔ lo ≤ b p ∧ b p ≤ hi) := fun lo hi h1 h2 => by unfold q_sx; split <;> omega
          refine ml_in (fun a1 a2 => ⟨fun _ => sgn (Or.inl ?_), fun z => absurd z z_10⟩) (fun a => ⟨fun z => absurd rfl z, fun _ => ml_in (fun a1 a2 => ⟨fun _ => sgn (Or.inr (Or.inl ?_)), fun z => absurd z z_10⟩) (fun a' => ⟨fun z => absurd rfl z, fun _ => ⟨fun z => sgn (Or.inr (Or.inr (Or.inl ?_))), fun z1 => ⟨fun z2 => fin 4 (Or.inr ⟨by decide, ?_⟩), fun z => sgn (Or.inr (Or.inr (Or.inr ?_)))⟩⟩⟩)⟩)
          · rw [hy] at a1 a2; simp only [Int32.reduceToInt] at a1 a2; exact (sxr 59 62 (by omega) (by omega)).mp ⟨a1, a2⟩
          · rw [hy] at a1 a2; simp only [Int32.reduceToInt] at a1 a2; exact (sxr 40 45 (by omega) (by omega)).mp ⟨a1, a2⟩
          · rw [z_eq, hy] at z; simp only [Int32.reduceToInt] at z; unfold q_sx at z; split at z <;> omega
          · rw [hy] at a a'
            rw [z_eq, hy] at z1 z2
            simp only [Int32.reduceToInt] at a a' z1 z2
            unfold q_is
            unfold q_sx at a a' z1 z2
            split at a <;> omega
          · rw [z_eq, hy] at z; simp only [Int32.reduceToInt] at z; unfold q_sx at z; split at z <;> omega
      · rw [z_eq, p15, b1.1] at z; omega
    · have tn : q_tp b n i = n := by omega
      refine ⟨fun z => absurd ?_ z, fun _ t15 e15' => hK t15 ?_ ⟨?_, ?_, ?_⟩⟩
      · rw [z_eq, p15, b1.1]; omega
      · rw [e15']; exact qf_w f1 (by omega) _
      · have : q_ea b n (i + 1) = n := by
          rw [q_ea, if_neg]
          show ¬ q_tp b n i < n
          omega
        rw [e15', w1_at, if_neg (by omega), p15, this, tn]
      · rw [e15', w1_at, if_neg (by omega)]; exact p16
      · rw [q_K, if_neg ht, e15', w1_at, if_pos ⟨rfl, rfl⟩]
        exact ⟨fun y => by omega, fun y => by omega, fun _ => rfl, fun y => by omega⟩
  -- spaces
  have skip : ∀ (m a : Nat), n - a = m → a ≤ n → q_r q_sp b n a = q_tp b n i → ∀ ρ : x_T, q_fr σ ρ → (ρ.1 345 15).toInt = a → x_WV (d + 1 + 1) mX12_next K 0 [(0, .ref 345)] [] ρ := by
    intro m
    induction m with
    | zero =>
      intro a hm ha hr ρ f e15
      have e : a = n := by omega
      have b2 := qf_b f hb
      have tn : q_tp b n i = a := by rw [← hr]; exact r_no (by omega)
      exact k_X12_next_0 ⟨fun _ => tok ρ f (by rw [tn]; exact e15), fun z => absurd (by rw [z_le, b2.1, e15]; omega) z⟩
    | succ m ih =>
      intro a hm ha hr ρ f e15
      have b2 := qf_b f hb
      have ba := b2.2.2 a (by omega)
      have ca : (ρ.1 345 15).toNatClampNeg = a := by rw [z_cl, e15]; omega
      have sx1 : ∀ c : Int32, 0 ≤ c.toInt → c.toInt < 128 → (ρ.1 348 a = c ↔ b a = c.toInt) := by
        intro c h1 h2
        rw [z_eq, ba.1, q_sx]
        split <;> omega
      have sp : q_sp (b a) = true → x_WV (d + 1 + 1) mX12_next K 39 [(0, .ref 345)] [] ρ := by
        intro z
        refine k_X12_next_39 (fun t1 e1 => ih (a + 1) (by omega) (by omega) (by rw [← r_go (by omega) z]; exact hr) t1 (by rw [e1]; exact qf_w f (by omega) _) ?_)
        rw [e1, w1_at, if_pos ⟨rfl, rfl⟩, z_add (by rw [e15]; simp only [Int32.reduceToInt]; omega), e15]; simp only [Int32.reduceToInt]; omega
      refine k_X12_next_0 ⟨fun z => ?_, fun _ => ?_⟩
      · rw [z_le, b2.1, e15] at z; omega
      rw [ca]
      refine ⟨ix_n (by omega), fun z => sp (decide_eq_true (Or.inl ((sx1 32 (by decide) (by decide)).mp z))), fun z1 => ⟨ix_n (by omega), fun z2 => tok ρ f ?_, fun z => sp (decide_eq_true (Or.inr ((sx1 10 (by decide) (by decide)).mp z)))⟩⟩
      have : q_tp b n i = a := by
        rw [← hr]
        refine r_no (fun w => ?_)
        rcases of_decide_eq_true w.2 with w | w
        · exact z1 ((sx1 32 (by decide) (by decide)).mpr w)
        · exact z2 ((sx1 10 (by decide) (by decide)).mpr w)
      rw [this]; exact e15
  exact skip _ _ rfl (ea_b b n i) rfl σ (qf_r σ) h15
