/-! thieves -/
def z_th (o : Nat → Int) : Nat → Int
  | 0 => -1
  | k + 1 => if z_th o k = -1 ∨ o (z_th o k).toNat < o k then (k : Int) else z_th o k
theorem th_b (o : Nat → Int) : ∀ k : Nat, -1 ≤ z_th o k ∧ z_th o k < k ∨ (k = 0 ∧ z_th o k = -1) := by
  intro k
  induction k with
  | zero => right; simp [z_th]
  | succ k ih => left; rw [z_th]; split <;> omega
theorem q_thieves (hL : x_HL) {τ : x_T} (h : x_J τ) : x_CI 2000 mX11_thieves [.ref 0] τ (fun τ1 u => x_CI 2000 mX12_thieves [.ref 345] τ1 (fun τ2 v => u = v ∧ x_J τ2)) := by
  obtain ⟨L, l1, l2⟩ := hL τ h
  generalize hA : j_A τ = A
  have hJ := h.1
  rw [hA] at hJ
  have wA := hJ.1
  have w0 := wA.1
  have hc := hJ.2.1
  have c0 := hc.1
  have hmm : x_hm τ A L := ⟨hA, l2⟩
  have wD : w_D A (z_dy A) := hJ.2.2.1
  have wd0 : 0 ≤ A 130 ∧ (A 130 = 0 ∨ A 130 < A 0) := wD.1
  have e0 : (τ.1 13 0).toInt = A 130 := cd_0 (e := z_dy A) hJ.2.2.2.1 (k := 0) (by omega)
  obtain ⟨N, hN⟩ : ∃ N : Nat, A 0 = N := ⟨(A 0).toNat, by omega⟩
  let o : Nat → Int := fun h => z_ab (z_hour A (A 130) h)
  have oe : ∀ h : Nat, o h = z_ab (z_hour A (A 130) h) := fun _ => rfl
  have ob : ∀ h, 0 ≤ o h ∧ o h ≤ 12 := fun h => by
    have := z_hour_b A (A 130) h
    rw [oe, z_ab]
    split <;> omega
  refine pair_q h (z_th o N) (fun K hK => ?_) (fun σ f K hK => ?_)
  · refine e_X11_thieves (e_X0_farthestFromNoon ?_)
    have loop : ∀ k, k ≤ N → (fun k => ∀ (v m : Int32), v.toInt = z_th o k → m.toInt = (if z_th o k = -1 then -1 else o (z_th o k).toNat) → x_WI 1999 mX0_farthestFromNoon K 7 [(0, .ref 339), (1, .int (τ.1 13 0)), (2, .int v), (3, .int m), (4, .int (nI k))] [] τ) k := by
      refine z_down ?_ ?_
      · intro v m hv hm
        exact k_X0_farthestFromNoon_7 ⟨fun _ => hK _ _ (fr_r _ _) hv, fun q => absurd (by rw [z_le, c0, z_n (by omega)]; omega) q⟩
      · intro k hk ih v m hv hm
        have zk : (nI k).toInt = k := z_n (by omega)
        have tb := th_b o k
        refine k_X0_farthestFromNoon_7 ⟨fun q => ?_, fun _ => cl_hourBy hc wA (fun u hu y3 e3 => ?_)⟩
        · rw [z_le, c0, zk] at q; omega
        rw [e0, zk] at hu
        have hb := z_hour_b A (A 130) k
        have hy : y3.toInt = o k := by
          have m1 : (u - 12).toInt = u.toInt - 12 := z_sub (by simp only [Int32.reduceToInt]; omega)
          have m2 : (0 - (u - 12)).toInt = 0 - (u.toInt - 12) := by rw [z_sub (by simp only [Int32.reduceToInt]; omega), m1]; rfl
          rw [oe, z_ab, ← hu, e3]
          split
          · rename_i q; rw [z_le, m1] at q; simp only [Int32.reduceToInt] at q; rw [m1, if_pos (by omega)]
          · rename_i q; rw [z_le, m1] at q; simp only [Int32.reduceToInt] at q; rw [m2, if_neg (by omega)]; omega
        have ok := ob k
        have on := ob (z_th o k).toNat
        refine ⟨fun q => k_X0_farthestFromNoon_49 (fun y1 e1 => ?_), fun q => k_X0_farthestFromNoon_49 (fun y1 e1 => ?_)⟩
        · rw [z_le, hy, hm] at q
          rw [e1, ← nI_succ]
          by_cases r : z_th o k = -1
          · rw [if_pos r] at q; omega
          · rw [if_neg r] at q
            have ht : z_th o (k + 1) = z_th o k := by rw [z_th, if_neg (by omega)]
            exact ih v m (by rw [ht, hv]) (by rw [ht, hm])
        · rw [z_le, hy, hm] at q
          rw [e1, ← nI_succ]
          have ht : z_th o (k + 1) = k := by
            rw [z_th, if_pos]
            by_cases r : z_th o k = -1
            · exact Or.inl r
            · rw [if_neg r] at q; exact Or.inr (by omega)
          exact ih (nI k) y3 (by rw [ht, zk]) (by rw [ht, if_neg (by omega), hy]; rfl)
    exact loop 0 (by omega) (-1) (-1) (by rw [z_th]; decide) (by rw [z_th, if_pos rfl]; decide)
  · have hmσ := hmX_fr hmm f
    refine e_X12_thieves (ml_laysNow hmσ wA (fun σ1 f1 g1 mc1 hm1 => ?_))
    have fx := fr_m s69_x f1
    have m0 := jA_at hm1.1 0
    have r0 : (σ1.1 370 0).toInt = A 130 := g1 0 (by omega)
    have loop : ∀ k, k ≤ N → (fun k => ∀ (v : Int32), v.toInt = z_th o k → x_WI 2000 mX12_thieves K 8 [(0, .ref 345), (1, .int v), (2, .int (nI k))] [] σ1) k := by
      refine z_down ?_ ?_
      · intro v hv
        exact k_X12_thieves_8 ⟨fun _ => hK _ _ fx hv, fun q => absurd (by rw [z_le, m0, z_n (by omega)]; omega) q⟩
      · intro k hk ih v hv
        have zk : (nI k).toInt = k := z_n (by omega)
        have tb := th_b o k
        have nx : ∀ s : Int32, s.toInt = z_th o (k + 1) → x_WI 2000 mX12_thieves K 63 [(0, .ref 345), (2, .int (nI k))] [.int s] σ1 := by
          intro s hs
          refine k_X12_thieves_63 (fun y1 e1 => ?_)
          rw [e1, ← nI_succ]
          exact ih s hs
        have up : (z_th o k = -1 ∨ o (z_th o k).toNat < o k) → x_WI 2000 mX12_thieves K 58 [(0, .ref 345), (2, .int (nI k))] [] σ1 := fun z => k_X12_thieves_58 (nx _ (by rw [z_th, if_pos z, zk]))
        have aw : ∀ (u : Int32) (i : Nat) (P : x_T → Int32 → Prop), u.toInt = z_hour A (A 130) i → (∀ w : Int32, w.toInt = o i → P σ1 w) → x_CI 1999 mX12_away [.int u, .int 12] σ1 P := by
          intro u i P hu hP
          have hb := z_hour_b A (A 130) i
          refine e_X12_away ⟨fun q => hP _ ?_, fun q => hP _ ?_⟩
          · rw [z_le] at q; simp only [Int32.reduceToInt] at q
            rw [z_sub (by simp only [Int32.reduceToInt]; omega), hu, oe, z_ab, if_pos (by omega)]; rfl
          · rw [z_le] at q; simp only [Int32.reduceToInt] at q
            rw [z_sub (by simp only [Int32.reduceToInt]; omega), hu, oe, z_ab, if_neg (by omega)]; rfl
        refine k_X12_thieves_8 ⟨fun q => ?_, fun _ => ⟨fun q => up ?_, fun q => ?_⟩⟩
        · rw [z_le, m0, zk] at q; omega
        · rw [z_eq, hv] at q; exact Or.inl q
        · rw [z_eq, hv] at q
          have n1 : (-1 : Int32).toInt = -1 := by decide
          rw [n1] at q
          refine ml_hourAt wA mc1.2.1 (by omega) (by omega) (fun u hu => aw u k _ (by rw [hu, r0, zk]) (fun w hw => ml_hourAt wA mc1.2.1 (by omega) (by omega) (fun u2 hu2 => aw u2 (z_th o k).toNat _ (by rw [hu2, r0, hv]; congr 1; omega) (fun w2 hw2 => ⟨fun r => nx v ?_, fun r => up ?_⟩))))
          · rw [z_le, hw, hw2] at r
            rw [z_th, if_neg (by omega), hv]
          · rw [z_le, hw, hw2] at r; exact Or.inr (by omega)
    exact loop 0 (by omega) (-1) (by rw [z_th]; decide)
/-! houses as bits -/
def z_bits (P : Nat → Bool) : Nat → Int32
  | 0 => 0
  | k + 1 => if P k = true then z_bits P k ||| ((1 : Int32) <<< (nI k &&& 31)) else z_bits P k
