theorem x_slS {c t n : Nat} (h : x_sh c = (t, n)) : x_sl (c + 1) = x_sl c + n := by show x_sl c + (x_sh c).2 = _; rw [h]
theorem x_Mt.congr {d : Nat} {μ : x_M} {N : Nat} {vs : List Value} {σ σ' : x_S} {Q : x_S → Option Value → Prop} (hw : ∀ G, x_ws G N σ = x_ws G N σ') (h : x_Mt d μ N vs σ' Q) : x_Mt d μ N vs σ Q := by
  intro l G
  have h1 := h l G
  unfold x_W at h1 ⊢
  rw [hw G]
  exact h1
def s5 (o : Nat) (σ : x_S) : x_S := (x_wr (x_nw (x_wr (x_nw σ (o + 1)) o 0 (some (o + 1))) (o + 2)) o 1 (some (o + 2)))
theorem c5 {d o : Nat} {σ : x_S} {Q : x_S → Option Value → Prop} (ho : x_sh o = (5, 3)) (h : Q (s5 o σ) none) : x_Mt (d + 1) mX5_init (o + 1) [.ref o] σ Q := by
  have b1 : x_sl (o + 2) = x_sl (o + 1) + 8 := x_slS (shd_5_1 ho)
  have b2 : x_sl (o + 3) = x_sl (o + 2) + 8 := x_slS (shd_5_2 ho)
  refine e_X5_init ho ?_
  refine ⟨(shd_5_1 ho), by (try simp only [Nat.add_assoc, Nat.reduceAdd]); omega, by (try simp only [Nat.add_assoc, Nat.reduceAdd]); omega, ?_⟩
  refine ⟨by omega, fun u e => ?_⟩
  subst e
  refine ⟨(shd_5_2 ho), by (try simp only [Nat.add_assoc, Nat.reduceAdd]); omega, by (try simp only [Nat.add_assoc, Nat.reduceAdd]); omega, ?_⟩
  refine ⟨by omega, fun u e => ?_⟩
  subst e
  exact ⟨by omega, h⟩
def s1 (o : Nat) (σ : x_S) : x_S := (x_wr (x_nw (x_wr (x_nw (x_wr (x_nw (x_wi (x_wi (x_wi (x_wi σ o 1 (-1)) o 3 (-1)) o 4 99) o 6 89) (o + 1)) o 7 (some (o + 1))) (o + 2)) o 8 (some (o + 2))) (o + 3)) o 10 (some (o + 3)))
theorem c1 {d o : Nat} {σ : x_S} {Q : x_S → Option Value → Prop} (ho : x_sh o = (1, 11)) (h : Q (s1 o σ) none) : x_Mt (d + 1) mX1_init (o + 1) [.ref o] σ Q := by
  have b1 : x_sl (o + 2) = x_sl (o + 1) + 8 := x_slS (shd_1_1 ho)
  have b2 : x_sl (o + 3) = x_sl (o + 2) + 8 := x_slS (shd_1_2 ho)
  have b3 : x_sl (o + 4) = x_sl (o + 3) + 90 := x_slS (shd_1_3 ho)
  refine e_X1_init ho ?_
  refine ⟨by omega, fun u e => ?_⟩
  subst e
  refine ⟨by omega, fun u e => ?_⟩
  subst e
  refine ⟨by omega, fun u e => ?_⟩
  subst e
  refine ⟨by omega, fun u e => ?_⟩
  subst e
  refine ⟨(shd_1_1 ho), by (try simp only [Nat.add_assoc, Nat.reduceAdd]); omega, by (try simp only [Nat.add_assoc, Nat.reduceAdd]); omega, ?_⟩
  refine ⟨by omega, fun u e => ?_⟩
  subst e
  refine ⟨(shd_1_2 ho), by (try simp only [Nat.add_assoc, Nat.reduceAdd]); omega, by (try simp only [Nat.add_assoc, Nat.reduceAdd]); omega, ?_⟩
  refine ⟨by omega, fun u e => ?_⟩
  subst e
  refine ⟨(shd_1_3 ho), by (try simp only [Nat.add_assoc, Nat.reduceAdd]); omega, by (try simp only [Nat.add_assoc, Nat.reduceAdd]); omega, ?_⟩
  refine ⟨by omega, fun u e => ?_⟩
  subst e
  exact ⟨by omega, h⟩
def s9 (o : Nat) (σ : x_S) : x_S := (x_wr (x_nw (x_wr (x_nw (x_wr (x_nw (x_wr (x_nw (x_wr (x_nw (x_wr (x_nw (x_wr (x_nw (x_wr (x_nw σ (o + 1)) o 0 (some (o + 1))) (o + 2)) o 1 (some (o + 2))) (o + 3)) o 2 (some (o + 3))) (o + 4)) o 3 (some (o + 4))) (o + 5)) o 5 (some (o + 5))) (o + 6)) o 6 (some (o + 6))) (o + 7)) o 7 (some (o + 7))) (o + 8)) o 8 (some (o + 8)))
theorem c9 {d o : Nat} {σ : x_S} {Q : x_S → Option Value → Prop} (ho : x_sh o = (9, 10)) (h : Q (s9 o σ) none) : x_Mt (d + 1) mX9_init (o + 1) [.ref o] σ Q := by
  have b1 : x_sl (o + 2) = x_sl (o + 1) + 24 := x_slS (shd_9_1 ho)
  have b2 : x_sl (o + 3) = x_sl (o + 2) + 24 := x_slS (shd_9_2 ho)
  have b3 : x_sl (o + 4) = x_sl (o + 3) + 24 := x_slS (shd_9_3 ho)
  have b4 : x_sl (o + 5) = x_sl (o + 4) + 24 := x_slS (shd_9_4 ho)
  have b5 : x_sl (o + 6) = x_sl (o + 5) + 4 := x_slS (shd_9_5 ho)
  have b6 : x_sl (o + 7) = x_sl (o + 6) + 4 := x_slS (shd_9_6 ho)
  have b7 : x_sl (o + 8) = x_sl (o + 7) + 300 := x_slS (shd_9_7 ho)
  have b8 : x_sl (o + 9) = x_sl (o + 8) + 300 := x_slS (shd_9_8 ho)
  refine e_X9_init ho ?_
  refine ⟨(shd_9_1 ho), by (try simp only [Nat.add_assoc, Nat.reduceAdd]); omega, by (try simp only [Nat.add_assoc, Nat.reduceAdd]); omega, ?_⟩
  refine ⟨by omega, fun u e => ?_⟩
  subst e
  refine ⟨(shd_9_2 ho), by (try simp only [Nat.add_assoc, Nat.reduceAdd]); omega, by (try simp only [Nat.add_assoc, Nat.reduceAdd]); omega, ?_⟩
  refine ⟨by omega, fun u e => ?_⟩
  subst e
  refine ⟨(shd_9_3 ho), by (try simp only [Nat.add_assoc, Nat.reduceAdd]); omega, by (try simp only [Nat.add_assoc, Nat.reduceAdd]); omega, ?_⟩
  refine ⟨by omega, fun u e => ?_⟩
  subst e
  refine ⟨(shd_9_4 ho), by (try simp only [Nat.add_assoc, Nat.reduceAdd]); omega, by (try simp only [Nat.add_assoc, Nat.reduceAdd]); omega, ?_⟩
  refine ⟨by omega, fun u e => ?_⟩
  subst e
  refine ⟨(shd_9_5 ho), by (try simp only [Nat.add_assoc, Nat.reduceAdd]); omega, by (try simp only [Nat.add_assoc, Nat.reduceAdd]); omega, ?_⟩
  refine ⟨by omega, fun u e => ?_⟩
  subst e
  refine ⟨(shd_9_6 ho), by (try simp only [Nat.add_assoc, Nat.reduceAdd]); omega, by (try simp only [Nat.add_assoc, Nat.reduceAdd]); omega, ?_⟩
  refine ⟨by omega, fun u e => ?_⟩
  subst e
  refine ⟨(shd_9_7 ho), by (try simp only [Nat.add_assoc, Nat.reduceAdd]); omega, by (try simp only [Nat.add_assoc, Nat.reduceAdd]); omega, ?_⟩
  refine ⟨by omega, fun u e => ?_⟩
  subst e
  refine ⟨(shd_9_8 ho), by (try simp only [Nat.add_assoc, Nat.reduceAdd]); omega, by (try simp only [Nat.add_assoc, Nat.reduceAdd]); omega, ?_⟩
  refine ⟨by omega, fun u e => ?_⟩
  subst e
  exact ⟨by omega, h⟩
def s3 (o : Nat) (σ : x_S) : x_S := (x_wr (s5 (o + 9) (x_nw (x_wr (s5 (o + 6) (x_nw (x_wr (x_nw (x_wr (x_nw (x_wr (x_nw (x_wr (x_nw (x_wr (x_nw σ (o + 1)) o 2 (some (o + 1))) (o + 2)) o 3 (some (o + 2))) (o + 3)) o 4 (some (o + 3))) (o + 4)) o 5 (some (o + 4))) (o + 5)) o 6 (some (o + 5))) (o + 6))) o 7 (some (o + 6))) (o + 9))) o 8 (some (o + 9)))
theorem c3 {d o : Nat} {σ : x_S} {Q : x_S → Option Value → Prop} (ho : x_sh o = (3, 9)) (h : Q (s3 o σ) none) : x_Mt (d + 1 + 1) mX3_init (o + 1) [.ref o] σ Q := by
  have b1 : x_sl (o + 2) = x_sl (o + 1) + 8 := x_slS (shd_3_1 ho)
  have b2 : x_sl (o + 3) = x_sl (o + 2) + 8 := x_slS (shd_3_2 ho)
  have b3 : x_sl (o + 4) = x_sl (o + 3) + 4 := x_slS (shd_3_3 ho)
  have b4 : x_sl (o + 5) = x_sl (o + 4) + 64 := x_slS (shd_3_4 ho)
  have b5 : x_sl (o + 6) = x_sl (o + 5) + 64 := x_slS (shd_3_5 ho)
  have b6 : x_sl (o + 7) = x_sl (o + 6) + 3 := x_slS (shd_3_6 ho)
  have b7 : x_sl (o + 8) = x_sl (o + 7) + 8 := x_slS (shd_5_1 (shd_3_6 ho))
  have b8 : x_sl (o + 9) = x_sl (o + 8) + 8 := x_slS (shd_5_2 (shd_3_6 ho))
  have b9 : x_sl (o + 10) = x_sl (o + 9) + 3 := x_slS (shd_3_9 ho)
  have b10 : x_sl (o + 11) = x_sl (o + 10) + 8 := x_slS (shd_5_1 (shd_3_9 ho))
  have b11 : x_sl (o + 12) = x_sl (o + 11) + 8 := x_slS (shd_5_2 (shd_3_9 ho))
  refine e_X3_init ho ?_
  refine ⟨(shd_3_1 ho), by (try simp only [Nat.add_assoc, Nat.reduceAdd]); omega, by (try simp only [Nat.add_assoc, Nat.reduceAdd]); omega, ?_⟩
  refine ⟨by omega, fun u e => ?_⟩
  subst e
  refine ⟨(shd_3_2 ho), by (try simp only [Nat.add_assoc, Nat.reduceAdd]); omega, by (try simp only [Nat.add_assoc, Nat.reduceAdd]); omega, ?_⟩
  refine ⟨by omega, fun u e => ?_⟩
  subst e
  refine ⟨(shd_3_3 ho), by (try simp only [Nat.add_assoc, Nat.reduceAdd]); omega, by (try simp only [Nat.add_assoc, Nat.reduceAdd]); omega, ?_⟩
  refine ⟨by omega, fun u e => ?_⟩
  subst e
  refine ⟨(shd_3_4 ho), by (try simp only [Nat.add_assoc, Nat.reduceAdd]); omega, by (try simp only [Nat.add_assoc, Nat.reduceAdd]); omega, ?_⟩
  refine ⟨by omega, fun u e => ?_⟩
  subst e
  refine ⟨(shd_3_5 ho), by (try simp only [Nat.add_assoc, Nat.reduceAdd]); omega, by (try simp only [Nat.add_assoc, Nat.reduceAdd]); omega, ?_⟩
  refine ⟨by omega, fun u e => ?_⟩
  subst e
  refine ⟨(shd_3_6 ho), by (try simp only [Nat.add_assoc, Nat.reduceAdd]); omega, by (try simp only [Nat.add_assoc, Nat.reduceAdd]); omega, ?_⟩
  refine ⟨by (try simp only [Nat.add_assoc, Nat.reduceAdd]); omega, by (try simp only [Nat.add_assoc, Nat.reduceAdd]); omega, by (try simp only [Nat.add_assoc, Nat.reduceAdd]); omega, c5 (d := d) (shd_3_6 ho) ⟨rfl, ?_⟩⟩
  refine ⟨by omega, fun u e => ?_⟩
  subst e
  refine ⟨(shd_3_9 ho), by (try simp only [Nat.add_assoc, Nat.reduceAdd]); omega, by (try simp only [Nat.add_assoc, Nat.reduceAdd]); omega, ?_⟩
  refine ⟨by (try simp only [Nat.add_assoc, Nat.reduceAdd]); omega, by (try simp only [Nat.add_assoc, Nat.reduceAdd]); omega, by (try simp only [Nat.add_assoc, Nat.reduceAdd]); omega, c5 (d := d) (shd_3_9 ho) ⟨rfl, ?_⟩⟩
  refine ⟨by omega, fun u e => ?_⟩
  subst e
  exact ⟨by omega, h⟩
def s8 (σ : x_S) : x_S := (x_wr (x_nw (x_wr (x_nw (x_wr (x_nw (x_wr (x_nw σ 315) 314 0 (some 315)) 316) 314 2 (some 316)) 317) 314 3 (some 317)) 318) 314 4 (some 318))
theorem c8 {d : Nat} {σ : x_S} {Q : x_S → Option Value → Prop} (h : Q (s8 σ) none) : x_Mt (d + 1) mX8_init 315 [.ref 314] σ Q := by
  refine e_X8_init (by decide +kernel) ?_
  refine ⟨(by decide +kernel), by decide +kernel, by decide +kernel, ?_⟩
  refine ⟨by omega, fun u e => ?_⟩
  subst e
  refine ⟨(by decide +kernel), by decide +kernel, by decide +kernel, ?_⟩
  refine ⟨by omega, fun u e => ?_⟩
  subst e
  refine ⟨(by decide +kernel), by decide +kernel, by decide +kernel, ?_⟩
  refine ⟨by omega, fun u e => ?_⟩
  subst e
  refine ⟨(by decide +kernel), by decide +kernel, by decide +kernel, ?_⟩
  refine ⟨by omega, fun u e => ?_⟩
  subst e
  exact ⟨rfl, h⟩
def s4 (σ : x_S) : x_S := (x_wr (x_wr (x_nw (x_wr (x_nw σ 330) 329 1 (some 330)) 331) 329 2 (some 331)) 329 0 (some 1))
theorem c4 {d : Nat} {σ : x_S} {Q : x_S → Option Value → Prop} (h : Q (s4 σ) none) : x_Mt (d + 1) mX4_init 330 [.ref 329, .ref 1] σ Q := by
  refine e_X4_init (by decide +kernel) ?_
  refine ⟨(by decide +kernel), by decide +kernel, by decide +kernel, ?_⟩
  refine ⟨by omega, fun u e => ?_⟩
  subst e
  refine ⟨(by decide +kernel), by decide +kernel, by decide +kernel, ?_⟩
  refine ⟨by omega, fun u e => ?_⟩
  subst e
  refine ⟨by omega, fun u e => ?_⟩
  subst e
  exact ⟨rfl, h⟩
def s2 (σ : x_S) : x_S := (x_wr (x_wr σ 332 0 (some 1)) 332 1 (some 329))
theorem c2 {d : Nat} {σ : x_S} {Q : x_S → Option Value → Prop} (h : Q (s2 σ) none) : x_Mt (d + 1) mX2_init 333 [.ref 332, .ref 1, .ref 329] σ Q := by
  refine e_X2_init (by decide +kernel) ?_
  refine ⟨by omega, fun u e => ?_⟩
  subst e
  refine ⟨by omega, fun u e => ?_⟩
  subst e
  exact ⟨rfl, h⟩
def s10 (σ : x_S) : x_S := (x_wr (x_wr (x_wr (x_nw (x_wr (x_nw (x_wr (x_nw (x_wr (x_nw (x_wr (x_nw σ 334) 333 2 (some 334)) 335) 333 3 (some 335)) 336) 333 6 (some 336)) 337) 333 7 (some 337)) 338) 333 8 (some 338)) 333 0 (some 1)) 333 1 (some 329))
theorem c10 {d : Nat} {σ : x_S} {Q : x_S → Option Value → Prop} (h : Q (s10 σ) none) : x_Mt (d + 1) mX10_init 334 [.ref 333, .ref 1, .ref 329] σ Q := by
  refine e_X10_init (by decide +kernel) ?_
  refine ⟨(by decide +kernel), by decide +kernel, by decide +kernel, ?_⟩
  refine ⟨by omega, fun u e => ?_⟩
  subst e
  refine ⟨(by decide +kernel), by decide +kernel, by decide +kernel, ?_⟩
  refine ⟨by omega, fun u e => ?_⟩
  subst e
  refine ⟨(by decide +kernel), by decide +kernel, by decide +kernel, ?_⟩
  refine ⟨by omega, fun u e => ?_⟩
  subst e
  refine ⟨(by decide +kernel), by decide +kernel, by decide +kernel, ?_⟩
  refine ⟨by omega, fun u e => ?_⟩
  subst e
  refine ⟨(by decide +kernel), by decide +kernel, by decide +kernel, ?_⟩
  refine ⟨by omega, fun u e => ?_⟩
  subst e
  refine ⟨by omega, fun u e => ?_⟩
  subst e
  refine ⟨by omega, fun u e => ?_⟩
  subst e
  exact ⟨rfl, h⟩
def s0 (σ : x_S) : x_S := (x_wr (x_wr (x_wr (x_nw σ 340) 339 2 (some 340)) 339 0 (some 1)) 339 1 (some 329))
theorem c0 {d : Nat} {σ : x_S} {Q : x_S → Option Value → Prop} (h : Q (s0 σ) none) : x_Mt (d + 1) mX0_init 340 [.ref 339, .ref 1, .ref 329] σ Q := by
  refine e_X0_init (by decide +kernel) ?_
  refine ⟨(by decide +kernel), by decide +kernel, by decide +kernel, ?_⟩
  refine ⟨by omega, fun u e => ?_⟩
  subst e
  refine ⟨by omega, fun u e => ?_⟩
  subst e
  refine ⟨by omega, fun u e => ?_⟩
  subst e
  exact ⟨rfl, h⟩
def s6 (σ : x_S) : x_S := (x_wr (s9 320 (x_nw (x_wr (x_wi (x_wi σ 319 4 (-1)) 319 5 (-1)) 319 0 (some 314)) 320)) 319 1 (some 320))
theorem c6 {d : Nat} {σ : x_S} {Q : x_S → Option Value → Prop} (h : Q (s6 σ) none) : x_Mt (d + 1 + 1) mX6_init 320 [.ref 319, .ref 314] σ Q := by
  refine e_X6_init (by decide +kernel) ?_
  refine ⟨by omega, fun u e => ?_⟩
  subst e
  refine ⟨by omega, fun u e => ?_⟩
  subst e
  refine ⟨by omega, fun u e => ?_⟩
  subst e
  refine ⟨(by decide +kernel), by decide +kernel, by decide +kernel, ?_⟩
  refine ⟨by decide +kernel, by decide +kernel, by decide +kernel, c9 (d := d) (by decide +kernel) ⟨rfl, ?_⟩⟩
  refine ⟨by omega, fun u e => ?_⟩
  subst e
  exact ⟨rfl, h⟩
/-- the thirty days of the steps at o -/
def s7l (o : Nat) : Nat → Nat → x_S → x_S
  | 0, _, σ => σ
  | n + 1, k, σ => s7l o n (k + 1) (x_wr (s1 (o + 2 + 4 * k) (x_nw σ (o + 2 + 4 * k))) (o + 1) k (some (o + 2 + 4 * k)))
def s7 (o : Nat) (σ : x_S) : x_S := s7l o 30 0 (x_wr (x_nw σ (o + 1)) o 0 (some (o + 1)))
theorem s1_r {o a k : Nat} {σ : x_S} (h : a < o) : (s1 o σ).2.2 a k = σ.2.2 a k := by
  simp only [s1, x_wi, x_wr, x_nw]
  simp [show ¬ a = o by omega, show ¬ a = o + 1 by omega, show ¬ a = o + 2 by omega, show ¬ a = o + 3 by omega]
theorem c7l {d o : Nat} {Q : x_S → Option Value → Prop} (ho : x_sh o = (7, 3)) (ha : x_sh (o + 1) = (24, 30)) (hsh : ∀ k, k < 30 → x_sh (o + 2 + 4 * k) = (1, 11)) (hsl : ∀ k, k ≤ 30 → x_sl (o + 2 + 4 * k) = x_sl (o + 1) + 30 + 117 * k) : ∀ (n k : Nat) (σ : x_S), n + k = 30 → σ.2.2 o 0 = some (o + 1) → Q (s7l o n k σ) none → x_Wg (d + 1 + 1) mX7_init (o + 1) Q (o + 2 + 4 * k) 15 [(0, .ref o), (1, .int (nI k))] [] σ := by
  intro n
  induction n with
  | zero =>
    intro k σ hk hr h
    have : k = 30 := by omega
    subst this
    refine k_X7_init_15 ho ⟨fun _ => ⟨by omega, h⟩, fun q => absurd (by decide) q⟩
  | succ n ih =>
    intro k σ hk hr h
    have h0 := hsh k (by omega)
    have g0 := hsl k (by omega)
    have g1 := hsl (k + 1) (by omega)
    rw [show o + 2 + 4 * (k + 1) = o + 2 + 4 * k + 4 by omega] at g1
    have b0 := x_slS h0
    have b1 := x_slS (shd_1_1 h0)
    have b2 := x_slS (shd_1_2 h0)
    have b3 := x_slS (shd_1_3 h0)
    simp only [Nat.add_assoc, Nat.reduceAdd] at b0 b1 b2 b3 g0 g1
    refine k_X7_init_15 ho ⟨fun q => absurd q (nI_ge (a := k) (b := 30) (by omega) (by decide)), fun _ => ⟨by omega, o + 1, hr, h0, by omega, by (try simp only [Nat.add_assoc, Nat.reduceAdd]); omega, by omega, by (try simp only [Nat.add_assoc, Nat.reduceAdd]); omega, by (try simp only [Nat.add_assoc, Nat.reduceAdd]); omega, ?_⟩⟩
    refine c1 h0 ⟨rfl, ha, by omega, vp_in_nI (by omega) (by decide), h0, by omega, fun u3 e3 y4 e4 => ?_⟩
    subst e3
    have e4 : y4 = nI (k + 1) := by rw [e4, nI_succ]
    subst e4
    rw [nI_clamp (by omega)]
    refine ih (k + 1) _ (by omega) ?_ h
    show (x_wr _ _ _ _).2.2 o 0 = _
    simp only [x_wr]
    rw [if_neg (by omega), s1_r (by omega)]
    simp only [x_nw]
    rw [if_neg (by omega)]
    exact hr
theorem c7 {d o : Nat} {σ : x_S} {Q : x_S → Option Value → Prop} (ho : x_sh o = (7, 3)) (hsh : ∀ k, k < 30 → x_sh (o + 2 + 4 * k) = (1, 11)) (hsl : ∀ k, k ≤ 30 → x_sl (o + 2 + 4 * k) = x_sl (o + 1) + 30 + 117 * k) (h : Q (s7 o σ) none) : x_Mt (d + 1 + 1) mX7_init (o + 1) [.ref o] σ Q := by
  refine e_X7_init ho ⟨shd_7_1 ho, by omega, by omega, by omega, fun u1 e1 => ?_⟩
  subst e1
  exact c7l ho (shd_7_1 ho) hsh hsl 30 0 _ (by omega) (by simp [x_wr]) h
theorem x_sh7a : ∀ k, k < 30 → x_sh (17 + 2 + 4 * k) = (1, 11) := by decide +kernel
theorem x_sl7a : ∀ k, k < 31 → x_sl (17 + 2 + 4 * k) = x_sl (17 + 1) + 30 + 117 * k := by decide +kernel
theorem x_sh7b : ∀ k, k < 30 → x_sh (192 + 2 + 4 * k) = (1, 11) := by decide +kernel
theorem x_sl7b : ∀ k, k < 31 → x_sl (192 + 2 + 4 * k) = x_sl (192 + 1) + 30 + 117 * k := by decide +kernel
