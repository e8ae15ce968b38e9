section XLIB
variable {d : Nat} {μ : x_M} {N0 : Nat} {Q : x_S → Option Value → Prop} {N pc : Nat} {L L' : List (Nat × Value)} {st st' : List Value} {σ : x_S}
theorem o_mmax {i : Nat} {x y : Int32} (hd : decode μ.2.1 pc = .ok (.invokestatic i, 3)) (hl' : Cond.methodLink μ.1.cls i Lib.Math.max.name ∈ x_tb) (hq : Cond.static Lib.Math.max.name ∈ x_tb ∧ Cond.initialized "java/lang/Math" ∈ x_tb ∧ Cond.code Lib.Math.max.name Lib.Math.max.code 2 (some .int) ∈ x_tb) (hcat : (st.map fun v => v.category).sum ≤ 8) (h : x_Wg (d + 1) μ N0 Q N (pc + 3) L (.int (if x < y then y else x) :: st) σ) : x_Wg (d + 1) μ N0 Q N pc L (.int y :: .int x :: st) σ := by
  intro l G p e s m args below meth c X h0 h1 h2 H locs ls hW hS hl
  exact va_mmax X.1 X.2.1 (X.2.2.2.1.trans hl.1.symm) X.2.2.2.2.1 (x_word X hl') (x_word X hq.1) (x_word X hq.2.1) (x_word X hq.2.2) (by show 1 ≤ d + 1; omega) (by rw [x_cats]; show _ ≤ 40 * (d + 1); omega) (by show N - N0 ≤ μ.2.2.2.2.1; omega) (by show x_sl N - x_sl N0 ≤ μ.2.2.2.2.2; omega) hd (h l G p e s m args below meth c X h0 h1 h2 H locs ls hW hS hl)
theorem o_mmin {i : Nat} {x y : Int32} (hd : decode μ.2.1 pc = .ok (.invokestatic i, 3)) (hl' : Cond.methodLink μ.1.cls i Lib.Math.min.name ∈ x_tb) (hq : Cond.static Lib.Math.min.name ∈ x_tb ∧ Cond.initialized "java/lang/Math" ∈ x_tb ∧ Cond.code Lib.Math.min.name Lib.Math.min.code 2 (some .int) ∈ x_tb) (hcat : (st.map fun v => v.category).sum ≤ 8) (h : x_Wg (d + 1) μ N0 Q N (pc + 3) L (.int (if y < x then y else x) :: st) σ) : x_Wg (d + 1) μ N0 Q N pc L (.int y :: .int x :: st) σ := by
  intro l G p e s m args below meth c X h0 h1 h2 H locs ls hW hS hl
  exact va_mmin X.1 X.2.1 (X.2.2.2.1.trans hl.1.symm) X.2.2.2.2.1 (x_word X hl') (x_word X hq.1) (x_word X hq.2.1) (x_word X hq.2.2) (by show 1 ≤ d + 1; omega) (by rw [x_cats]; show _ ≤ 40 * (d + 1); omega) (by show N - N0 ≤ μ.2.2.2.2.1; omega) (by show x_sl N - x_sl N0 ≤ μ.2.2.2.2.2; omega) hd (h l G p e s m args below meth c X h0 h1 h2 H locs ls hW hS hl)
theorem o_mabs {i : Nat} {x : Int32} (hd : decode μ.2.1 pc = .ok (.invokestatic i, 3)) (hl' : Cond.methodLink μ.1.cls i Lib.Math.abs.name ∈ x_tb) (hq : Cond.static Lib.Math.abs.name ∈ x_tb ∧ Cond.initialized "java/lang/Math" ∈ x_tb ∧ Cond.code Lib.Math.abs.name Lib.Math.abs.code 1 (some .int) ∈ x_tb) (hcat : (st.map fun v => v.category).sum ≤ 8) (h : x_Wg (d + 1) μ N0 Q N (pc + 3) L (.int (if 0 ≤ x then x else 0 - x) :: st) σ) : x_Wg (d + 1) μ N0 Q N pc L (.int x :: st) σ := by
  intro l G p e s m args below meth c X h0 h1 h2 H locs ls hW hS hl
  exact va_mabs X.1 X.2.1 (X.2.2.2.1.trans hl.1.symm) X.2.2.2.2.1 (x_word X hl') (x_word X hq.1) (x_word X hq.2.1) (x_word X hq.2.2) (by show 1 ≤ d + 1; omega) (by rw [x_cats]; show _ ≤ 40 * (d + 1); omega) (by show N - N0 ≤ μ.2.2.2.2.1; omega) (by show x_sl N - x_sl N0 ≤ μ.2.2.2.2.2; omega) hd (h l G p e s m args below meth c X h0 h1 h2 H locs ls hW hS hl)
def x_cpy (σ : x_S) (o0 sp o1 dp n : Nat) : x_S := (fun a b => if a = o1 ∧ dp ≤ b ∧ b < dp + n then σ.1 o0 (sp + (b - dp)) else σ.1 a b, σ.2)
theorem x_el_cpy {G : x_G} {o0 sp o1 dp n a : Nat} (h : a ≠ o1) : x_el G (x_cpy σ o0 sp o1 dp n) a = x_el G σ a := by
  have h1 : (x_cpy σ o0 sp o1 dp n).1 a = σ.1 a := by funext b; simp [x_cpy, h]
  have h2 : ∀ ty b, x_av ty (x_cpy σ o0 sp o1 dp n) a b = x_av ty σ a b := by
    intro ty b
    unfold x_av
    split
    · rw [h1]
    · rfl
    · rfl
  unfold x_el
  simp only [h1, h2]
  rfl
theorem o_copy {i o0 o1 n0 n1 : Nat} {sp dp n : Int32} (hd : decode μ.2.1 pc = .ok (.invokestatic i, 3)) (hl' : Cond.methodLink μ.1.cls i arraycopyName ∈ x_tb) (hq : Cond.native arraycopyName ∈ x_tb ∧ Cond.static arraycopyName ∈ x_tb ∧ Cond.initialized "java/lang/System" ∈ x_tb) (hs0 : x_sh o0 = (20, n0)) (ho0 : o0 < N) (hs1 : x_sh o1 = (20, n1)) (ho1 : o1 < N) (a1 : ¬ sp < 0) (a2 : ¬ dp < 0) (a3 : ¬ n < 0) (a4 : sp.toNatClampNeg + n.toNatClampNeg ≤ n0) (a5 : dp.toNatClampNeg + n.toNatClampNeg ≤ n1) (hcat : (st.map fun v => v.category).sum ≤ 8)
    (h : x_Wg (d + 1) μ N0 Q N (pc + 3) L st (x_cpy σ o0 sp.toNatClampNeg o1 dp.toNatClampNeg n.toNatClampNeg)) : x_Wg (d + 1) μ N0 Q N pc L (.int n :: .int dp :: .ref o1 :: .int sp :: .ref o0 :: st) σ := by
  intro l G p e s m args below meth c X h0 h1 h2 H locs ls hW hS hl
  have hnf : nativeFrameWords "java/lang/System" "arraycopy" 5 + 11 ≤ 32 := by decide +kernel
  have hlo : ((st.map (x_ad G.2.2.1)).map fun v => v.category).sum + (nativeFrameWords "java/lang/System" "arraycopy" 5 + 11) ≤ (x_rm (d + 1) μ).locals := by
    rw [x_cats]
    show _ ≤ 40 * (d + 1)
    omega
  refine va_copyi (R := x_rm (d + 1) μ) (H0 := s.heap) (ty := .int) X.1 X.2.1 (X.2.2.2.1.trans hl.1.symm) X.2.2.2.2.1 (x_word X hl') (x_word X hq.1) (x_word X hq.2.1) (x_word X hq.2.2) X.2.2.2.2.2.2.2.2.1.1 hW x_D hS o0 o1 0 0 (by rw [x_ws_at ho0, x_el_i hs0]) (by rw [x_ws_at ho1, x_el_i hs1]) rfl rfl rfl a1 a2 a3 a4 a5 (fun _ _ => rfl) (by show 1 ≤ d + 1; omega) hlo hd (fun H1 locs1 hP1 hD1 hS1 => ?_)
  refine h l G p e s m args below meth c X h0 h1 h2 H1 locs1 ls ?_ hS1 hl
  rw [x_ws_set (σ' := x_cpy σ o0 sp.toNatClampNeg o1 dp.toNatClampNeg n.toNatClampNeg) ho1] at hP1
  · exact hP1
  · rw [x_el_i hs1]
    congr 4
    funext b
    simp [x_cpy, va_cpy]
  · intro a ha; exact x_el_cpy ha
end XLIB
/-! The state when all cells are there: numbers, long numbers, which text is read, which rules. -/
abbrev x_T : Type := (Nat → Nat → Int32) × (Nat → Nat → Int64) × Nat × Option Nat
/-- the references that stay -/
def x_gr (c k : Nat) : Option Nat := match (x_sh c).1 with
  | 0 => match k with | 0 => some 1 | 1 => some 329 | _ => some (c + 1)
  | 1 => match k with | 7 => some (c + 1) | 8 => some (c + 2) | _ => some (c + 3)
  | 2 => match k with | 0 => some 1 | _ => some 329
  | 3 => match k with | 2 => some (c + 1) | 3 => some (c + 2) | 4 => some (c + 3) | 5 => some (c + 4) | 6 => some (c + 5) | 7 => some (c + 6) | _ => some (c + 9)
  | 4 => match k with | 0 => some 1 | 1 => some (c + 1) | 2 => some (c + 2) | _ => none
  | 5 => match k with | 0 => some (c + 1) | _ => some (c + 2)
  | 6 => match k with | 0 => some 314 | _ => none
  | 7 => some (c + 1)
  | 8 => match k with | 0 => some (c + 1) | 2 => some (c + 2) | 3 => some (c + 3) | _ => some (c + 4)
  | 9 => match k with | 0 => some (c + 1) | 1 => some (c + 2) | 2 => some (c + 3) | 3 => some (c + 4) | 5 => some (c + 5) | 6 => some (c + 6) | 7 => some (c + 7) | _ => some (c + 8)
  | 10 => match k with | 0 => some 1 | 1 => some 329 | 2 => some (c + 1) | 3 => some (c + 2) | 6 => some (c + 3) | 7 => some (c + 4) | _ => some (c + 5)
  | 11 => match k with | 0 => some 1 | 1 => some 13 | 2 => some 17 | 3 => some 139 | 6 => some 176 | 7 => some 188 | 8 => some 192 | 11 => some 314 | 12 => some 319 | 13 => some 329 | 14 => some 332 | 15 => some 333 | 16 => some 339 | _ => some 341
  | 12 => match k with | 0 => some 346 | 1 => some 347 | 2 => some 348 | 6 => some 349 | 7 => some 350 | 8 => some 351 | 9 => some 352 | 10 => some 353 | 11 => some 354 | 12 => some 355 | 13 => some 356 | 23 => some 357 | 24 => some 358 | 26 => some 359 | 27 => some 360 | 29 => some 361 | 32 => some 362 | 33 => some 363 | 34 => some 364 | 35 => some 365 | 36 => some 366 | 38 => some 367 | 39 => some 368 | 40 => some 369 | 41 => some 370 | 42 => some 371 | 43 => some 372 | 44 => some 373 | 45 => some 374 | _ => some 375
  | 23 => some (c + 1 + 9 * k)
  | 24 => some (c + 1 + 4 * k)
  | _ => none
def x_fu (τ : x_T) : x_S := (τ.1, τ.2.1, fun c k => if c = 319 ∧ k = 1 then some τ.2.2.1 else if c = 329 ∧ k = 4 then τ.2.2.2 else x_gr c k)
/-- a number is written -/
def x_w1 (τ : x_T) (c k : Nat) (v : Int32) : x_T := (fun a b => if a = c ∧ b = k then v else τ.1 a b, τ.2)
def x_w2 (τ : x_T) (c k : Nat) (v : Int64) : x_T := (τ.1, fun a b => if a = c ∧ b = k then v else τ.2.1 a b, τ.2.2)
def x_cp (τ : x_T) (o0 sp o1 dp n : Nat) : x_T := (fun a b => if a = o1 ∧ dp ≤ b ∧ b < dp + n then τ.1 o0 (sp + (b - dp)) else τ.1 a b, τ.2)
theorem x_fu_wi (τ : x_T) (c k : Nat) (v : Int32) : x_wi (x_fu τ) c k v = x_fu (x_w1 τ c k v) := rfl
theorem x_fu_wl (τ : x_T) (c k : Nat) (v : Int64) : x_wl (x_fu τ) c k v = x_fu (x_w2 τ c k v) := rfl
theorem x_fu_cp (τ : x_T) (o0 sp o1 dp n : Nat) : x_cpy (x_fu τ) o0 sp o1 dp n = x_fu (x_cp τ o0 sp o1 dp n) := rfl
theorem x_fu_rt (τ : x_T) (r : Nat) : x_wr (x_fu τ) 319 1 (some r) = x_fu (τ.1, τ.2.1, r, τ.2.2.2) := by
  simp only [x_wr, x_fu, Prod.mk.injEq, true_and]
  funext a b
  by_cases h : a = 319 ∧ b = 1
  · simp [h]
  · simp [h]
theorem x_fu_ru (τ : x_T) (r : Option Nat) : x_wr (x_fu τ) 329 4 r = x_fu (τ.1, τ.2.1, τ.2.2.1, r) := by
  simp only [x_wr, x_fu, Prod.mk.injEq, true_and]
  funext a b
  by_cases h : a = 329 ∧ b = 4
  · simp [h]
  · by_cases h1 : a = 319 ∧ b = 1
    · simp [h1]
    · simp [h, h1]
/-- a reference that stays, by the class -/
theorem x_fu_r {τ : x_T} {c k r t n : Nat} (hs : x_sh c = (t, n)) (hg : x_gr c k = some r) (hx : ¬ (c = 319 ∧ k = 1) ∧ ¬ (c = 329 ∧ k = 4)) : (x_fu τ).2.2 c k = some r := by
  show (if c = 319 ∧ k = 1 then _ else _) = _
  rw [if_neg hx.1, if_neg hx.2, hg]
/-- THE JUDGEMENT, all cells there -/
abbrev x_Wf (d : Nat) (μ : x_M) (Q : x_T → Option Value → Prop) (pc : Nat) (L : List (Nat × Value)) (st : List Value) (τ : x_T) : Prop := x_Wg d μ 376 (fun σ v => ∃ τ', σ = x_fu τ' ∧ Q τ' v) 376 pc L st (x_fu τ)
/-- THE CONTRACT, all cells there -/
def x_Mf (d : Nat) (μ : x_M) (vs : List Value) (τ : x_T) (Q : x_T → Option Value → Prop) : Prop := x_Mt d μ 376 vs (x_fu τ) (fun σ v => ∃ τ', σ = x_fu τ' ∧ Q τ' v)
/-- .. of a method that answers a number, a long number, nothing, a reference -/
def x_CI (d : Nat) (μ : x_M) (vs : List Value) (τ : x_T) (K : x_T → Int32 → Prop) : Prop := x_Mf d μ vs τ (fun τ' r => ∃ v, r = some (.int v) ∧ K τ' v)
def x_CL (d : Nat) (μ : x_M) (vs : List Value) (τ : x_T) (K : x_T → Int64 → Prop) : Prop := x_Mf d μ vs τ (fun τ' r => ∃ v, r = some (.long v) ∧ K τ' v)
def x_CV (d : Nat) (μ : x_M) (vs : List Value) (τ : x_T) (K : x_T → Prop) : Prop := x_Mf d μ vs τ (fun τ' r => r = none ∧ K τ')
def x_CR (d : Nat) (μ : x_M) (vs : List Value) (τ : x_T) (K : x_T → Option Nat → Prop) : Prop := x_Mf d μ vs τ (fun τ' r => ∃ v, r = some (x_rf v) ∧ K τ' v)
