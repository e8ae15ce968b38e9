def s11_1 (σ : x_S) : x_S := (s3 1 (x_nw σ 1))
def s11_2 (σ : x_S) : x_S := (s1 13 (x_nw (x_wr (s11_1 σ) 0 0 (some 1)) 13))
def s11_3 (σ : x_S) : x_S := (s7 17 (x_nw (x_wr (s11_2 σ) 0 1 (some 13)) 17))
def s11_4 (σ : x_S) : x_S := (x_wr (x_nw (x_wr (s11_3 σ) 0 2 (some 17)) 139) 0 3 (some 139))
def s11_5 (σ : x_S) : x_S := (s9 140 (x_nw (s11_4 σ) 140))
def s11_6 (σ : x_S) : x_S := (x_wr (s11_5 σ) 139 (0 : Int32).toNatClampNeg (some 140))
def s11_7 (σ : x_S) : x_S := (s9 149 (x_nw (s11_6 σ) 149))
def s11_8 (σ : x_S) : x_S := (x_wr (s11_7 σ) 139 (1 : Int32).toNatClampNeg (some 149))
def s11_9 (σ : x_S) : x_S := (s9 158 (x_nw (s11_8 σ) 158))
def s11_10 (σ : x_S) : x_S := (x_wr (s11_9 σ) 139 (2 : Int32).toNatClampNeg (some 158))
def s11_11 (σ : x_S) : x_S := (s9 167 (x_nw (s11_10 σ) 167))
def s11_12 (σ : x_S) : x_S := (x_wr (s11_11 σ) 139 (3 : Int32).toNatClampNeg (some 167))
def s11_13 (σ : x_S) : x_S := (s3 176 (x_nw (x_wi (x_wi (s11_12 σ) 0 4 0) 0 5 (-1)) 176))
def s11_14 (σ : x_S) : x_S := (s1 188 (x_nw (x_wr (s11_13 σ) 0 6 (some 176)) 188))
def s11_15 (σ : x_S) : x_S := (s7 192 (x_nw (x_wr (s11_14 σ) 0 7 (some 188)) 192))
def s11_16 (σ : x_S) : x_S := (s8 (x_nw (x_wi (x_wi (x_wr (s11_15 σ) 0 8 (some 192)) 0 9 0) 0 10 (-1)) 314))
def s11_17 (σ : x_S) : x_S := (s6 (x_nw (x_wr (s11_16 σ) 0 11 (some 314)) 319))
def s11_18 (σ : x_S) : x_S := (s4 (x_nw (x_wr (s11_17 σ) 0 12 (some 319)) 329))
def s11_19 (σ : x_S) : x_S := (s2 (x_nw (x_wr (s11_18 σ) 0 13 (some 329)) 332))
def s11_20 (σ : x_S) : x_S := (s10 (x_nw (x_wr (s11_19 σ) 0 14 (some 332)) 333))
def s11_21 (σ : x_S) : x_S := (s0 (x_nw (x_wr (s11_20 σ) 0 15 (some 333)) 339))
def s11_22 (σ : x_S) : x_S := (s1 341 (x_nw (x_wr (s11_21 σ) 0 16 (some 339)) 341))
def s11 (σ : x_S) : x_S := (x_wr (s11_22 σ) 0 17 (some 341))
set_option maxRecDepth 100000 in
set_option maxHeartbeats 4000000 in
theorem c11 {d : Nat} {σ : x_S} {Q : x_S → Option Value → Prop} (h : Q (s11 σ) none) : x_Mt (d + 1 + 1 + 1) mX11_init 1 [.ref 0] σ Q := by
  refine e_X11_init (by decide +kernel) ?_
  refine ⟨by decide +kernel, by decide +kernel, by decide +kernel, ?_⟩
  refine ⟨by decide +kernel, by decide +kernel, by decide +kernel, ?_⟩
  refine c3 (by decide +kernel) ⟨rfl, ?_⟩
  refine ⟨by decide +kernel, fun u e => ?_⟩
  subst e
  refine ⟨by decide +kernel, by decide +kernel, by decide +kernel, ?_⟩
  refine ⟨by decide +kernel, by decide +kernel, by decide +kernel, ?_⟩
  refine c1 (by decide +kernel) ⟨rfl, ?_⟩
  refine ⟨by decide +kernel, fun u e => ?_⟩
  subst e
  refine ⟨by decide +kernel, by decide +kernel, by decide +kernel, ?_⟩
  refine ⟨by decide +kernel, by decide +kernel, by decide +kernel, ?_⟩
  refine c7 (by decide +kernel) x_sh7a (fun k hk => x_sl7a k (by omega)) ⟨rfl, ?_⟩
  refine ⟨by decide +kernel, fun u e => ?_⟩
  subst e
  refine ⟨by decide +kernel, by decide +kernel, by decide +kernel, ?_⟩
  refine ⟨by decide +kernel, fun u e => ?_⟩
  subst e
  refine k_X11_init_47 (by decide +kernel) ⟨by decide +kernel, 139, rfl, by decide +kernel, by decide +kernel, ?_⟩
  refine ⟨fun q => absurd q (by decide), fun _ => ?_⟩
  refine ⟨by decide +kernel, 139, rfl, ?_⟩
  refine ⟨by decide +kernel, by decide +kernel, by decide +kernel, ?_⟩
  refine ⟨by decide +kernel, by decide +kernel, by decide +kernel, ?_⟩
  refine c9 (by decide +kernel) ⟨rfl, ?_⟩
  refine ⟨by decide +kernel, by decide +kernel, by unfold vp_in; decide, by decide +kernel, by decide +kernel, fun u e => ?_⟩
  subst e
  refine fun y e => ?_
  have e : y = 1 := by rw [e]; decide
  subst e
  refine k_X11_init_47 (by decide +kernel) ⟨by decide +kernel, 139, rfl, by decide +kernel, by decide +kernel, ?_⟩
  refine ⟨fun q => absurd q (by decide), fun _ => ?_⟩
  refine ⟨by decide +kernel, 139, rfl, ?_⟩
  refine ⟨by decide +kernel, by decide +kernel, by decide +kernel, ?_⟩
  refine ⟨by decide +kernel, by decide +kernel, by decide +kernel, ?_⟩
  refine c9 (by decide +kernel) ⟨rfl, ?_⟩
  refine ⟨by decide +kernel, by decide +kernel, by unfold vp_in; decide, by decide +kernel, by decide +kernel, fun u e => ?_⟩
  subst e
  refine fun y e => ?_
  have e : y = 2 := by rw [e]; decide
  subst e
  refine k_X11_init_47 (by decide +kernel) ⟨by decide +kernel, 139, rfl, by decide +kernel, by decide +kernel, ?_⟩
  refine ⟨fun q => absurd q (by decide), fun _ => ?_⟩
  refine ⟨by decide +kernel, 139, rfl, ?_⟩
  refine ⟨by decide +kernel, by decide +kernel, by decide +kernel, ?_⟩
  refine ⟨by decide +kernel, by decide +kernel, by decide +kernel, ?_⟩
  refine c9 (by decide +kernel) ⟨rfl, ?_⟩
  refine ⟨by decide +kernel, by decide +kernel, by unfold vp_in; decide, by decide +kernel, by decide +kernel, fun u e => ?_⟩
  subst e
  refine fun y e => ?_
  have e : y = 3 := by rw [e]; decide
  subst e
  refine k_X11_init_47 (by decide +kernel) ⟨by decide +kernel, 139, rfl, by decide +kernel, by decide +kernel, ?_⟩
  refine ⟨fun q => absurd q (by decide), fun _ => ?_⟩
  refine ⟨by decide +kernel, 139, rfl, ?_⟩
  refine ⟨by decide +kernel, by decide +kernel, by decide +kernel, ?_⟩
  refine ⟨by decide +kernel, by decide +kernel, by decide +kernel, ?_⟩
  refine c9 (by decide +kernel) ⟨rfl, ?_⟩
  refine ⟨by decide +kernel, by decide +kernel, by unfold vp_in; decide, by decide +kernel, by decide +kernel, fun u e => ?_⟩
  subst e
  refine fun y e => ?_
  have e : y = 4 := by rw [e]; decide
  subst e
  refine k_X11_init_47 (by decide +kernel) ⟨by decide +kernel, 139, rfl, by decide +kernel, by decide +kernel, ?_⟩
  refine ⟨fun _ => ?_, fun q => absurd (by decide) q⟩
  refine ⟨by decide +kernel, fun u e => ?_⟩
  subst e
  refine ⟨by decide +kernel, fun u e => ?_⟩
  subst e
  refine ⟨by decide +kernel, by decide +kernel, by decide +kernel, ?_⟩
  refine ⟨by decide +kernel, by decide +kernel, by decide +kernel, ?_⟩
  refine c3 (by decide +kernel) ⟨rfl, ?_⟩
  refine ⟨by decide +kernel, fun u e => ?_⟩
  subst e
  refine ⟨by decide +kernel, by decide +kernel, by decide +kernel, ?_⟩
  refine ⟨by decide +kernel, by decide +kernel, by decide +kernel, ?_⟩
  refine c1 (by decide +kernel) ⟨rfl, ?_⟩
  refine ⟨by decide +kernel, fun u e => ?_⟩
  subst e
  refine ⟨by decide +kernel, by decide +kernel, by decide +kernel, ?_⟩
  refine ⟨by decide +kernel, by decide +kernel, by decide +kernel, ?_⟩
  refine c7 (by decide +kernel) x_sh7b (fun k hk => x_sl7b k (by omega)) ⟨rfl, ?_⟩
  refine ⟨by decide +kernel, fun u e => ?_⟩
  subst e
  refine ⟨by decide +kernel, fun u e => ?_⟩
  subst e
  refine ⟨by decide +kernel, fun u e => ?_⟩
  subst e
  refine ⟨by decide +kernel, by decide +kernel, by decide +kernel, ?_⟩
  refine ⟨by decide +kernel, by decide +kernel, by decide +kernel, ?_⟩
  refine c8 ⟨rfl, ?_⟩
  refine ⟨by decide +kernel, fun u e => ?_⟩
  subst e
  refine ⟨by decide +kernel, by decide +kernel, by decide +kernel, ?_⟩
  refine ⟨by decide +kernel, 314, rfl, ?_⟩
  refine ⟨by decide +kernel, by decide +kernel, by decide +kernel, ?_⟩
  refine c6 ⟨rfl, ?_⟩
  refine ⟨by decide +kernel, fun u e => ?_⟩
  subst e
  refine ⟨by decide +kernel, by decide +kernel, by decide +kernel, ?_⟩
  refine ⟨by decide +kernel, 1, rfl, ?_⟩
  refine ⟨by decide +kernel, by decide +kernel, by decide +kernel, ?_⟩
  refine c4 ⟨rfl, ?_⟩
  refine ⟨by decide +kernel, fun u e => ?_⟩
  subst e
  refine ⟨by decide +kernel, by decide +kernel, by decide +kernel, ?_⟩
  refine ⟨by decide +kernel, 1, rfl, ?_⟩
  refine ⟨by decide +kernel, 329, rfl, ?_⟩
  refine ⟨by decide +kernel, by decide +kernel, by decide +kernel, ?_⟩
  refine c2 ⟨rfl, ?_⟩
  refine ⟨by decide +kernel, fun u e => ?_⟩
  subst e
  refine ⟨by decide +kernel, by decide +kernel, by decide +kernel, ?_⟩
  refine ⟨by decide +kernel, 1, rfl, ?_⟩
  refine ⟨by decide +kernel, 329, rfl, ?_⟩
  refine ⟨by decide +kernel, by decide +kernel, by decide +kernel, ?_⟩
  refine c10 ⟨rfl, ?_⟩
  refine ⟨by decide +kernel, fun u e => ?_⟩
  subst e
  refine ⟨by decide +kernel, by decide +kernel, by decide +kernel, ?_⟩
  refine ⟨by decide +kernel, 1, rfl, ?_⟩
  refine ⟨by decide +kernel, 329, rfl, ?_⟩
  refine ⟨by decide +kernel, by decide +kernel, by decide +kernel, ?_⟩
  refine c0 ⟨rfl, ?_⟩
  refine ⟨by decide +kernel, fun u e => ?_⟩
  subst e
  refine ⟨by decide +kernel, by decide +kernel, by decide +kernel, ?_⟩
  refine ⟨by decide +kernel, by decide +kernel, by decide +kernel, ?_⟩
  refine c1 (by decide +kernel) ⟨rfl, ?_⟩
  refine ⟨by decide +kernel, fun u e => ?_⟩
  subst e
  exact ⟨rfl, h⟩
def s12 (σ : x_S) : x_S := (x_wi (x_wi (x_wi (x_wi (x_wi (x_wi (x_wi (x_wi (x_wi (x_wi (x_wi (x_wi (x_wi (x_wr (x_nw (x_wr (x_nw (x_wr (x_nw (x_wr (x_nw (x_wr (x_nw (x_wr (x_nw (x_wr (x_nw (x_wr (x_nw (x_wr (x_nw (x_wr (x_nw (x_wr (x_nw (x_wr (x_nw (x_wr (x_nw (x_wr (x_nw (x_wr (x_nw (x_wr (x_nw (x_wr (x_nw (x_wr (x_nw (x_wr (x_nw (x_wr (x_nw (x_wr (x_nw (x_wr (x_nw (x_wr (x_nw (x_wr (x_nw (x_wr (x_nw (x_wr (x_nw (x_wr (x_nw (x_wi (x_wi (x_wr (x_nw (x_wr (x_nw (x_wr (x_nw σ 346) 345 0 (some 346)) 347) 345 1 (some 347)) 348) 345 2 (some 348)) 345 4 (-1)) 345 5 (-1)) 349) 345 6 (some 349)) 350) 345 7 (some 350)) 351) 345 8 (some 351)) 352) 345 9 (some 352)) 353) 345 10 (some 353)) 354) 345 11 (some 354)) 355) 345 12 (some 355)) 356) 345 13 (some 356)) 357) 345 23 (some 357)) 358) 345 24 (some 358)) 359) 345 26 (some 359)) 360) 345 27 (some 360)) 361) 345 29 (some 361)) 362) 345 32 (some 362)) 363) 345 33 (some 363)) 364) 345 34 (some 364)) 365) 345 35 (some 365)) 366) 345 36 (some 366)) 367) 345 38 (some 367)) 368) 345 39 (some 368)) 369) 345 40 (some 369)) 370) 345 41 (some 370)) 371) 345 42 (some 371)) 372) 345 43 (some 372)) 373) 345 44 (some 373)) 374) 345 45 (some 374)) 375) 345 46 (some 375)) 346 (3 : Int32).toNatClampNeg (-1)) 346 (131 : Int32).toNatClampNeg (-1)) 346 (133 : Int32).toNatClampNeg (-1)) 346 (134 : Int32).toNatClampNeg 99) 346 (22 + 114 : Int32).toNatClampNeg 89) 346 (22 + 0 : Int32).toNatClampNeg 1) 346 (22 + 1 : Int32).toNatClampNeg 1) 346 (22 + 2 : Int32).toNatClampNeg 1) 346 (22 + 3 : Int32).toNatClampNeg 1) 346 (22 + 4 : Int32).toNatClampNeg 1) 346 (22 + 5 : Int32).toNatClampNeg 1) 346 (22 + 6 : Int32).toNatClampNeg 1) 346 (22 + 7 : Int32).toNatClampNeg 1)
set_option maxRecDepth 100000 in
set_option maxHeartbeats 4000000 in
theorem c12 {d : Nat} {σ : x_S} {Q : x_S → Option Value → Prop} (h : x_Mt d mX12_copies 376 [.ref 345, .int 1] (s12 σ) (fun u r => r = none ∧ Q u none)) : x_Mt (d + 1) mX12_init 346 [.ref 345] σ Q := by
  refine e_X12_init (by decide +kernel) ?_
  refine ⟨by decide +kernel, by decide +kernel, by decide +kernel, ?_⟩
  refine ⟨by decide +kernel, fun u e => ?_⟩
  subst e
  refine ⟨by decide +kernel, by decide +kernel, by decide +kernel, ?_⟩
  refine ⟨by decide +kernel, fun u e => ?_⟩
  subst e
  refine ⟨by decide +kernel, by decide +kernel, by decide +kernel, ?_⟩
  refine ⟨by decide +kernel, fun u e => ?_⟩
  subst e
  refine ⟨by decide +kernel, fun u e => ?_⟩
  subst e
  refine ⟨by decide +kernel, fun u e => ?_⟩
  subst e
  refine ⟨by decide +kernel, by decide +kernel, by decide +kernel, ?_⟩
  refine ⟨by decide +kernel, fun u e => ?_⟩
  subst e
  refine ⟨by decide +kernel, by decide +kernel, by decide +kernel, ?_⟩
  refine ⟨by decide +kernel, fun u e => ?_⟩
  subst e
  refine ⟨by decide +kernel, by decide +kernel, by decide +kernel, ?_⟩
  refine ⟨by decide +kernel, fun u e => ?_⟩
  subst e
  refine ⟨by decide +kernel, by decide +kernel, by decide +kernel, ?_⟩
  refine ⟨by decide +kernel, fun u e => ?_⟩
  subst e
  refine ⟨by decide +kernel, by decide +kernel, by decide +kernel, ?_⟩
  refine ⟨by decide +kernel, fun u e => ?_⟩
  subst e
  refine ⟨by decide +kernel, by decide +kernel, by decide +kernel, ?_⟩
  refine ⟨by decide +kernel, fun u e => ?_⟩
  subst e
  refine ⟨by decide +kernel, by decide +kernel, by decide +kernel, ?_⟩
  refine ⟨by decide +kernel, fun u e => ?_⟩
  subst e
  refine ⟨by decide +kernel, by decide +kernel, by decide +kernel, ?_⟩
  refine ⟨by decide +kernel, fun u e => ?_⟩
  subst e
  refine ⟨by decide +kernel, by decide +kernel, by decide +kernel, ?_⟩
  refine ⟨by decide +kernel, fun u e => ?_⟩
  subst e
  refine ⟨by decide +kernel, by decide +kernel, by decide +kernel, ?_⟩
  refine ⟨by decide +kernel, fun u e => ?_⟩
  subst e
  refine ⟨by decide +kernel, by decide +kernel, by decide +kernel, ?_⟩
  refine ⟨by decide +kernel, fun u e => ?_⟩
  subst e
  refine ⟨by decide +kernel, by decide +kernel, by decide +kernel, ?_⟩
  refine ⟨by decide +kernel, fun u e => ?_⟩
  subst e
  refine ⟨by decide +kernel, by decide +kernel, by decide +kernel, ?_⟩
  refine ⟨by decide +kernel, fun u e => ?_⟩
  subst e
  refine ⟨by decide +kernel, by decide +kernel, by decide +kernel, ?_⟩
  refine ⟨by decide +kernel, fun u e => ?_⟩
  subst e
  refine ⟨by decide +kernel, by decide +kernel, by decide +kernel, ?_⟩
  refine ⟨by decide +kernel, fun u e => ?_⟩
  subst e
  refine ⟨by decide +kernel, by decide +kernel, by decide +kernel, ?_⟩
  refine ⟨by decide +kernel, fun u e => ?_⟩
  subst e
  refine ⟨by decide +kernel, by decide +kernel, by decide +kernel, ?_⟩
  refine ⟨by decide +kernel, fun u e => ?_⟩
  subst e
  refine ⟨by decide +kernel, by decide +kernel, by decide +kernel, ?_⟩
  refine ⟨by decide +kernel, fun u e => ?_⟩
  subst e
  refine ⟨by decide +kernel, by decide +kernel, by decide +kernel, ?_⟩
  refine ⟨by decide +kernel, fun u e => ?_⟩
  subst e
  refine ⟨by decide +kernel, by decide +kernel, by decide +kernel, ?_⟩
  refine ⟨by decide +kernel, fun u e => ?_⟩
  subst e
  refine ⟨by decide +kernel, by decide +kernel, by decide +kernel, ?_⟩
  refine ⟨by decide +kernel, fun u e => ?_⟩
  subst e
  refine ⟨by decide +kernel, by decide +kernel, by decide +kernel, ?_⟩
  refine ⟨by decide +kernel, fun u e => ?_⟩
  subst e
  refine ⟨by decide +kernel, by decide +kernel, by decide +kernel, ?_⟩
  refine ⟨by decide +kernel, fun u e => ?_⟩
  subst e
  refine ⟨by decide +kernel, by decide +kernel, by decide +kernel, ?_⟩
  refine ⟨by decide +kernel, fun u e => ?_⟩
  subst e
  refine ⟨by decide +kernel, by decide +kernel, by decide +kernel, ?_⟩
  refine ⟨by decide +kernel, fun u e => ?_⟩
  subst e
  refine ⟨by decide +kernel, by decide +kernel, by decide +kernel, ?_⟩
  refine ⟨by decide +kernel, fun u e => ?_⟩
  subst e
  refine ⟨by decide +kernel, by decide +kernel, by decide +kernel, ?_⟩
  refine ⟨by decide +kernel, fun u e => ?_⟩
  subst e
  refine ⟨by decide +kernel, 346, rfl, ?_⟩
  refine ⟨by decide +kernel, by decide +kernel, by unfold vp_in; decide, fun u e => ?_⟩
  subst e
  refine ⟨by decide +kernel, 346, rfl, ?_⟩
  refine ⟨by decide +kernel, by decide +kernel, by unfold vp_in; decide, fun u e => ?_⟩
  subst e
  refine ⟨by decide +kernel, 346, rfl, ?_⟩
  refine ⟨by decide +kernel, by decide +kernel, by unfold vp_in; decide, fun u e => ?_⟩
  subst e
  refine ⟨by decide +kernel, 346, rfl, ?_⟩
  refine ⟨by decide +kernel, by decide +kernel, by unfold vp_in; decide, fun u e => ?_⟩
  subst e
  refine ⟨by decide +kernel, 346, rfl, ?_⟩
  refine ⟨by decide +kernel, by decide +kernel, by unfold vp_in; decide, fun u e => ?_⟩
  subst e
  refine k_X12_init_308 (by decide +kernel) ?_
  refine ⟨fun q => absurd q (by decide), fun _ => ?_⟩
  refine ⟨by decide +kernel, 346, rfl, ?_⟩
  refine ⟨by decide +kernel, by decide +kernel, by unfold vp_in; decide, fun u e => ?_⟩
  subst e
  refine fun y e => ?_
  have e : y = 1 := by rw [e]; decide
  subst e
  refine k_X12_init_308 (by decide +kernel) ?_
  refine ⟨fun q => absurd q (by decide), fun _ => ?_⟩
  refine ⟨by decide +kernel, 346, rfl, ?_⟩
  refine ⟨by decide +kernel, by decide +kernel, by unfold vp_in; decide, fun u e => ?_⟩
  subst e
  refine fun y e => ?_
  have e : y = 2 := by rw [e]; decide
  subst e
  refine k_X12_init_308 (by decide +kernel) ?_
  refine ⟨fun q => absurd q (by decide), fun _ => ?_⟩
  refine ⟨by decide +kernel, 346, rfl, ?_⟩
  refine ⟨by decide +kernel, by decide +kernel, by unfold vp_in; decide, fun u e => ?_⟩
  subst e
  refine fun y e => ?_
  have e : y = 3 := by rw [e]; decide
  subst e
  refine k_X12_init_308 (by decide +kernel) ?_
  refine ⟨fun q => absurd q (by decide), fun _ => ?_⟩
  refine ⟨by decide +kernel, 346, rfl, ?_⟩
  refine ⟨by decide +kernel, by decide +kernel, by unfold vp_in; decide, fun u e => ?_⟩
  subst e
  refine fun y e => ?_
  have e : y = 4 := by rw [e]; decide
  subst e
  refine k_X12_init_308 (by decide +kernel) ?_
  refine ⟨fun q => absurd q (by decide), fun _ => ?_⟩
  refine ⟨by decide +kernel, 346, rfl, ?_⟩
  refine ⟨by decide +kernel, by decide +kernel, by unfold vp_in; decide, fun u e => ?_⟩
  subst e
  refine fun y e => ?_
  have e : y = 5 := by rw [e]; decide
  subst e
  refine k_X12_init_308 (by decide +kernel) ?_
  refine ⟨fun q => absurd q (by decide), fun _ => ?_⟩
  refine ⟨by decide +kernel, 346, rfl, ?_⟩
  refine ⟨by decide +kernel, by decide +kernel, by unfold vp_in; decide, fun u e => ?_⟩
  subst e
  refine fun y e => ?_
  have e : y = 6 := by rw [e]; decide
  subst e
  refine k_X12_init_308 (by decide +kernel) ?_
  refine ⟨fun q => absurd q (by decide), fun _ => ?_⟩
  refine ⟨by decide +kernel, 346, rfl, ?_⟩
  refine ⟨by decide +kernel, by decide +kernel, by unfold vp_in; decide, fun u e => ?_⟩
  subst e
  refine fun y e => ?_
  have e : y = 7 := by rw [e]; decide
  subst e
  refine k_X12_init_308 (by decide +kernel) ?_
  refine ⟨fun q => absurd q (by decide), fun _ => ?_⟩
  refine ⟨by decide +kernel, 346, rfl, ?_⟩
  refine ⟨by decide +kernel, by decide +kernel, by unfold vp_in; decide, fun u e => ?_⟩
  subst e
  refine fun y e => ?_
  have e : y = 8 := by rw [e]; decide
  subst e
  refine k_X12_init_308 (by decide +kernel) ?_
  refine ⟨fun _ => ?_, fun q => absurd (by decide) q⟩
  refine ⟨by decide +kernel, ?_⟩
  exact x_Mt.mono h (fun u r g => ⟨g.1, rfl, g.2⟩)
