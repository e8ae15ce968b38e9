/-- what each call asks: class and model answer alike, and J holds behind them -/
def x_Steps (J : x_T → Prop) (τ : x_T) : Prop := ∀ a1 a2 a3 a4 a5 : Int32,
  (x_CI 2000 mX11_house [.ref 0, .int a1] τ (fun τ1 u => x_CI 2000 mX12_house [.ref 345, .int a1] τ1 (fun τ2 v => u = v ∧ J τ2))) ∧
  (x_CI 2000 mX11_lane [.ref 0, .int a1, .int a2, .int a3] τ (fun τ1 u => x_CI 2000 mX12_lane [.ref 345, .int a1, .int a2, .int a3] τ1 (fun τ2 v => u = v ∧ J τ2))) ∧
  (x_CI 2000 mX11_pusher [.ref 0, .int a1] τ (fun τ1 u => x_CI 2000 mX12_pusher [.ref 345, .int a1] τ1 (fun τ2 v => u = v ∧ J τ2))) ∧
  (x_CI 2000 mX11_push [.ref 0, .int a1, .int a2] τ (fun τ1 u => x_CI 2000 mX12_push [.ref 345, .int a1, .int a2] τ1 (fun τ2 v => u = v ∧ J τ2))) ∧
  (x_CI 2000 mX11_tip [.ref 0] τ (fun τ1 u => x_CI 2000 mX12_tip [.ref 345] τ1 (fun τ2 v => u = v ∧ J τ2))) ∧
  (x_CI 2000 mX11_mend [.ref 0] τ (fun τ1 u => x_CI 2000 mX12_mend [.ref 345] τ1 (fun τ2 v => u = v ∧ J τ2))) ∧
  (x_CI 2000 mX11_minute [.ref 0, .int a1] τ (fun τ1 u => x_CI 2000 mX12_minute [.ref 345, .int a1] τ1 (fun τ2 v => u = v ∧ J τ2))) ∧
  (x_CI 2000 mX11_years [.ref 0, .int a1, .int a2] τ (fun τ1 u => x_CI 2000 mX12_years [.ref 345, .int a1, .int a2] τ1 (fun τ2 v => u = v ∧ J τ2))) ∧
  (x_CI 2000 mX11_feed [.ref 0, .int a1, .int a2, .int a3, .int a4, .int a5] τ (fun τ1 u => x_CI 2000 mX12_feed [.ref 345, .int a1, .int a2, .int a3, .int a4, .int a5] τ1 (fun τ2 v => u = v ∧ J τ2))) ∧
  (x_CI 2000 mX11_end [.ref 0, .int a1] τ (fun τ1 u => x_CI 2000 mX12_end [.ref 345, .int a1] τ1 (fun τ2 v => u = v ∧ J τ2))) ∧
  (x_CI 2000 mX11_text [.ref 0] τ (fun τ1 u => x_CI 2000 mX12_text [.ref 345] τ1 (fun τ2 v => u = v ∧ J τ2))) ∧
  (x_CI 2000 mX11_fault [.ref 0, .int a1] τ (fun τ1 u => x_CI 2000 mX12_fault [.ref 345, .int a1] τ1 (fun τ2 v => u = v ∧ J τ2))) ∧
  (x_CI 2000 mX11_by [.ref 0, .int a1] τ (fun τ1 u => x_CI 2000 mX12_by [.ref 345, .int a1] τ1 (fun τ2 v => u = v ∧ J τ2))) ∧
  (x_CI 2000 mX11_played [.ref 0, .int a1] τ (fun τ1 u => x_CI 2000 mX12_played [.ref 345, .int a1] τ1 (fun τ2 v => u = v ∧ J τ2))) ∧
  (x_CI 2000 mX11_undo [.ref 0] τ (fun τ1 u => x_CI 2000 mX12_undo [.ref 345] τ1 (fun τ2 v => u = v ∧ J τ2))) ∧
  (x_CI 2000 mX11_of [.ref 0, .int a1, .int a2] τ (fun τ1 u => x_CI 2000 mX12_of [.ref 345, .int a1, .int a2] τ1 (fun τ2 v => u = v ∧ J τ2))) ∧
  (x_CI 2000 mX11_two [.ref 0, .int a1, .int a2, .int a3] τ (fun τ1 u => x_CI 2000 mX12_two [.ref 345, .int a1, .int a2, .int a3] τ1 (fun τ2 v => u = v ∧ J τ2))) ∧
  (x_CI 2000 mX11_barrow [.ref 0, .int a1] τ (fun τ1 u => x_CI 2000 mX12_barrow [.ref 345, .int a1] τ1 (fun τ2 v => u = v ∧ J τ2))) ∧
  (x_CI 2000 mX11_hard [.ref 0, .int a1, .int a2, .int a3] τ (fun τ1 u => x_CI 2000 mX12_hard [.ref 345, .int a1, .int a2, .int a3] τ1 (fun τ2 v => u = v ∧ J τ2))) ∧
  (x_CI 2000 mX11_book [.ref 0, .int a1, .int a2] τ (fun τ1 u => x_CI 2000 mX12_book [.ref 345, .int a1, .int a2] τ1 (fun τ2 v => u = v ∧ J τ2))) ∧
  (x_CI 2000 mX11_foretold [.ref 0, .int a1, .int a2, .int a3] τ (fun τ1 u => x_CI 2000 mX12_foretold [.ref 345, .int a1, .int a2, .int a3] τ1 (fun τ2 v => u = v ∧ J τ2))) ∧
  (x_CI 2000 mX11_arrives [.ref 0] τ (fun τ1 u => x_CI 2000 mX12_arrives [.ref 345] τ1 (fun τ2 v => u = v ∧ J τ2))) ∧
  (x_CI 2000 mX11_want [.ref 0, .int a1, .int a2] τ (fun τ1 u => x_CI 2000 mX12_want [.ref 345, .int a1, .int a2] τ1 (fun τ2 v => u = v ∧ J τ2))) ∧
  (x_CI 2000 mX11_fitting [.ref 0] τ (fun τ1 u => x_CI 2000 mX12_fitting [.ref 345] τ1 (fun τ2 v => u = v ∧ J τ2))) ∧
  (x_CI 2000 mX11_route [.ref 0, .int a1] τ (fun τ1 u => x_CI 2000 mX12_route [.ref 345, .int a1] τ1 (fun τ2 v => u = v ∧ J τ2))) ∧
  (x_CI 2000 mX11_least [.ref 0, .int a1, .int a2, .int a3] τ (fun τ1 u => x_CI 2000 mX12_least [.ref 345, .int a1, .int a2, .int a3] τ1 (fun τ2 v => u = v ∧ J τ2))) ∧
  (x_CI 2000 mX11_winner [.ref 0] τ (fun τ1 u => x_CI 2000 mX12_winner [.ref 345] τ1 (fun τ2 v => u = v ∧ J τ2))) ∧
  (x_CI 2000 mX11_agenda [.ref 0, .int a1, .int a2] τ (fun τ1 u => x_CI 2000 mX12_agenda [.ref 345, .int a1, .int a2] τ1 (fun τ2 v => u = v ∧ J τ2))) ∧
  (x_CI 2000 mX11_weight [.ref 0, .int a1, .int a2] τ (fun τ1 u => x_CI 2000 mX12_weight [.ref 345, .int a1, .int a2] τ1 (fun τ2 v => u = v ∧ J τ2))) ∧
  (x_CI 2000 mX11_fair [.ref 0, .int a1] τ (fun τ1 u => x_CI 2000 mX12_fair [.ref 345, .int a1] τ1 (fun τ2 v => u = v ∧ J τ2))) ∧
  (x_CI 2000 mX11_feel [.ref 0, .int a1, .int a2] τ (fun τ1 u => x_CI 2000 mX12_feel [.ref 345, .int a1, .int a2] τ1 (fun τ2 v => u = v ∧ J τ2))) ∧
  (x_CI 2000 mX11_lost [.ref 0] τ (fun τ1 u => x_CI 2000 mX12_lost [.ref 345] τ1 (fun τ2 v => u = v ∧ J τ2))) ∧
  (x_CI 2000 mX11_yard [.ref 0] τ (fun τ1 u => x_CI 2000 mX12_yard [.ref 345] τ1 (fun τ2 v => u = v ∧ J τ2))) ∧
  (x_CI 2000 mX11_thieves [.ref 0] τ (fun τ1 u => x_CI 2000 mX12_thieves [.ref 345] τ1 (fun τ2 v => u = v ∧ J τ2))) ∧
  (x_CI 2000 mX11_watch [.ref 0, .int a1, .int a2] τ (fun τ1 u => x_CI 2000 mX12_watch [.ref 345, .int a1, .int a2] τ1 (fun τ2 v => u = v ∧ J τ2))) ∧
  (x_CI 2000 mX11_image [.ref 0] τ (fun τ1 u => x_CI 2000 mX12_image [.ref 345] τ1 (fun τ2 v => u = v ∧ J τ2))) ∧
  (x_CI 2000 mX11_back [.ref 0] τ (fun τ1 u => x_CI 2000 mX12_back [.ref 345] τ1 (fun τ2 v => u = v ∧ J τ2))) ∧
  (x_CI 2000 mX11_about [.ref 0, .int a1] τ (fun τ1 u => x_CI 2000 mX12_about [.ref 345, .int a1] τ1 (fun τ2 v => u = v ∧ J τ2)))
theorem d_law_33 : decode code 33 = .ok (.tableswitch 1151 0 37 #[167, 190, 233, 256, 289, 302, 315, 338, 371, 434, 457, 470, 493, 516, 539, 552, 585, 628, 651, 694, 727, 770, 783, 816, 829, 852, 895, 908, 941, 974, 997, 1030, 1043, 1056, 1069, 1102, 1115, 1128], 167) := by decide +kernel
set_option maxRecDepth 100000 in
set_option maxHeartbeats 4000000 in
theorem L_body {Ln : Nat} {xs : Nat → Int32} {i : Int32} {τ : x_T} {J : x_T → Prop} (h0 : vp_in i Ln) (h1 : vp_in (i + 1) Ln) (h2 : vp_in (i + 2) Ln) (h3 : vp_in (i + 3) Ln) (h4 : vp_in (i + 4) Ln) (h5 : vp_in (i + 5) Ln) (hs : x_Steps J τ) (hJ : J τ) (h : ∀ τ2, J τ2 → x_Lj Ln xs 376 1184 [(1, .ref 0), (2, .ref 345), (3, .int i)] [] (x_fu τ2)) : x_Lj Ln xs 376 27 [(1, .ref 0), (2, .ref 345), (3, .int i)] [] (x_fu τ) := by
  refine L_sel (i := i) 2 (by decide +kernel) (by decide +kernel) (by decide +kernel) rfl h0 ?_
  refine L_bipush (n := 63) (v := 63) (by decide +kernel) (by decide) ?_
  refine L_iand (by decide +kernel) ?_
  have hs := hs (xs (i + 1).toNatClampNeg) (xs (i + 2).toNatClampNeg) (xs (i + 3).toNatClampNeg) (xs (i + 4).toNatClampNeg) (xs (i + 5).toNatClampNeg)
  generalize xs i.toNatClampNeg &&& 63 = x
  by_cases c0 : x = 0
  · refine L_switchIn (off := 167) (tgt := 200) d_law_33 (by rw [c0]; decide) (by rw [c0]; decide) (by rw [c0]; rfl) (by decide) ?_
    exact L_case_0 h1 (x_CI.mono hs.1 (fun _ _ g => x_CI.mono g (fun _ _ g => ⟨g.1, h _ g.2⟩)))
  by_cases c1 : x = 1
  · refine L_switchIn (off := 190) (tgt := 223) d_law_33 (by rw [c1]; decide) (by rw [c1]; decide) (by rw [c1]; rfl) (by decide) ?_
    exact L_case_1 h1 h2 h3 (x_CI.mono hs.2.1 (fun _ _ g => x_CI.mono g (fun _ _ g => ⟨g.1, h _ g.2⟩)))
  by_cases c2 : x = 2
  · refine L_switchIn (off := 233) (tgt := 266) d_law_33 (by rw [c2]; decide) (by rw [c2]; decide) (by rw [c2]; rfl) (by decide) ?_
    exact L_case_2 h1 (x_CI.mono hs.2.2.1 (fun _ _ g => x_CI.mono g (fun _ _ g => ⟨g.1, h _ g.2⟩)))
  by_cases c3 : x = 3
  · refine L_switchIn (off := 256) (tgt := 289) d_law_33 (by rw [c3]; decide) (by rw [c3]; decide) (by rw [c3]; rfl) (by decide) ?_
    exact L_case_3 h1 h2 (x_CI.mono hs.2.2.2.1 (fun _ _ g => x_CI.mono g (fun _ _ g => ⟨g.1, h _ g.2⟩)))
  by_cases c4 : x = 4
  · refine L_switchIn (off := 289) (tgt := 322) d_law_33 (by rw [c4]; decide) (by rw [c4]; decide) (by rw [c4]; rfl) (by decide) ?_
    exact L_case_4  (x_CI.mono hs.2.2.2.2.1 (fun _ _ g => x_CI.mono g (fun _ _ g => ⟨g.1, h _ g.2⟩)))
  by_cases c5 : x = 5
  · refine L_switchIn (off := 302) (tgt := 335) d_law_33 (by rw [c5]; decide) (by rw [c5]; decide) (by rw [c5]; rfl) (by decide) ?_
    exact L_case_5  (x_CI.mono hs.2.2.2.2.2.1 (fun _ _ g => x_CI.mono g (fun _ _ g => ⟨g.1, h _ g.2⟩)))
  by_cases c6 : x = 6
  · refine L_switchIn (off := 315) (tgt := 348) d_law_33 (by rw [c6]; decide) (by rw [c6]; decide) (by rw [c6]; rfl) (by decide) ?_
    exact L_case_6 h1 (x_CI.mono hs.2.2.2.2.2.2.1 (fun _ _ g => x_CI.mono g (fun _ _ g => ⟨g.1, h _ g.2⟩)))
  by_cases c7 : x = 7
  · refine L_switchIn (off := 338) (tgt := 371) d_law_33 (by rw [c7]; decide) (by rw [c7]; decide) (by rw [c7]; rfl) (by decide) ?_
    exact L_case_7 h1 h2 (x_CI.mono hs.2.2.2.2.2.2.2.1 (fun _ _ g => x_CI.mono g (fun _ _ g => ⟨g.1, h _ g.2⟩)))
  by_cases c8 : x = 8
  · refine L_switchIn (off := 371) (tgt := 404) d_law_33 (by rw [c8]; decide) (by rw [c8]; decide) (by rw [c8]; rfl) (by decide) ?_
    exact L_case_8 h1 h2 h3 h4 h5 (x_CI.mono hs.2.2.2.2.2.2.2.2.1 (fun _ _ g => x_CI.mono g (fun _ _ g => ⟨g.1, h _ g.2⟩)))
  by_cases c9 : x = 9
  · refine L_switchIn (off := 434) (tgt := 467) d_law_33 (by rw [c9]; decide) (by rw [c9]; decide) (by rw [c9]; rfl) (by decide) ?_
    exact L_case_9 h1 (x_CI.mono hs.2.2.2.2.2.2.2.2.2.1 (fun _ _ g => x_CI.mono g (fun _ _ g => ⟨g.1, h _ g.2⟩)))
  by_cases c10 : x = 10
  · refine L_switchIn (off := 457) (tgt := 490) d_law_33 (by rw [c10]; decide) (by rw [c10]; decide) (by rw [c10]; rfl) (by decide) ?_
    exact L_case_10  (x_CI.mono hs.2.2.2.2.2.2.2.2.2.2.1 (fun _ _ g => x_CI.mono g (fun _ _ g => ⟨g.1, h _ g.2⟩)))
  by_cases c11 : x = 11
  · refine L_switchIn (off := 470) (tgt := 503) d_law_33 (by rw [c11]; decide) (by rw [c11]; decide) (by rw [c11]; rfl) (by decide) ?_
    exact L_case_11 h1 (x_CI.mono hs.2.2.2.2.2.2.2.2.2.2.2.1 (fun _ _ g => x_CI.mono g (fun _ _ g => ⟨g.1, h _ g.2⟩)))
  by_cases c12 : x = 12
  · refine L_switchIn (off := 493) (tgt := 526) d_law_33 (by rw [c12]; decide) (by rw [c12]; decide) (by rw [c12]; rfl) (by decide) ?_
    exact L_case_12 h1 (x_CI.mono hs.2.2.2.2.2.2.2.2.2.2.2.2.1 (fun _ _ g => x_CI.mono g (fun _ _ g => ⟨g.1, h _ g.2⟩)))
  by_cases c13 : x = 13
  · refine L_switchIn (off := 516) (tgt := 549) d_law_33 (by rw [c13]; decide) (by rw [c13]; decide) (by rw [c13]; rfl) (by decide) ?_
    exact L_case_13 h1 (x_CI.mono hs.2.2.2.2.2.2.2.2.2.2.2.2.2.1 (fun _ _ g => x_CI.mono g (fun _ _ g => ⟨g.1, h _ g.2⟩)))
  by_cases c14 : x = 14
  · refine L_switchIn (off := 539) (tgt := 572) d_law_33 (by rw [c14]; decide) (by rw [c14]; decide) (by rw [c14]; rfl) (by decide) ?_
    exact L_case_14  (x_CI.mono hs.2.2.2.2.2.2.2.2.2.2.2.2.2.2.1 (fun _ _ g => x_CI.mono g (fun _ _ g => ⟨g.1, h _ g.2⟩)))
  by_cases c15 : x = 15
  · refine L_switchIn (off := 552) (tgt := 585) d_law_33 (by rw [c15]; decide) (by rw [c15]; decide) (by rw [c15]; rfl) (by decide) ?_
    exact L_case_15 h1 h2 (x_CI.mono hs.2.2.2.2.2.2.2.2.2.2.2.2.2.2.2.1 (fun _ _ g => x_CI.mono g (fun _ _ g => ⟨g.1, h _ g.2⟩)))
  by_cases c16 : x = 16
  · refine L_switchIn (off := 585) (tgt := 618) d_law_33 (by rw [c16]; decide) (by rw [c16]; decide) (by rw [c16]; rfl) (by decide) ?_
    exact L_case_16 h1 h2 h3 (x_CI.mono hs.2.2.2.2.2.2.2.2.2.2.2.2.2.2.2.2.1 (fun _ _ g => x_CI.mono g (fun _ _ g => ⟨g.1, h _ g.2⟩)))
  by_cases c17 : x = 17
  · refine L_switchIn (off := 628) (tgt := 661) d_law_33 (by rw [c17]; decide) (by rw [c17]; decide) (by rw [c17]; rfl) (by decide) ?_
    exact L_case_17 h1 (x_CI.mono hs.2.2.2.2.2.2.2.2.2.2.2.2.2.2.2.2.2.1 (fun _ _ g => x_CI.mono g (fun _ _ g => ⟨g.1, h _ g.2⟩)))
  by_cases c18 : x = 18
  · refine L_switchIn (off := 651) (tgt := 684) d_law_33 (by rw [c18]; decide) (by rw [c18]; decide) (by rw [c18]; rfl) (by decide) ?_
    exact L_case_18 h1 h2 h3 (x_CI.mono hs.2.2.2.2.2.2.2.2.2.2.2.2.2.2.2.2.2.2.1 (fun _ _ g => x_CI.mono g (fun _ _ g => ⟨g.1, h _ g.2⟩)))
  by_cases c19 : x = 19
  · refine L_switchIn (off := 694) (tgt := 727) d_law_33 (by rw [c19]; decide) (by rw [c19]; decide) (by rw [c19]; rfl) (by decide) ?_
    exact L_case_19 h1 h2 (x_CI.mono hs.2.2.2.2.2.2.2.2.2.2.2.2.2.2.2.2.2.2.2.1 (fun _ _ g => x_CI.mono g (fun _ _ g => ⟨g.1, h _ g.2⟩)))
  by_cases c20 : x = 20
  · refine L_switchIn (off := 727) (tgt := 760) d_law_33 (by rw [c20]; decide) (by rw [c20]; decide) (by rw [c20]; rfl) (by decide) ?_
    exact L_case_20 h1 h2 h3 (x_CI.mono hs.2.2.2.2.2.2.2.2.2.2.2.2.2.2.2.2.2.2.2.2.1 (fun _ _ g => x_CI.mono g (fun _ _ g => ⟨g.1, h _ g.2⟩)))
  by_cases c21 : x = 21
  · refine L_switchIn (off := 770) (tgt := 803) d_law_33 (by rw [c21]; decide) (by rw [c21]; decide) (by rw [c21]; rfl) (by decide) ?_
    exact L_case_21  (x_CI.mono hs.2.2.2.2.2.2.2.2.2.2.2.2.2.2.2.2.2.2.2.2.2.1 (fun _ _ g => x_CI.mono g (fun _ _ g => ⟨g.1, h _ g.2⟩)))
  by_cases c22 : x = 22
  · refine L_switchIn (off := 783) (tgt := 816) d_law_33 (by rw [c22]; decide) (by rw [c22]; decide) (by rw [c22]; rfl) (by decide) ?_
    exact L_case_22 h1 h2 (x_CI.mono hs.2.2.2.2.2.2.2.2.2.2.2.2.2.2.2.2.2.2.2.2.2.2.1 (fun _ _ g => x_CI.mono g (fun _ _ g => ⟨g.1, h _ g.2⟩)))
  by_cases c23 : x = 23
  · refine L_switchIn (off := 816) (tgt := 849) d_law_33 (by rw [c23]; decide) (by rw [c23]; decide) (by rw [c23]; rfl) (by decide) ?_
    exact L_case_23  (x_CI.mono hs.2.2.2.2.2.2.2.2.2.2.2.2.2.2.2.2.2.2.2.2.2.2.2.1 (fun _ _ g => x_CI.mono g (fun _ _ g => ⟨g.1, h _ g.2⟩)))
  by_cases c24 : x = 24
  · refine L_switchIn (off := 829) (tgt := 862) d_law_33 (by rw [c24]; decide) (by rw [c24]; decide) (by rw [c24]; rfl) (by decide) ?_
    exact L_case_24 h1 (x_CI.mono hs.2.2.2.2.2.2.2.2.2.2.2.2.2.2.2.2.2.2.2.2.2.2.2.2.1 (fun _ _ g => x_CI.mono g (fun _ _ g => ⟨g.1, h _ g.2⟩)))
  by_cases c25 : x = 25
  · refine L_switchIn (off := 852) (tgt := 885) d_law_33 (by rw [c25]; decide) (by rw [c25]; decide) (by rw [c25]; rfl) (by decide) ?_
    exact L_case_25 h1 h2 h3 (x_CI.mono hs.2.2.2.2.2.2.2.2.2.2.2.2.2.2.2.2.2.2.2.2.2.2.2.2.2.1 (fun _ _ g => x_CI.mono g (fun _ _ g => ⟨g.1, h _ g.2⟩)))
  by_cases c26 : x = 26
  · refine L_switchIn (off := 895) (tgt := 928) d_law_33 (by rw [c26]; decide) (by rw [c26]; decide) (by rw [c26]; rfl) (by decide) ?_
    exact L_case_26  (x_CI.mono hs.2.2.2.2.2.2.2.2.2.2.2.2.2.2.2.2.2.2.2.2.2.2.2.2.2.2.1 (fun _ _ g => x_CI.mono g (fun _ _ g => ⟨g.1, h _ g.2⟩)))
  by_cases c27 : x = 27
  · refine L_switchIn (off := 908) (tgt := 941) d_law_33 (by rw [c27]; decide) (by rw [c27]; decide) (by rw [c27]; rfl) (by decide) ?_
    exact L_case_27 h1 h2 (x_CI.mono hs.2.2.2.2.2.2.2.2.2.2.2.2.2.2.2.2.2.2.2.2.2.2.2.2.2.2.2.1 (fun _ _ g => x_CI.mono g (fun _ _ g => ⟨g.1, h _ g.2⟩)))
  by_cases c28 : x = 28
  · refine L_switchIn (off := 941) (tgt := 974) d_law_33 (by rw [c28]; decide) (by rw [c28]; decide) (by rw [c28]; rfl) (by decide) ?_
    exact L_case_28 h1 h2 (x_CI.mono hs.2.2.2.2.2.2.2.2.2.2.2.2.2.2.2.2.2.2.2.2.2.2.2.2.2.2.2.2.1 (fun _ _ g => x_CI.mono g (fun _ _ g => ⟨g.1, h _ g.2⟩)))
  by_cases c29 : x = 29
  · refine L_switchIn (off := 974) (tgt := 1007) d_law_33 (by rw [c29]; decide) (by rw [c29]; decide) (by rw [c29]; rfl) (by decide) ?_
    exact L_case_29 h1 (x_CI.mono hs.2.2.2.2.2.2.2.2.2.2.2.2.2.2.2.2.2.2.2.2.2.2.2.2.2.2.2.2.2.1 (fun _ _ g => x_CI.mono g (fun _ _ g => ⟨g.1, h _ g.2⟩)))
  by_cases c30 : x = 30
  · refine L_switchIn (off := 997) (tgt := 1030) d_law_33 (by rw [c30]; decide) (by rw [c30]; decide) (by rw [c30]; rfl) (by decide) ?_
    exact L_case_30 h1 h2 (x_CI.mono hs.2.2.2.2.2.2.2.2.2.2.2.2.2.2.2.2.2.2.2.2.2.2.2.2.2.2.2.2.2.2.1 (fun _ _ g => x_CI.mono g (fun _ _ g => ⟨g.1, h _ g.2⟩)))
  by_cases c31 : x = 31
  · refine L_switchIn (off := 1030) (tgt := 1063) d_law_33 (by rw [c31]; decide) (by rw [c31]; decide) (by rw [c31]; rfl) (by decide) ?_
    exact L_case_31  (x_CI.mono hs.2.2.2.2.2.2.2.2.2.2.2.2.2.2.2.2.2.2.2.2.2.2.2.2.2.2.2.2.2.2.2.1 (fun _ _ g => x_CI.mono g (fun _ _ g => ⟨g.1, h _ g.2⟩)))
  by_cases c32 : x = 32
  · refine L_switchIn (off := 1043) (tgt := 1076) d_law_33 (by rw [c32]; decide) (by rw [c32]; decide) (by rw [c32]; rfl) (by decide) ?_
    exact L_case_32  (x_CI.mono hs.2.2.2.2.2.2.2.2.2.2.2.2.2.2.2.2.2.2.2.2.2.2.2.2.2.2.2.2.2.2.2.2.1 (fun _ _ g => x_CI.mono g (fun _ _ g => ⟨g.1, h _ g.2⟩)))
  by_cases c33 : x = 33
  · refine L_switchIn (off := 1056) (tgt := 1089) d_law_33 (by rw [c33]; decide) (by rw [c33]; decide) (by rw [c33]; rfl) (by decide) ?_
    exact L_case_33  (x_CI.mono hs.2.2.2.2.2.2.2.2.2.2.2.2.2.2.2.2.2.2.2.2.2.2.2.2.2.2.2.2.2.2.2.2.2.1 (fun _ _ g => x_CI.mono g (fun _ _ g => ⟨g.1, h _ g.2⟩)))
  by_cases c34 : x = 34
  · refine L_switchIn (off := 1069) (tgt := 1102) d_law_33 (by rw [c34]; decide) (by rw [c34]; decide) (by rw [c34]; rfl) (by decide) ?_
    exact L_case_34 h1 h2 (x_CI.mono hs.2.2.2.2.2.2.2.2.2.2.2.2.2.2.2.2.2.2.2.2.2.2.2.2.2.2.2.2.2.2.2.2.2.2.1 (fun _ _ g => x_CI.mono g (fun _ _ g => ⟨g.1, h _ g.2⟩)))
  by_cases c35 : x = 35
  · refine L_switchIn (off := 1102) (tgt := 1135) d_law_33 (by rw [c35]; decide) (by rw [c35]; decide) (by rw [c35]; rfl) (by decide) ?_
    exact L_case_35  (x_CI.mono hs.2.2.2.2.2.2.2.2.2.2.2.2.2.2.2.2.2.2.2.2.2.2.2.2.2.2.2.2.2.2.2.2.2.2.2.1 (fun _ _ g => x_CI.mono g (fun _ _ g => ⟨g.1, h _ g.2⟩)))
  by_cases c36 : x = 36
  · refine L_switchIn (off := 1115) (tgt := 1148) d_law_33 (by rw [c36]; decide) (by rw [c36]; decide) (by rw [c36]; rfl) (by decide) ?_
    exact L_case_36  (x_CI.mono hs.2.2.2.2.2.2.2.2.2.2.2.2.2.2.2.2.2.2.2.2.2.2.2.2.2.2.2.2.2.2.2.2.2.2.2.2.1 (fun _ _ g => x_CI.mono g (fun _ _ g => ⟨g.1, h _ g.2⟩)))
  by_cases c37 : x = 37
  · refine L_switchIn (off := 1128) (tgt := 1161) d_law_33 (by rw [c37]; decide) (by rw [c37]; decide) (by rw [c37]; rfl) (by decide) ?_
    exact L_case_37 h1 (x_CI.mono hs.2.2.2.2.2.2.2.2.2.2.2.2.2.2.2.2.2.2.2.2.2.2.2.2.2.2.2.2.2.2.2.2.2.2.2.2.2 (fun _ _ g => x_CI.mono g (fun _ _ g => ⟨g.1, h _ g.2⟩)))
  refine L_switchOut (tgt := 1184) d_law_33 (by have := x_ne (z := 0) (by decide) c0; have := x_ne (z := 1) (by decide) c1; have := x_ne (z := 2) (by decide) c2; have := x_ne (z := 3) (by decide) c3; have := x_ne (z := 4) (by decide) c4; have := x_ne (z := 5) (by decide) c5; have := x_ne (z := 6) (by decide) c6; have := x_ne (z := 7) (by decide) c7; have := x_ne (z := 8) (by decide) c8; have := x_ne (z := 9) (by decide) c9; have := x_ne (z := 10) (by decide) c10; have := x_ne (z := 11) (by decide) c11; have := x_ne (z := 12) (by decide) c12; have := x_ne (z := 13) (by decide) c13; have := x_ne (z := 14) (by decide) c14; have := x_ne (z := 15) (by decide) c15; have := x_ne (z := 16) (by decide) c16; have := x_ne (z := 17) (by decide) c17; have := x_ne (z := 18) (by decide) c18; have := x_ne (z := 19) (by decide) c19; have := x_ne (z := 20) (by decide) c20; have := x_ne (z := 21) (by decide) c21; have := x_ne (z := 22) (by decide) c22; have := x_ne (z := 23) (by decide) c23; have := x_ne (z := 24) (by decide) c24; have := x_ne (z := 25) (by decide) c25; have := x_ne (z := 26) (by decide) c26; have := x_ne (z := 27) (by decide) c27; have := x_ne (z := 28) (by decide) c28; have := x_ne (z := 29) (by decide) c29; have := x_ne (z := 30) (by decide) c30; have := x_ne (z := 31) (by decide) c31; have := x_ne (z := 32) (by decide) c32; have := x_ne (z := 33) (by decide) c33; have := x_ne (z := 34) (by decide) c34; have := x_ne (z := 35) (by decide) c35; have := x_ne (z := 36) (by decide) c36; have := x_ne (z := 37) (by decide) c37; omega) (by decide) (h τ hJ)
theorem x_i6 {k Ln : Nat} (hL : Ln ≤ 3072) (h : k + 6 ≤ Ln) (j : Nat) (hj : j < 6) : vp_in (nI k + nI j) Ln := by
  have : nI k + nI j = nI (k + j) := by
    show Int32.ofNat k + Int32.ofNat j = Int32.ofNat (k + j)
    exact (Int32.ofNat_add k j).symm
  rw [this]
  exact vp_in_nI (by omega) (by omega)
set_option maxRecDepth 20000 in
/-- THE LOOP -/
theorem L_loop {Ln : Nat} {xs : Nat → Int32} {J : x_T → Prop} (hL : Ln ≤ 3072) (hs : ∀ τ, J τ → x_Steps J τ) : ∀ (n k : Nat) (τ : x_T), J τ → Ln < k + n → k ≤ 3078 → x_Lj Ln xs 376 18 [(1, .ref 0), (2, .ref 345), (3, .int (nI k))] [] (x_fu τ) := by
  intro n
  induction n with
  | zero =>
    intro k τ hJ hn hk
    refine L_head (i := nI k) 2 (by decide +kernel) (by decide +kernel) (by decide +kernel) rfl ?_
    refine L_bipush (n := 6) (v := 6) (by decide +kernel) (by decide) ?_
    refine L_isub (by decide +kernel) ?_
    refine L_gt (off := 1166) 1190 (by decide +kernel) (by decide) (fun _ => ?_) (fun q => ?_)
    · exact L_end (by omega) x_sl376 (by decide +kernel) (by decide +kernel)
    · exfalso
      apply q
      rw [Int32.lt_iff_toInt_lt, nI_toInt (by omega)]
      have h1 : (Int32.ofNat Ln - 6).toInt = (Ln : Int) - 6 := by
        rw [Int32.toInt_sub, show (Int32.ofNat Ln).toInt = (Ln : Int) from nI_toInt (by omega)]
        show ((Ln : Int) - 6).bmod (2 ^ 32) = _
        exact Int.bmod_eq_of_le (by omega) (by omega)
      rw [h1]
      omega
  | succ n ih =>
    intro k τ hJ hn hk
    refine L_head (i := nI k) 2 (by decide +kernel) (by decide +kernel) (by decide +kernel) rfl ?_
    refine L_bipush (n := 6) (v := 6) (by decide +kernel) (by decide) ?_
    refine L_isub (by decide +kernel) ?_
    have h1 : (Int32.ofNat Ln - 6).toInt = (Ln : Int) - 6 := by
      rw [Int32.toInt_sub, show (Int32.ofNat Ln).toInt = (Ln : Int) from nI_toInt (by omega)]
      show ((Ln : Int) - 6).bmod (2 ^ 32) = _
      exact Int.bmod_eq_of_le (by omega) (by omega)
    refine L_gt (off := 1166) 1190 (by decide +kernel) (by decide) (fun _ => ?_) (fun q => ?_)
    · exact L_end (by omega) x_sl376 (by decide +kernel) (by decide +kernel)
    · have hk6 : k + 6 ≤ Ln := by
        rw [Int32.lt_iff_toInt_lt, nI_toInt (by omega), h1] at q
        omega
      refine L_body (by have := x_i6 hL hk6 0 (by omega); rw [show nI k + nI 0 = nI k by rw [nI_0]; exact Int32.add_zero _] at this; exact this) (x_i6 hL hk6 1 (by omega)) (x_i6 hL hk6 2 (by omega)) (x_i6 hL hk6 3 (by omega)) (x_i6 hL hk6 4 (by omega)) (x_i6 hL hk6 5 (by omega)) (hs τ hJ) hJ (fun τ2 hJ2 => ?_)
      refine L_iinc (i := 3) (n := 6) (v := nI (k + 6)) (L' := [(3, .int (nI (k + 6))), (1, .ref 0), (2, .ref 345)]) 2 (by decide) (by decide +kernel) rfl (by show Int32.ofNat k + Int32.ofInt 6 = Int32.ofNat (k + 6); rw [Int32.ofNat_add]; rfl) (by decide) rfl ?_
      refine L_goto (off := -1169) 18 (by decide +kernel) (by decide) ?_
      exact L_sub [1, 2, 0] rfl (ih (k + 6) τ2 hJ2 (by omega) (by omega))
