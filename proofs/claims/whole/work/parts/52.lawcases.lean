theorem ll_545 : Cond.methodLink "NoonOnABarrowLaw" 13 yX11_house ∈ x_tb := x_tb_in (List.mem_of_getElem? (i := 545) (by decide +kernel)) (by decide +kernel)
theorem ll_564 : Cond.methodLink "NoonOnABarrowLaw" 18 yX11_lane ∈ x_tb := x_tb_in (List.mem_of_getElem? (i := 564) (by decide +kernel)) (by decide +kernel)
theorem ll_577 : Cond.methodLink "NoonOnABarrowLaw" 23 yX11_pusher ∈ x_tb := x_tb_in (List.mem_of_getElem? (i := 577) (by decide +kernel)) (by decide +kernel)
theorem ll_585 : Cond.methodLink "NoonOnABarrowLaw" 27 yX11_push ∈ x_tb := x_tb_in (List.mem_of_getElem? (i := 585) (by decide +kernel)) (by decide +kernel)
theorem ll_694 : Cond.methodLink "NoonOnABarrowLaw" 32 yX11_tip ∈ x_tb := x_tb_in (List.mem_of_getElem? (i := 694) (by decide +kernel)) (by decide +kernel)
theorem ll_707 : Cond.methodLink "NoonOnABarrowLaw" 37 yX11_mend ∈ x_tb := x_tb_in (List.mem_of_getElem? (i := 707) (by decide +kernel)) (by decide +kernel)
theorem ll_711 : Cond.methodLink "NoonOnABarrowLaw" 41 yX11_minute ∈ x_tb := x_tb_in (List.mem_of_getElem? (i := 711) (by decide +kernel)) (by decide +kernel)
theorem ll_760 : Cond.methodLink "NoonOnABarrowLaw" 45 yX11_years ∈ x_tb := x_tb_in (List.mem_of_getElem? (i := 760) (by decide +kernel)) (by decide +kernel)
theorem ll_780 : Cond.methodLink "NoonOnABarrowLaw" 49 yX11_feed ∈ x_tb := x_tb_in (List.mem_of_getElem? (i := 780) (by decide +kernel)) (by decide +kernel)
theorem ll_788 : Cond.methodLink "NoonOnABarrowLaw" 54 yX11_end ∈ x_tb := x_tb_in (List.mem_of_getElem? (i := 788) (by decide +kernel)) (by decide +kernel)
theorem ll_792 : Cond.methodLink "NoonOnABarrowLaw" 58 yX11_text ∈ x_tb := x_tb_in (List.mem_of_getElem? (i := 792) (by decide +kernel)) (by decide +kernel)
theorem ll_1043 : Cond.methodLink "NoonOnABarrowLaw" 63 yX11_fault ∈ x_tb := x_tb_in (List.mem_of_getElem? (i := 1043) (by decide +kernel)) (by decide +kernel)
theorem ll_1047 : Cond.methodLink "NoonOnABarrowLaw" 67 yX11_by ∈ x_tb := x_tb_in (List.mem_of_getElem? (i := 1047) (by decide +kernel)) (by decide +kernel)
theorem ll_1059 : Cond.methodLink "NoonOnABarrowLaw" 72 yX11_played ∈ x_tb := x_tb_in (List.mem_of_getElem? (i := 1059) (by decide +kernel)) (by decide +kernel)
theorem ll_1074 : Cond.methodLink "NoonOnABarrowLaw" 76 yX11_undo ∈ x_tb := x_tb_in (List.mem_of_getElem? (i := 1074) (by decide +kernel)) (by decide +kernel)
theorem ll_1082 : Cond.methodLink "NoonOnABarrowLaw" 80 yX11_of ∈ x_tb := x_tb_in (List.mem_of_getElem? (i := 1082) (by decide +kernel)) (by decide +kernel)
theorem ll_1091 : Cond.methodLink "NoonOnABarrowLaw" 84 yX11_two ∈ x_tb := x_tb_in (List.mem_of_getElem? (i := 1091) (by decide +kernel)) (by decide +kernel)
theorem ll_1101 : Cond.methodLink "NoonOnABarrowLaw" 89 yX11_barrow ∈ x_tb := x_tb_in (List.mem_of_getElem? (i := 1101) (by decide +kernel)) (by decide +kernel)
theorem ll_1106 : Cond.methodLink "NoonOnABarrowLaw" 93 yX11_hard ∈ x_tb := x_tb_in (List.mem_of_getElem? (i := 1106) (by decide +kernel)) (by decide +kernel)
theorem ll_1112 : Cond.methodLink "NoonOnABarrowLaw" 97 yX11_book ∈ x_tb := x_tb_in (List.mem_of_getElem? (i := 1112) (by decide +kernel)) (by decide +kernel)
theorem ll_1120 : Cond.methodLink "NoonOnABarrowLaw" 101 yX11_foretold ∈ x_tb := x_tb_in (List.mem_of_getElem? (i := 1120) (by decide +kernel)) (by decide +kernel)
theorem ll_1125 : Cond.methodLink "NoonOnABarrowLaw" 105 yX11_arrives ∈ x_tb := x_tb_in (List.mem_of_getElem? (i := 1125) (by decide +kernel)) (by decide +kernel)
theorem ll_1130 : Cond.methodLink "NoonOnABarrowLaw" 109 yX11_want ∈ x_tb := x_tb_in (List.mem_of_getElem? (i := 1130) (by decide +kernel)) (by decide +kernel)
theorem ll_1138 : Cond.methodLink "NoonOnABarrowLaw" 113 yX11_fitting ∈ x_tb := x_tb_in (List.mem_of_getElem? (i := 1138) (by decide +kernel)) (by decide +kernel)
theorem ll_1151 : Cond.methodLink "NoonOnABarrowLaw" 117 yX11_route ∈ x_tb := x_tb_in (List.mem_of_getElem? (i := 1151) (by decide +kernel)) (by decide +kernel)
theorem ll_1182 : Cond.methodLink "NoonOnABarrowLaw" 121 yX11_least ∈ x_tb := x_tb_in (List.mem_of_getElem? (i := 1182) (by decide +kernel)) (by decide +kernel)
theorem ll_1209 : Cond.methodLink "NoonOnABarrowLaw" 125 yX11_winner ∈ x_tb := x_tb_in (List.mem_of_getElem? (i := 1209) (by decide +kernel)) (by decide +kernel)
theorem ll_1226 : Cond.methodLink "NoonOnABarrowLaw" 129 yX11_agenda ∈ x_tb := x_tb_in (List.mem_of_getElem? (i := 1226) (by decide +kernel)) (by decide +kernel)
theorem ll_1240 : Cond.methodLink "NoonOnABarrowLaw" 133 yX11_weight ∈ x_tb := x_tb_in (List.mem_of_getElem? (i := 1240) (by decide +kernel)) (by decide +kernel)
theorem ll_1244 : Cond.methodLink "NoonOnABarrowLaw" 138 yX11_fair ∈ x_tb := x_tb_in (List.mem_of_getElem? (i := 1244) (by decide +kernel)) (by decide +kernel)
theorem ll_1260 : Cond.methodLink "NoonOnABarrowLaw" 142 yX11_feel ∈ x_tb := x_tb_in (List.mem_of_getElem? (i := 1260) (by decide +kernel)) (by decide +kernel)
theorem ll_1264 : Cond.methodLink "NoonOnABarrowLaw" 146 yX11_lost ∈ x_tb := x_tb_in (List.mem_of_getElem? (i := 1264) (by decide +kernel)) (by decide +kernel)
theorem ll_1277 : Cond.methodLink "NoonOnABarrowLaw" 150 yX11_yard ∈ x_tb := x_tb_in (List.mem_of_getElem? (i := 1277) (by decide +kernel)) (by decide +kernel)
theorem ll_1294 : Cond.methodLink "NoonOnABarrowLaw" 154 yX11_thieves ∈ x_tb := x_tb_in (List.mem_of_getElem? (i := 1294) (by decide +kernel)) (by decide +kernel)
theorem ll_1303 : Cond.methodLink "NoonOnABarrowLaw" 158 yX11_watch ∈ x_tb := x_tb_in (List.mem_of_getElem? (i := 1303) (by decide +kernel)) (by decide +kernel)
theorem ll_1325 : Cond.methodLink "NoonOnABarrowLaw" 162 yX11_image ∈ x_tb := x_tb_in (List.mem_of_getElem? (i := 1325) (by decide +kernel)) (by decide +kernel)
theorem ll_1343 : Cond.methodLink "NoonOnABarrowLaw" 166 yX11_back ∈ x_tb := x_tb_in (List.mem_of_getElem? (i := 1343) (by decide +kernel)) (by decide +kernel)
theorem ll_1347 : Cond.methodLink "NoonOnABarrowLaw" 170 yX11_about ∈ x_tb := x_tb_in (List.mem_of_getElem? (i := 1347) (by decide +kernel)) (by decide +kernel)
theorem ll_1504 : Cond.methodLink "NoonOnABarrowLaw" 17 yX12_house ∈ x_tb := x_tb_in (List.mem_of_getElem? (i := 1504) (by decide +kernel)) (by decide +kernel)
theorem ll_1511 : Cond.methodLink "NoonOnABarrowLaw" 22 yX12_lane ∈ x_tb := x_tb_in (List.mem_of_getElem? (i := 1511) (by decide +kernel)) (by decide +kernel)
theorem ll_1519 : Cond.methodLink "NoonOnABarrowLaw" 26 yX12_pusher ∈ x_tb := x_tb_in (List.mem_of_getElem? (i := 1519) (by decide +kernel)) (by decide +kernel)
theorem ll_1523 : Cond.methodLink "NoonOnABarrowLaw" 79 yX12_undo ∈ x_tb := x_tb_in (List.mem_of_getElem? (i := 1523) (by decide +kernel)) (by decide +kernel)
theorem ll_1527 : Cond.methodLink "NoonOnABarrowLaw" 53 yX12_feed ∈ x_tb := x_tb_in (List.mem_of_getElem? (i := 1527) (by decide +kernel)) (by decide +kernel)
theorem ll_1535 : Cond.methodLink "NoonOnABarrowLaw" 57 yX12_end ∈ x_tb := x_tb_in (List.mem_of_getElem? (i := 1535) (by decide +kernel)) (by decide +kernel)
theorem ll_1539 : Cond.methodLink "NoonOnABarrowLaw" 62 yX12_text ∈ x_tb := x_tb_in (List.mem_of_getElem? (i := 1539) (by decide +kernel)) (by decide +kernel)
theorem ll_1692 : Cond.methodLink "NoonOnABarrowLaw" 66 yX12_fault ∈ x_tb := x_tb_in (List.mem_of_getElem? (i := 1692) (by decide +kernel)) (by decide +kernel)
theorem ll_1696 : Cond.methodLink "NoonOnABarrowLaw" 71 yX12_by ∈ x_tb := x_tb_in (List.mem_of_getElem? (i := 1696) (by decide +kernel)) (by decide +kernel)
theorem ll_1700 : Cond.methodLink "NoonOnABarrowLaw" 31 yX12_push ∈ x_tb := x_tb_in (List.mem_of_getElem? (i := 1700) (by decide +kernel)) (by decide +kernel)
theorem ll_1761 : Cond.methodLink "NoonOnABarrowLaw" 36 yX12_tip ∈ x_tb := x_tb_in (List.mem_of_getElem? (i := 1761) (by decide +kernel)) (by decide +kernel)
theorem ll_1773 : Cond.methodLink "NoonOnABarrowLaw" 40 yX12_mend ∈ x_tb := x_tb_in (List.mem_of_getElem? (i := 1773) (by decide +kernel)) (by decide +kernel)
theorem ll_1777 : Cond.methodLink "NoonOnABarrowLaw" 44 yX12_minute ∈ x_tb := x_tb_in (List.mem_of_getElem? (i := 1777) (by decide +kernel)) (by decide +kernel)
theorem ll_1811 : Cond.methodLink "NoonOnABarrowLaw" 48 yX12_years ∈ x_tb := x_tb_in (List.mem_of_getElem? (i := 1811) (by decide +kernel)) (by decide +kernel)
theorem ll_1827 : Cond.methodLink "NoonOnABarrowLaw" 75 yX12_played ∈ x_tb := x_tb_in (List.mem_of_getElem? (i := 1827) (by decide +kernel)) (by decide +kernel)
theorem ll_1842 : Cond.methodLink "NoonOnABarrowLaw" 83 yX12_of ∈ x_tb := x_tb_in (List.mem_of_getElem? (i := 1842) (by decide +kernel)) (by decide +kernel)
theorem ll_1846 : Cond.methodLink "NoonOnABarrowLaw" 88 yX12_two ∈ x_tb := x_tb_in (List.mem_of_getElem? (i := 1846) (by decide +kernel)) (by decide +kernel)
theorem ll_1854 : Cond.methodLink "NoonOnABarrowLaw" 92 yX12_barrow ∈ x_tb := x_tb_in (List.mem_of_getElem? (i := 1854) (by decide +kernel)) (by decide +kernel)
theorem ll_1858 : Cond.methodLink "NoonOnABarrowLaw" 96 yX12_hard ∈ x_tb := x_tb_in (List.mem_of_getElem? (i := 1858) (by decide +kernel)) (by decide +kernel)
theorem ll_1862 : Cond.methodLink "NoonOnABarrowLaw" 100 yX12_book ∈ x_tb := x_tb_in (List.mem_of_getElem? (i := 1862) (by decide +kernel)) (by decide +kernel)
theorem ll_1866 : Cond.methodLink "NoonOnABarrowLaw" 104 yX12_foretold ∈ x_tb := x_tb_in (List.mem_of_getElem? (i := 1866) (by decide +kernel)) (by decide +kernel)
theorem ll_1870 : Cond.methodLink "NoonOnABarrowLaw" 108 yX12_arrives ∈ x_tb := x_tb_in (List.mem_of_getElem? (i := 1870) (by decide +kernel)) (by decide +kernel)
theorem ll_1874 : Cond.methodLink "NoonOnABarrowLaw" 112 yX12_want ∈ x_tb := x_tb_in (List.mem_of_getElem? (i := 1874) (by decide +kernel)) (by decide +kernel)
theorem ll_1878 : Cond.methodLink "NoonOnABarrowLaw" 116 yX12_fitting ∈ x_tb := x_tb_in (List.mem_of_getElem? (i := 1878) (by decide +kernel)) (by decide +kernel)
theorem ll_1886 : Cond.methodLink "NoonOnABarrowLaw" 120 yX12_route ∈ x_tb := x_tb_in (List.mem_of_getElem? (i := 1886) (by decide +kernel)) (by decide +kernel)
theorem ll_1898 : Cond.methodLink "NoonOnABarrowLaw" 124 yX12_least ∈ x_tb := x_tb_in (List.mem_of_getElem? (i := 1898) (by decide +kernel)) (by decide +kernel)
theorem ll_1907 : Cond.methodLink "NoonOnABarrowLaw" 128 yX12_winner ∈ x_tb := x_tb_in (List.mem_of_getElem? (i := 1907) (by decide +kernel)) (by decide +kernel)
theorem ll_1915 : Cond.methodLink "NoonOnABarrowLaw" 132 yX12_agenda ∈ x_tb := x_tb_in (List.mem_of_getElem? (i := 1915) (by decide +kernel)) (by decide +kernel)
theorem ll_1922 : Cond.methodLink "NoonOnABarrowLaw" 137 yX12_weight ∈ x_tb := x_tb_in (List.mem_of_getElem? (i := 1922) (by decide +kernel)) (by decide +kernel)
theorem ll_1926 : Cond.methodLink "NoonOnABarrowLaw" 141 yX12_fair ∈ x_tb := x_tb_in (List.mem_of_getElem? (i := 1926) (by decide +kernel)) (by decide +kernel)
theorem ll_1934 : Cond.methodLink "NoonOnABarrowLaw" 145 yX12_feel ∈ x_tb := x_tb_in (List.mem_of_getElem? (i := 1934) (by decide +kernel)) (by decide +kernel)
theorem ll_1938 : Cond.methodLink "NoonOnABarrowLaw" 149 yX12_lost ∈ x_tb := x_tb_in (List.mem_of_getElem? (i := 1938) (by decide +kernel)) (by decide +kernel)
theorem ll_1942 : Cond.methodLink "NoonOnABarrowLaw" 153 yX12_yard ∈ x_tb := x_tb_in (List.mem_of_getElem? (i := 1942) (by decide +kernel)) (by decide +kernel)
theorem ll_1951 : Cond.methodLink "NoonOnABarrowLaw" 157 yX12_thieves ∈ x_tb := x_tb_in (List.mem_of_getElem? (i := 1951) (by decide +kernel)) (by decide +kernel)
theorem ll_1955 : Cond.methodLink "NoonOnABarrowLaw" 161 yX12_watch ∈ x_tb := x_tb_in (List.mem_of_getElem? (i := 1955) (by decide +kernel)) (by decide +kernel)
theorem ll_1966 : Cond.methodLink "NoonOnABarrowLaw" 165 yX12_image ∈ x_tb := x_tb_in (List.mem_of_getElem? (i := 1966) (by decide +kernel)) (by decide +kernel)
theorem ll_1970 : Cond.methodLink "NoonOnABarrowLaw" 169 yX12_back ∈ x_tb := x_tb_in (List.mem_of_getElem? (i := 1970) (by decide +kernel)) (by decide +kernel)
theorem ll_1974 : Cond.methodLink "NoonOnABarrowLaw" 173 yX12_about ∈ x_tb := x_tb_in (List.mem_of_getElem? (i := 1974) (by decide +kernel)) (by decide +kernel)
set_option maxRecDepth 20000 in
theorem L_case_0 {Ln : Nat} {xs : Nat → Int32} {i : Int32} {τ : x_T} (h1 : vp_in (i + 1) Ln) (h : x_CI 2000 mX11_house [.ref 0, .int (xs (i + 1).toNatClampNeg)] τ (fun τ1 u => x_CI 2000 mX12_house [.ref 345, .int (xs (i + 1).toNatClampNeg)] τ1 (fun τ2 v => u = v ∧ x_Lj Ln xs 376 1184 [(1, .ref 0), (2, .ref 345), (3, .int i)] [] (x_fu τ2)))) : x_Lj Ln xs 376 200 [(1, .ref 0), (2, .ref 345), (3, .int i)] [] (x_fu τ) := by
  refine L_aload (k := 1) 0 (by decide +kernel) rfl ?_
  refine L_arg (i := i) (n := 1) (v := 1) 2 (by decide +kernel) (by decide +kernel) (by decide +kernel) (by decide +kernel) (by decide +kernel) rfl (by decide) h1 ?_
  refine L_callF (μ' := mX11_house) (i := 13) (vs := [.int (xs (i + 1).toNatClampNeg)]) (by decide +kernel) ll_545 vok_mX11_house sh_0 rfl rfl rfl rfl (Nat.le_of_ble_eq_true rfl) ?_
  refine x_CI.mono h (fun τ1 u h => ?_)
  refine L_aload (k := 2) 1 (by decide +kernel) rfl ?_
  refine L_arg (i := i) (n := 1) (v := 1) 2 (by decide +kernel) (by decide +kernel) (by decide +kernel) (by decide +kernel) (by decide +kernel) rfl (by decide) h1 ?_
  refine L_callF (μ' := mX12_house) (i := 17) (vs := [.int (xs (i + 1).toNatClampNeg)]) (by decide +kernel) ll_1504 vok_mX12_house sh_345 rfl rfl rfl rfl (Nat.le_of_ble_eq_true rfl) ?_
  refine x_CI.mono h (fun τ2 v h => ?_)
  exact L_eq (off := 966) 1184 (by decide +kernel) (by decide) h.1 h.2
set_option maxRecDepth 20000 in
theorem L_case_1 {Ln : Nat} {xs : Nat → Int32} {i : Int32} {τ : x_T} (h1 : vp_in (i + 1) Ln) (h2 : vp_in (i + 2) Ln) (h3 : vp_in (i + 3) Ln) (h : x_CI 2000 mX11_lane [.ref 0, .int (xs (i + 1).toNatClampNeg), .int (xs (i + 2).toNatClampNeg), .int (xs (i + 3).toNatClampNeg)] τ (fun τ1 u => x_CI 2000 mX12_lane [.ref 345, .int (xs (i + 1).toNatClampNeg), .int (xs (i + 2).toNatClampNeg), .int (xs (i + 3).toNatClampNeg)] τ1 (fun τ2 v => u = v ∧ x_Lj Ln xs 376 1184 [(1, .ref 0), (2, .ref 345), (3, .int i)] [] (x_fu τ2)))) : x_Lj Ln xs 376 223 [(1, .ref 0), (2, .ref 345), (3, .int i)] [] (x_fu τ) := by
  refine L_aload (k := 1) 0 (by decide +kernel) rfl ?_
  refine L_arg (i := i) (n := 1) (v := 1) 2 (by decide +kernel) (by decide +kernel) (by decide +kernel) (by decide +kernel) (by decide +kernel) rfl (by decide) h1 ?_
  refine L_arg (i := i) (n := 2) (v := 2) 2 (by decide +kernel) (by decide +kernel) (by decide +kernel) (by decide +kernel) (by decide +kernel) rfl (by decide) h2 ?_
  refine L_arg (i := i) (n := 3) (v := 3) 2 (by decide +kernel) (by decide +kernel) (by decide +kernel) (by decide +kernel) (by decide +kernel) rfl (by decide) h3 ?_
  refine L_callF (μ' := mX11_lane) (i := 18) (vs := [.int (xs (i + 1).toNatClampNeg), .int (xs (i + 2).toNatClampNeg), .int (xs (i + 3).toNatClampNeg)]) (by decide +kernel) ll_564 vok_mX11_lane sh_0 rfl rfl rfl rfl (Nat.le_of_ble_eq_true rfl) ?_
  refine x_CI.mono h (fun τ1 u h => ?_)
  refine L_aload (k := 2) 1 (by decide +kernel) rfl ?_
  refine L_arg (i := i) (n := 1) (v := 1) 2 (by decide +kernel) (by decide +kernel) (by decide +kernel) (by decide +kernel) (by decide +kernel) rfl (by decide) h1 ?_
  refine L_arg (i := i) (n := 2) (v := 2) 2 (by decide +kernel) (by decide +kernel) (by decide +kernel) (by decide +kernel) (by decide +kernel) rfl (by decide) h2 ?_
  refine L_arg (i := i) (n := 3) (v := 3) 2 (by decide +kernel) (by decide +kernel) (by decide +kernel) (by decide +kernel) (by decide +kernel) rfl (by decide) h3 ?_
  refine L_callF (μ' := mX12_lane) (i := 22) (vs := [.int (xs (i + 1).toNatClampNeg), .int (xs (i + 2).toNatClampNeg), .int (xs (i + 3).toNatClampNeg)]) (by decide +kernel) ll_1511 vok_mX12_lane sh_345 rfl rfl rfl rfl (Nat.le_of_ble_eq_true rfl) ?_
  refine x_CI.mono h (fun τ2 v h => ?_)
  exact L_eq (off := 923) 1184 (by decide +kernel) (by decide) h.1 h.2
set_option maxRecDepth 20000 in
theorem L_case_2 {Ln : Nat} {xs : Nat → Int32} {i : Int32} {τ : x_T} (h1 : vp_in (i + 1) Ln) (h : x_CI 2000 mX11_pusher [.ref 0, .int (xs (i + 1).toNatClampNeg)] τ (fun τ1 u => x_CI 2000 mX12_pusher [.ref 345, .int (xs (i + 1).toNatClampNeg)] τ1 (fun τ2 v => u = v ∧ x_Lj Ln xs 376 1184 [(1, .ref 0), (2, .ref 345), (3, .int i)] [] (x_fu τ2)))) : x_Lj Ln xs 376 266 [(1, .ref 0), (2, .ref 345), (3, .int i)] [] (x_fu τ) := by
  refine L_aload (k := 1) 0 (by decide +kernel) rfl ?_
  refine L_arg (i := i) (n := 1) (v := 1) 2 (by decide +kernel) (by decide +kernel) (by decide +kernel) (by decide +kernel) (by decide +kernel) rfl (by decide) h1 ?_
  refine L_callF (μ' := mX11_pusher) (i := 23) (vs := [.int (xs (i + 1).toNatClampNeg)]) (by decide +kernel) ll_577 vok_mX11_pusher sh_0 rfl rfl rfl rfl (Nat.le_of_ble_eq_true rfl) ?_
  refine x_CI.mono h (fun τ1 u h => ?_)
  refine L_aload (k := 2) 1 (by decide +kernel) rfl ?_
  refine L_arg (i := i) (n := 1) (v := 1) 2 (by decide +kernel) (by decide +kernel) (by decide +kernel) (by decide +kernel) (by decide +kernel) rfl (by decide) h1 ?_
  refine L_callF (μ' := mX12_pusher) (i := 26) (vs := [.int (xs (i + 1).toNatClampNeg)]) (by decide +kernel) ll_1519 vok_mX12_pusher sh_345 rfl rfl rfl rfl (Nat.le_of_ble_eq_true rfl) ?_
  refine x_CI.mono h (fun τ2 v h => ?_)
  exact L_eq (off := 900) 1184 (by decide +kernel) (by decide) h.1 h.2
set_option maxRecDepth 20000 in
theorem L_case_3 {Ln : Nat} {xs : Nat → Int32} {i : Int32} {τ : x_T} (h1 : vp_in (i + 1) Ln) (h2 : vp_in (i + 2) Ln) (h : x_CI 2000 mX11_push [.ref 0, .int (xs (i + 1).toNatClampNeg), .int (xs (i + 2).toNatClampNeg)] τ (fun τ1 u => x_CI 2000 mX12_push [.ref 345, .int (xs (i + 1).toNatClampNeg), .int (xs (i + 2).toNatClampNeg)] τ1 (fun τ2 v => u = v ∧ x_Lj Ln xs 376 1184 [(1, .ref 0), (2, .ref 345), (3, .int i)] [] (x_fu τ2)))) : x_Lj Ln xs 376 289 [(1, .ref 0), (2, .ref 345), (3, .int i)] [] (x_fu τ) := by
  refine L_aload (k := 1) 0 (by decide +kernel) rfl ?_
  refine L_arg (i := i) (n := 1) (v := 1) 2 (by decide +kernel) (by decide +kernel) (by decide +kernel) (by decide +kernel) (by decide +kernel) rfl (by decide) h1 ?_
  refine L_arg (i := i) (n := 2) (v := 2) 2 (by decide +kernel) (by decide +kernel) (by decide +kernel) (by decide +kernel) (by decide +kernel) rfl (by decide) h2 ?_
  refine L_callF (μ' := mX11_push) (i := 27) (vs := [.int (xs (i + 1).toNatClampNeg), .int (xs (i + 2).toNatClampNeg)]) (by decide +kernel) ll_585 vok_mX11_push sh_0 rfl rfl rfl rfl (Nat.le_of_ble_eq_true rfl) ?_
  refine x_CI.mono h (fun τ1 u h => ?_)
  refine L_aload (k := 2) 1 (by decide +kernel) rfl ?_
  refine L_arg (i := i) (n := 1) (v := 1) 2 (by decide +kernel) (by decide +kernel) (by decide +kernel) (by decide +kernel) (by decide +kernel) rfl (by decide) h1 ?_
  refine L_arg (i := i) (n := 2) (v := 2) 2 (by decide +kernel) (by decide +kernel) (by decide +kernel) (by decide +kernel) (by decide +kernel) rfl (by decide) h2 ?_
  refine L_callF (μ' := mX12_push) (i := 31) (vs := [.int (xs (i + 1).toNatClampNeg), .int (xs (i + 2).toNatClampNeg)]) (by decide +kernel) ll_1700 vok_mX12_push sh_345 rfl rfl rfl rfl (Nat.le_of_ble_eq_true rfl) ?_
  refine x_CI.mono h (fun τ2 v h => ?_)
  exact L_eq (off := 867) 1184 (by decide +kernel) (by decide) h.1 h.2
set_option maxRecDepth 20000 in
theorem L_case_4 {Ln : Nat} {xs : Nat → Int32} {i : Int32} {τ : x_T} (h : x_CI 2000 mX11_tip [.ref 0] τ (fun τ1 u => x_CI 2000 mX12_tip [.ref 345] τ1 (fun τ2 v => u = v ∧ x_Lj Ln xs 376 1184 [(1, .ref 0), (2, .ref 345), (3, .int i)] [] (x_fu τ2)))) : x_Lj Ln xs 376 322 [(1, .ref 0), (2, .ref 345), (3, .int i)] [] (x_fu τ) := by
  refine L_aload (k := 1) 0 (by decide +kernel) rfl ?_
  refine L_callF (μ' := mX11_tip) (i := 32) (vs := []) (by decide +kernel) ll_694 vok_mX11_tip sh_0 rfl rfl rfl rfl (Nat.le_of_ble_eq_true rfl) ?_
  refine x_CI.mono h (fun τ1 u h => ?_)
  refine L_aload (k := 2) 1 (by decide +kernel) rfl ?_
  refine L_callF (μ' := mX12_tip) (i := 36) (vs := []) (by decide +kernel) ll_1761 vok_mX12_tip sh_345 rfl rfl rfl rfl (Nat.le_of_ble_eq_true rfl) ?_
  refine x_CI.mono h (fun τ2 v h => ?_)
  exact L_eq (off := 854) 1184 (by decide +kernel) (by decide) h.1 h.2
set_option maxRecDepth 20000 in
theorem L_case_5 {Ln : Nat} {xs : Nat → Int32} {i : Int32} {τ : x_T} (h : x_CI 2000 mX11_mend [.ref 0] τ (fun τ1 u => x_CI 2000 mX12_mend [.ref 345] τ1 (fun τ2 v => u = v ∧ x_Lj Ln xs 376 1184 [(1, .ref 0), (2, .ref 345), (3, .int i)] [] (x_fu τ2)))) : x_Lj Ln xs 376 335 [(1, .ref 0), (2, .ref 345), (3, .int i)] [] (x_fu τ) := by
  refine L_aload (k := 1) 0 (by decide +kernel) rfl ?_
  refine L_callF (μ' := mX11_mend) (i := 37) (vs := []) (by decide +kernel) ll_707 vok_mX11_mend sh_0 rfl rfl rfl rfl (Nat.le_of_ble_eq_true rfl) ?_
  refine x_CI.mono h (fun τ1 u h => ?_)
  refine L_aload (k := 2) 1 (by decide +kernel) rfl ?_
  refine L_callF (μ' := mX12_mend) (i := 40) (vs := []) (by decide +kernel) ll_1773 vok_mX12_mend sh_345 rfl rfl rfl rfl (Nat.le_of_ble_eq_true rfl) ?_
  refine x_CI.mono h (fun τ2 v h => ?_)
  exact L_eq (off := 841) 1184 (by decide +kernel) (by decide) h.1 h.2
set_option maxRecDepth 20000 in
theorem L_case_6 {Ln : Nat} {xs : Nat → Int32} {i : Int32} {τ : x_T} (h1 : vp_in (i + 1) Ln) (h : x_CI 2000 mX11_minute [.ref 0, .int (xs (i + 1).toNatClampNeg)] τ (fun τ1 u => x_CI 2000 mX12_minute [.ref 345, .int (xs (i + 1).toNatClampNeg)] τ1 (fun τ2 v => u = v ∧ x_Lj Ln xs 376 1184 [(1, .ref 0), (2, .ref 345), (3, .int i)] [] (x_fu τ2)))) : x_Lj Ln xs 376 348 [(1, .ref 0), (2, .ref 345), (3, .int i)] [] (x_fu τ) := by
  refine L_aload (k := 1) 0 (by decide +kernel) rfl ?_
  refine L_arg (i := i) (n := 1) (v := 1) 2 (by decide +kernel) (by decide +kernel) (by decide +kernel) (by decide +kernel) (by decide +kernel) rfl (by decide) h1 ?_
  refine L_callF (μ' := mX11_minute) (i := 41) (vs := [.int (xs (i + 1).toNatClampNeg)]) (by decide +kernel) ll_711 vok_mX11_minute sh_0 rfl rfl rfl rfl (Nat.le_of_ble_eq_true rfl) ?_
  refine x_CI.mono h (fun τ1 u h => ?_)
  refine L_aload (k := 2) 1 (by decide +kernel) rfl ?_
  refine L_arg (i := i) (n := 1) (v := 1) 2 (by decide +kernel) (by decide +kernel) (by decide +kernel) (by decide +kernel) (by decide +kernel) rfl (by decide) h1 ?_
  refine L_callF (μ' := mX12_minute) (i := 44) (vs := [.int (xs (i + 1).toNatClampNeg)]) (by decide +kernel) ll_1777 vok_mX12_minute sh_345 rfl rfl rfl rfl (Nat.le_of_ble_eq_true rfl) ?_
  refine x_CI.mono h (fun τ2 v h => ?_)
  exact L_eq (off := 818) 1184 (by decide +kernel) (by decide) h.1 h.2
set_option maxRecDepth 20000 in
theorem L_case_7 {Ln : Nat} {xs : Nat → Int32} {i : Int32} {τ : x_T} (h1 : vp_in (i + 1) Ln) (h2 : vp_in (i + 2) Ln) (h : x_CI 2000 mX11_years [.ref 0, .int (xs (i + 1).toNatClampNeg), .int (xs (i + 2).toNatClampNeg)] τ (fun τ1 u => x_CI 2000 mX12_years [.ref 345, .int (xs (i + 1).toNatClampNeg), .int (xs (i + 2).toNatClampNeg)] τ1 (fun τ2 v => u = v ∧ x_Lj Ln xs 376 1184 [(1, .ref 0), (2, .ref 345), (3, .int i)] [] (x_fu τ2)))) : x_Lj Ln xs 376 371 [(1, .ref 0), (2, .ref 345), (3, .int i)] [] (x_fu τ) := by
  refine L_aload (k := 1) 0 (by decide +kernel) rfl ?_
  refine L_arg (i := i) (n := 1) (v := 1) 2 (by decide +kernel) (by decide +kernel) (by decide +kernel) (by decide +kernel) (by decide +kernel) rfl (by decide) h1 ?_
  refine L_arg (i := i) (n := 2) (v := 2) 2 (by decide +kernel) (by decide +kernel) (by decide +kernel) (by decide +kernel) (by decide +kernel) rfl (by decide) h2 ?_
  refine L_callF (μ' := mX11_years) (i := 45) (vs := [.int (xs (i + 1).toNatClampNeg), .int (xs (i + 2).toNatClampNeg)]) (by decide +kernel) ll_760 vok_mX11_years sh_0 rfl rfl rfl rfl (Nat.le_of_ble_eq_true rfl) ?_
  refine x_CI.mono h (fun τ1 u h => ?_)
  refine L_aload (k := 2) 1 (by decide +kernel) rfl ?_
  refine L_arg (i := i) (n := 1) (v := 1) 2 (by decide +kernel) (by decide +kernel) (by decide +kernel) (by decide +kernel) (by decide +kernel) rfl (by decide) h1 ?_
  refine L_arg (i := i) (n := 2) (v := 2) 2 (by decide +kernel) (by decide +kernel) (by decide +kernel) (by decide +kernel) (by decide +kernel) rfl (by decide) h2 ?_
  refine L_callF (μ' := mX12_years) (i := 48) (vs := [.int (xs (i + 1).toNatClampNeg), .int (xs (i + 2).toNatClampNeg)]) (by decide +kernel) ll_1811 vok_mX12_years sh_345 rfl rfl rfl rfl (Nat.le_of_ble_eq_true rfl) ?_
  refine x_CI.mono h (fun τ2 v h => ?_)
  exact L_eq (off := 785) 1184 (by decide +kernel) (by decide) h.1 h.2
set_option maxRecDepth 20000 in
theorem L_case_8 {Ln : Nat} {xs : Nat → Int32} {i : Int32} {τ : x_T} (h1 : vp_in (i + 1) Ln) (h2 : vp_in (i + 2) Ln) (h3 : vp_in (i + 3) Ln) (h4 : vp_in (i + 4) Ln) (h5 : vp_in (i + 5) Ln) (h : x_CI 2000 mX11_feed [.ref 0, .int (xs (i + 1).toNatClampNeg), .int (xs (i + 2).toNatClampNeg), .int (xs (i + 3).toNatClampNeg), .int (xs (i + 4).toNatClampNeg), .int (xs (i + 5).toNatClampNeg)] τ (fun τ1 u => x_CI 2000 mX12_feed [.ref 345, .int (xs (i + 1).toNatClampNeg), .int (xs (i + 2).toNatClampNeg), .int (xs (i + 3).toNatClampNeg), .int (xs (i + 4).toNatClampNeg), .int (xs (i + 5).toNatClampNeg)] τ1 (fun τ2 v => u = v ∧ x_Lj Ln xs 376 1184 [(1, .ref 0), (2, .ref 345), (3, .int i)] [] (x_fu τ2)))) : x_Lj Ln xs 376 404 [(1, .ref 0), (2, .ref 345), (3, .int i)] [] (x_fu τ) := by
  refine L_aload (k := 1) 0 (by decide +kernel) rfl ?_
  refine L_arg (i := i) (n := 1) (v := 1) 2 (by decide +kernel) (by decide +kernel) (by decide +kernel) (by decide +kernel) (by decide +kernel) rfl (by decide) h1 ?_
  refine L_arg (i := i) (n := 2) (v := 2) 2 (by decide +kernel) (by decide +kernel) (by decide +kernel) (by decide +kernel) (by decide +kernel) rfl (by decide) h2 ?_
  refine L_arg (i := i) (n := 3) (v := 3) 2 (by decide +kernel) (by decide +kernel) (by decide +kernel) (by decide +kernel) (by decide +kernel) rfl (by decide) h3 ?_
  refine L_arg (i := i) (n := 4) (v := 4) 2 (by decide +kernel) (by decide +kernel) (by decide +kernel) (by decide +kernel) (by decide +kernel) rfl (by decide) h4 ?_
  refine L_arg (i := i) (n := 5) (v := 5) 2 (by decide +kernel) (by decide +kernel) (by decide +kernel) (by decide +kernel) (by decide +kernel) rfl (by decide) h5 ?_
  refine L_callF (μ' := mX11_feed) (i := 49) (vs := [.int (xs (i + 1).toNatClampNeg), .int (xs (i + 2).toNatClampNeg), .int (xs (i + 3).toNatClampNeg), .int (xs (i + 4).toNatClampNeg), .int (xs (i + 5).toNatClampNeg)]) (by decide +kernel) ll_780 vok_mX11_feed sh_0 rfl rfl rfl rfl (Nat.le_of_ble_eq_true rfl) ?_
  refine x_CI.mono h (fun τ1 u h => ?_)
  refine L_aload (k := 2) 1 (by decide +kernel) rfl ?_
  refine L_arg (i := i) (n := 1) (v := 1) 2 (by decide +kernel) (by decide +kernel) (by decide +kernel) (by decide +kernel) (by decide +kernel) rfl (by decide) h1 ?_
  refine L_arg (i := i) (n := 2) (v := 2) 2 (by decide +kernel) (by decide +kernel) (by decide +kernel) (by decide +kernel) (by decide +kernel) rfl (by decide) h2 ?_
  refine L_arg (i := i) (n := 3) (v := 3) 2 (by decide +kernel) (by decide +kernel) (by decide +kernel) (by decide +kernel) (by decide +kernel) rfl (by decide) h3 ?_
  refine L_arg (i := i) (n := 4) (v := 4) 2 (by decide +kernel) (by decide +kernel) (by decide +kernel) (by decide +kernel) (by decide +kernel) rfl (by decide) h4 ?_
  refine L_arg (i := i) (n := 5) (v := 5) 2 (by decide +kernel) (by decide +kernel) (by decide +kernel) (by decide +kernel) (by decide +kernel) rfl (by decide) h5 ?_
  refine L_callF (μ' := mX12_feed) (i := 53) (vs := [.int (xs (i + 1).toNatClampNeg), .int (xs (i + 2).toNatClampNeg), .int (xs (i + 3).toNatClampNeg), .int (xs (i + 4).toNatClampNeg), .int (xs (i + 5).toNatClampNeg)]) (by decide +kernel) ll_1527 vok_mX12_feed sh_345 rfl rfl rfl rfl (Nat.le_of_ble_eq_true rfl) ?_
  refine x_CI.mono h (fun τ2 v h => ?_)
  exact L_eq (off := 722) 1184 (by decide +kernel) (by decide) h.1 h.2
set_option maxRecDepth 20000 in
theorem L_case_9 {Ln : Nat} {xs : Nat → Int32} {i : Int32} {τ : x_T} (h1 : vp_in (i + 1) Ln) (h : x_CI 2000 mX11_end [.ref 0, .int (xs (i + 1).toNatClampNeg)] τ (fun τ1 u => x_CI 2000 mX12_end [.ref 345, .int (xs (i + 1).toNatClampNeg)] τ1 (fun τ2 v => u = v ∧ x_Lj Ln xs 376 1184 [(1, .ref 0), (2, .ref 345), (3, .int i)] [] (x_fu τ2)))) : x_Lj Ln xs 376 467 [(1, .ref 0), (2, .ref 345), (3, .int i)] [] (x_fu τ) := by
  refine L_aload (k := 1) 0 (by decide +kernel) rfl ?_
  refine L_arg (i := i) (n := 1) (v := 1) 2 (by decide +kernel) (by decide +kernel) (by decide +kernel) (by decide +kernel) (by decide +kernel) rfl (by decide) h1 ?_
  refine L_callF (μ' := mX11_end) (i := 54) (vs := [.int (xs (i + 1).toNatClampNeg)]) (by decide +kernel) ll_788 vok_mX11_end sh_0 rfl rfl rfl rfl (Nat.le_of_ble_eq_true rfl) ?_
  refine x_CI.mono h (fun τ1 u h => ?_)
  refine L_aload (k := 2) 1 (by decide +kernel) rfl ?_
  refine L_arg (i := i) (n := 1) (v := 1) 2 (by decide +kernel) (by decide +kernel) (by decide +kernel) (by decide +kernel) (by decide +kernel) rfl (by decide) h1 ?_
  refine L_callF (μ' := mX12_end) (i := 57) (vs := [.int (xs (i + 1).toNatClampNeg)]) (by decide +kernel) ll_1535 vok_mX12_end sh_345 rfl rfl rfl rfl (Nat.le_of_ble_eq_true rfl) ?_
  refine x_CI.mono h (fun τ2 v h => ?_)
  exact L_eq (off := 699) 1184 (by decide +kernel) (by decide) h.1 h.2
set_option maxRecDepth 20000 in
theorem L_case_10 {Ln : Nat} {xs : Nat → Int32} {i : Int32} {τ : x_T} (h : x_CI 2000 mX11_text [.ref 0] τ (fun τ1 u => x_CI 2000 mX12_text [.ref 345] τ1 (fun τ2 v => u = v ∧ x_Lj Ln xs 376 1184 [(1, .ref 0), (2, .ref 345), (3, .int i)] [] (x_fu τ2)))) : x_Lj Ln xs 376 490 [(1, .ref 0), (2, .ref 345), (3, .int i)] [] (x_fu τ) := by
  refine L_aload (k := 1) 0 (by decide +kernel) rfl ?_
  refine L_callF (μ' := mX11_text) (i := 58) (vs := []) (by decide +kernel) ll_792 vok_mX11_text sh_0 rfl rfl rfl rfl (Nat.le_of_ble_eq_true rfl) ?_
  refine x_CI.mono h (fun τ1 u h => ?_)
  refine L_aload (k := 2) 1 (by decide +kernel) rfl ?_
  refine L_callF (μ' := mX12_text) (i := 62) (vs := []) (by decide +kernel) ll_1539 vok_mX12_text sh_345 rfl rfl rfl rfl (Nat.le_of_ble_eq_true rfl) ?_
  refine x_CI.mono h (fun τ2 v h => ?_)
  exact L_eq (off := 686) 1184 (by decide +kernel) (by decide) h.1 h.2
set_option maxRecDepth 20000 in
theorem L_case_11 {Ln : Nat} {xs : Nat → Int32} {i : Int32} {τ : x_T} (h1 : vp_in (i + 1) Ln) (h : x_CI 2000 mX11_fault [.ref 0, .int (xs (i + 1).toNatClampNeg)] τ (fun τ1 u => x_CI 2000 mX12_fault [.ref 345, .int (xs (i + 1).toNatClampNeg)] τ1 (fun τ2 v => u = v ∧ x_Lj Ln xs 376 1184 [(1, .ref 0), (2, .ref 345), (3, .int i)] [] (x_fu τ2)))) : x_Lj Ln xs 376 503 [(1, .ref 0), (2, .ref 345), (3, .int i)] [] (x_fu τ) := by
  refine L_aload (k := 1) 0 (by decide +kernel) rfl ?_
  refine L_arg (i := i) (n := 1) (v := 1) 2 (by decide +kernel) (by decide +kernel) (by decide +kernel) (by decide +kernel) (by decide +kernel) rfl (by decide) h1 ?_
  refine L_callF (μ' := mX11_fault) (i := 63) (vs := [.int (xs (i + 1).toNatClampNeg)]) (by decide +kernel) ll_1043 vok_mX11_fault sh_0 rfl rfl rfl rfl (Nat.le_of_ble_eq_true rfl) ?_
  refine x_CI.mono h (fun τ1 u h => ?_)
  refine L_aload (k := 2) 1 (by decide +kernel) rfl ?_
  refine L_arg (i := i) (n := 1) (v := 1) 2 (by decide +kernel) (by decide +kernel) (by decide +kernel) (by decide +kernel) (by decide +kernel) rfl (by decide) h1 ?_
  refine L_callF (μ' := mX12_fault) (i := 66) (vs := [.int (xs (i + 1).toNatClampNeg)]) (by decide +kernel) ll_1692 vok_mX12_fault sh_345 rfl rfl rfl rfl (Nat.le_of_ble_eq_true rfl) ?_
  refine x_CI.mono h (fun τ2 v h => ?_)
  exact L_eq (off := 663) 1184 (by decide +kernel) (by decide) h.1 h.2
set_option maxRecDepth 20000 in
theorem L_case_12 {Ln : Nat} {xs : Nat → Int32} {i : Int32} {τ : x_T} (h1 : vp_in (i + 1) Ln) (h : x_CI 2000 mX11_by [.ref 0, .int (xs (i + 1).toNatClampNeg)] τ (fun τ1 u => x_CI 2000 mX12_by [.ref 345, .int (xs (i + 1).toNatClampNeg)] τ1 (fun τ2 v => u = v ∧ x_Lj Ln xs 376 1184 [(1, .ref 0), (2, .ref 345), (3, .int i)] [] (x_fu τ2)))) : x_Lj Ln xs 376 526 [(1, .ref 0), (2, .ref 345), (3, .int i)] [] (x_fu τ) := by
  refine L_aload (k := 1) 0 (by decide +kernel) rfl ?_
  refine L_arg (i := i) (n := 1) (v := 1) 2 (by decide +kernel) (by decide +kernel) (by decide +kernel) (by decide +kernel) (by decide +kernel) rfl (by decide) h1 ?_
  refine L_callF (μ' := mX11_by) (i := 67) (vs := [.int (xs (i + 1).toNatClampNeg)]) (by decide +kernel) ll_1047 vok_mX11_by sh_0 rfl rfl rfl rfl (Nat.le_of_ble_eq_true rfl) ?_
  refine x_CI.mono h (fun τ1 u h => ?_)
  refine L_aload (k := 2) 1 (by decide +kernel) rfl ?_
  refine L_arg (i := i) (n := 1) (v := 1) 2 (by decide +kernel) (by decide +kernel) (by decide +kernel) (by decide +kernel) (by decide +kernel) rfl (by decide) h1 ?_
  refine L_callF (μ' := mX12_by) (i := 71) (vs := [.int (xs (i + 1).toNatClampNeg)]) (by decide +kernel) ll_1696 vok_mX12_by sh_345 rfl rfl rfl rfl (Nat.le_of_ble_eq_true rfl) ?_
  refine x_CI.mono h (fun τ2 v h => ?_)
  exact L_eq (off := 640) 1184 (by decide +kernel) (by decide) h.1 h.2
set_option maxRecDepth 20000 in
theorem L_case_13 {Ln : Nat} {xs : Nat → Int32} {i : Int32} {τ : x_T} (h1 : vp_in (i + 1) Ln) (h : x_CI 2000 mX11_played [.ref 0, .int (xs (i + 1).toNatClampNeg)] τ (fun τ1 u => x_CI 2000 mX12_played [.ref 345, .int (xs (i + 1).toNatClampNeg)] τ1 (fun τ2 v => u = v ∧ x_Lj Ln xs 376 1184 [(1, .ref 0), (2, .ref 345), (3, .int i)] [] (x_fu τ2)))) : x_Lj Ln xs 376 549 [(1, .ref 0), (2, .ref 345), (3, .int i)] [] (x_fu τ) := by
  refine L_aload (k := 1) 0 (by decide +kernel) rfl ?_
  refine L_arg (i := i) (n := 1) (v := 1) 2 (by decide +kernel) (by decide +kernel) (by decide +kernel) (by decide +kernel) (by decide +kernel) rfl (by decide) h1 ?_
  refine L_callF (μ' := mX11_played) (i := 72) (vs := [.int (xs (i + 1).toNatClampNeg)]) (by decide +kernel) ll_1059 vok_mX11_played sh_0 rfl rfl rfl rfl (Nat.le_of_ble_eq_true rfl) ?_
  refine x_CI.mono h (fun τ1 u h => ?_)
  refine L_aload (k := 2) 1 (by decide +kernel) rfl ?_
  refine L_arg (i := i) (n := 1) (v := 1) 2 (by decide +kernel) (by decide +kernel) (by decide +kernel) (by decide +kernel) (by decide +kernel) rfl (by decide) h1 ?_
  refine L_callF (μ' := mX12_played) (i := 75) (vs := [.int (xs (i + 1).toNatClampNeg)]) (by decide +kernel) ll_1827 vok_mX12_played sh_345 rfl rfl rfl rfl (Nat.le_of_ble_eq_true rfl) ?_
  refine x_CI.mono h (fun τ2 v h => ?_)
  exact L_eq (off := 617) 1184 (by decide +kernel) (by decide) h.1 h.2
set_option maxRecDepth 20000 in
theorem L_case_14 {Ln : Nat} {xs : Nat → Int32} {i : Int32} {τ : x_T} (h : x_CI 2000 mX11_undo [.ref 0] τ (fun τ1 u => x_CI 2000 mX12_undo [.ref 345] τ1 (fun τ2 v => u = v ∧ x_Lj Ln xs 376 1184 [(1, .ref 0), (2, .ref 345), (3, .int i)] [] (x_fu τ2)))) : x_Lj Ln xs 376 572 [(1, .ref 0), (2, .ref 345), (3, .int i)] [] (x_fu τ) := by
  refine L_aload (k := 1) 0 (by decide +kernel) rfl ?_
  refine L_callF (μ' := mX11_undo) (i := 76) (vs := []) (by decide +kernel) ll_1074 vok_mX11_undo sh_0 rfl rfl rfl rfl (Nat.le_of_ble_eq_true rfl) ?_
  refine x_CI.mono h (fun τ1 u h => ?_)
  refine L_aload (k := 2) 1 (by decide +kernel) rfl ?_
  refine L_callF (μ' := mX12_undo) (i := 79) (vs := []) (by decide +kernel) ll_1523 vok_mX12_undo sh_345 rfl rfl rfl rfl (Nat.le_of_ble_eq_true rfl) ?_
  refine x_CI.mono h (fun τ2 v h => ?_)
  exact L_eq (off := 604) 1184 (by decide +kernel) (by decide) h.1 h.2
set_option maxRecDepth 20000 in
theorem L_case_15 {Ln : Nat} {xs : Nat → Int32} {i : Int32} {τ : x_T} (h1 : vp_in (i + 1) Ln) (h2 : vp_in (i + 2) Ln) (h : x_CI 2000 mX11_of [.ref 0, .int (xs (i + 1).toNatClampNeg), .int (xs (i + 2).toNatClampNeg)] τ (fun τ1 u => x_CI 2000 mX12_of [.ref 345, .int (xs (i + 1).toNatClampNeg), .int (xs (i + 2).toNatClampNeg)] τ1 (fun τ2 v => u = v ∧ x_Lj Ln xs 376 1184 [(1, .ref 0), (2, .ref 345), (3, .int i)] [] (x_fu τ2)))) : x_Lj Ln xs 376 585 [(1, .ref 0), (2, .ref 345), (3, .int i)] [] (x_fu τ) := by
  refine L_aload (k := 1) 0 (by decide +kernel) rfl ?_
  refine L_arg (i := i) (n := 1) (v := 1) 2 (by decide +kernel) (by decide +kernel) (by decide +kernel) (by decide +kernel) (by decide +kernel) rfl (by decide) h1 ?_
  refine L_arg (i := i) (n := 2) (v := 2) 2 (by decide +kernel) (by decide +kernel) (by decide +kernel) (by decide +kernel) (by decide +kernel) rfl (by decide) h2 ?_
  refine L_callF (μ' := mX11_of) (i := 80) (vs := [.int (xs (i + 1).toNatClampNeg), .int (xs (i + 2).toNatClampNeg)]) (by decide +kernel) ll_1082 vok_mX11_of sh_0 rfl rfl rfl rfl (Nat.le_of_ble_eq_true rfl) ?_
  refine x_CI.mono h (fun τ1 u h => ?_)
  refine L_aload (k := 2) 1 (by decide +kernel) rfl ?_
  refine L_arg (i := i) (n := 1) (v := 1) 2 (by decide +kernel) (by decide +kernel) (by decide +kernel) (by decide +kernel) (by decide +kernel) rfl (by decide) h1 ?_
  refine L_arg (i := i) (n := 2) (v := 2) 2 (by decide +kernel) (by decide +kernel) (by decide +kernel) (by decide +kernel) (by decide +kernel) rfl (by decide) h2 ?_
  refine L_callF (μ' := mX12_of) (i := 83) (vs := [.int (xs (i + 1).toNatClampNeg), .int (xs (i + 2).toNatClampNeg)]) (by decide +kernel) ll_1842 vok_mX12_of sh_345 rfl rfl rfl rfl (Nat.le_of_ble_eq_true rfl) ?_
  refine x_CI.mono h (fun τ2 v h => ?_)
  exact L_eq (off := 571) 1184 (by decide +kernel) (by decide) h.1 h.2
set_option maxRecDepth 20000 in
theorem L_case_16 {Ln : Nat} {xs : Nat → Int32} {i : Int32} {τ : x_T} (h1 : vp_in (i + 1) Ln) (h2 : vp_in (i + 2) Ln) (h3 : vp_in (i + 3) Ln) (h : x_CI 2000 mX11_two [.ref 0, .int (xs (i + 1).toNatClampNeg), .int (xs (i + 2).toNatClampNeg), .int (xs (i + 3).toNatClampNeg)] τ (fun τ1 u => x_CI 2000 mX12_two [.ref 345, .int (xs (i + 1).toNatClampNeg), .int (xs (i + 2).toNatClampNeg), .int (xs (i + 3).toNatClampNeg)] τ1 (fun τ2 v => u = v ∧ x_Lj Ln xs 376 1184 [(1, .ref 0), (2, .ref 345), (3, .int i)] [] (x_fu τ2)))) : x_Lj Ln xs 376 618 [(1, .ref 0), (2, .ref 345), (3, .int i)] [] (x_fu τ) := by
  refine L_aload (k := 1) 0 (by decide +kernel) rfl ?_
  refine L_arg (i := i) (n := 1) (v := 1) 2 (by decide +kernel) (by decide +kernel) (by decide +kernel) (by decide +kernel) (by decide +kernel) rfl (by decide) h1 ?_
  refine L_arg (i := i) (n := 2) (v := 2) 2 (by decide +kernel) (by decide +kernel) (by decide +kernel) (by decide +kernel) (by decide +kernel) rfl (by decide) h2 ?_
  refine L_arg (i := i) (n := 3) (v := 3) 2 (by decide +kernel) (by decide +kernel) (by decide +kernel) (by decide +kernel) (by decide +kernel) rfl (by decide) h3 ?_
  refine L_callF (μ' := mX11_two) (i := 84) (vs := [.int (xs (i + 1).toNatClampNeg), .int (xs (i + 2).toNatClampNeg), .int (xs (i + 3).toNatClampNeg)]) (by decide +kernel) ll_1091 vok_mX11_two sh_0 rfl rfl rfl rfl (Nat.le_of_ble_eq_true rfl) ?_
  refine x_CI.mono h (fun τ1 u h => ?_)
  refine L_aload (k := 2) 1 (by decide +kernel) rfl ?_
  refine L_arg (i := i) (n := 1) (v := 1) 2 (by decide +kernel) (by decide +kernel) (by decide +kernel) (by decide +kernel) (by decide +kernel) rfl (by decide) h1 ?_
  refine L_arg (i := i) (n := 2) (v := 2) 2 (by decide +kernel) (by decide +kernel) (by decide +kernel) (by decide +kernel) (by decide +kernel) rfl (by decide) h2 ?_
  refine L_arg (i := i) (n := 3) (v := 3) 2 (by decide +kernel) (by decide +kernel) (by decide +kernel) (by decide +kernel) (by decide +kernel) rfl (by decide) h3 ?_
  refine L_callF (μ' := mX12_two) (i := 88) (vs := [.int (xs (i + 1).toNatClampNeg), .int (xs (i + 2).toNatClampNeg), .int (xs (i + 3).toNatClampNeg)]) (by decide +kernel) ll_1846 vok_mX12_two sh_345 rfl rfl rfl rfl (Nat.le_of_ble_eq_true rfl) ?_
  refine x_CI.mono h (fun τ2 v h => ?_)
  exact L_eq (off := 528) 1184 (by decide +kernel) (by decide) h.1 h.2
set_option maxRecDepth 20000 in
theorem L_case_17 {Ln : Nat} {xs : Nat → Int32} {i : Int32} {τ : x_T} (h1 : vp_in (i + 1) Ln) (h : x_CI 2000 mX11_barrow [.ref 0, .int (xs (i + 1).toNatClampNeg)] τ (fun τ1 u => x_CI 2000 mX12_barrow [.ref 345, .int (xs (i + 1).toNatClampNeg)] τ1 (fun τ2 v => u = v ∧ x_Lj Ln xs 376 1184 [(1, .ref 0), (2, .ref 345), (3, .int i)] [] (x_fu τ2)))) : x_Lj Ln xs 376 661 [(1, .ref 0), (2, .ref 345), (3, .int i)] [] (x_fu τ) := by
  refine L_aload (k := 1) 0 (by decide +kernel) rfl ?_
  refine L_arg (i := i) (n := 1) (v := 1) 2 (by decide +kernel) (by decide +kernel) (by decide +kernel) (by decide +kernel) (by decide +kernel) rfl (by decide) h1 ?_
  refine L_callF (μ' := mX11_barrow) (i := 89) (vs := [.int (xs (i + 1).toNatClampNeg)]) (by decide +kernel) ll_1101 vok_mX11_barrow sh_0 rfl rfl rfl rfl (Nat.le_of_ble_eq_true rfl) ?_
  refine x_CI.mono h (fun τ1 u h => ?_)
  refine L_aload (k := 2) 1 (by decide +kernel) rfl ?_
  refine L_arg (i := i) (n := 1) (v := 1) 2 (by decide +kernel) (by decide +kernel) (by decide +kernel) (by decide +kernel) (by decide +kernel) rfl (by decide) h1 ?_
  refine L_callF (μ' := mX12_barrow) (i := 92) (vs := [.int (xs (i + 1).toNatClampNeg)]) (by decide +kernel) ll_1854 vok_mX12_barrow sh_345 rfl rfl rfl rfl (Nat.le_of_ble_eq_true rfl) ?_
  refine x_CI.mono h (fun τ2 v h => ?_)
  exact L_eq (off := 505) 1184 (by decide +kernel) (by decide) h.1 h.2
set_option maxRecDepth 20000 in
theorem L_case_18 {Ln : Nat} {xs : Nat → Int32} {i : Int32} {τ : x_T} (h1 : vp_in (i + 1) Ln) (h2 : vp_in (i + 2) Ln) (h3 : vp_in (i + 3) Ln) (h : x_CI 2000 mX11_hard [.ref 0, .int (xs (i + 1).toNatClampNeg), .int (xs (i + 2).toNatClampNeg), .int (xs (i + 3).toNatClampNeg)] τ (fun τ1 u => x_CI 2000 mX12_hard [.ref 345, .int (xs (i + 1).toNatClampNeg), .int (xs (i + 2).toNatClampNeg), .int (xs (i + 3).toNatClampNeg)] τ1 (fun τ2 v => u = v ∧ x_Lj Ln xs 376 1184 [(1, .ref 0), (2, .ref 345), (3, .int i)] [] (x_fu τ2)))) : x_Lj Ln xs 376 684 [(1, .ref 0), (2, .ref 345), (3, .int i)] [] (x_fu τ) := by
  refine L_aload (k := 1) 0 (by decide +kernel) rfl ?_
  refine L_arg (i := i) (n := 1) (v := 1) 2 (by decide +kernel) (by decide +kernel) (by decide +kernel) (by decide +kernel) (by decide +kernel) rfl (by decide) h1 ?_
  refine L_arg (i := i) (n := 2) (v := 2) 2 (by decide +kernel) (by decide +kernel) (by decide +kernel) (by decide +kernel) (by decide +kernel) rfl (by decide) h2 ?_
  refine L_arg (i := i) (n := 3) (v := 3) 2 (by decide +kernel) (by decide +kernel) (by decide +kernel) (by decide +kernel) (by decide +kernel) rfl (by decide) h3 ?_
  refine L_callF (μ' := mX11_hard) (i := 93) (vs := [.int (xs (i + 1).toNatClampNeg), .int (xs (i + 2).toNatClampNeg), .int (xs (i + 3).toNatClampNeg)]) (by decide +kernel) ll_1106 vok_mX11_hard sh_0 rfl rfl rfl rfl (Nat.le_of_ble_eq_true rfl) ?_
  refine x_CI.mono h (fun τ1 u h => ?_)
  refine L_aload (k := 2) 1 (by decide +kernel) rfl ?_
  refine L_arg (i := i) (n := 1) (v := 1) 2 (by decide +kernel) (by decide +kernel) (by decide +kernel) (by decide +kernel) (by decide +kernel) rfl (by decide) h1 ?_
  refine L_arg (i := i) (n := 2) (v := 2) 2 (by decide +kernel) (by decide +kernel) (by decide +kernel) (by decide +kernel) (by decide +kernel) rfl (by decide) h2 ?_
  refine L_arg (i := i) (n := 3) (v := 3) 2 (by decide +kernel) (by decide +kernel) (by decide +kernel) (by decide +kernel) (by decide +kernel) rfl (by decide) h3 ?_
  refine L_callF (μ' := mX12_hard) (i := 96) (vs := [.int (xs (i + 1).toNatClampNeg), .int (xs (i + 2).toNatClampNeg), .int (xs (i + 3).toNatClampNeg)]) (by decide +kernel) ll_1858 vok_mX12_hard sh_345 rfl rfl rfl rfl (Nat.le_of_ble_eq_true rfl) ?_
  refine x_CI.mono h (fun τ2 v h => ?_)
  exact L_eq (off := 462) 1184 (by decide +kernel) (by decide) h.1 h.2
set_option maxRecDepth 20000 in
theorem L_case_19 {Ln : Nat} {xs : Nat → Int32} {i : Int32} {τ : x_T} (h1 : vp_in (i + 1) Ln) (h2 : vp_in (i + 2) Ln) (h : x_CI 2000 mX11_book [.ref 0, .int (xs (i + 1).toNatClampNeg), .int (xs (i + 2).toNatClampNeg)] τ (fun τ1 u => x_CI 2000 mX12_book [.ref 345, .int (xs (i + 1).toNatClampNeg), .int (xs (i + 2).toNatClampNeg)] τ1 (fun τ2 v => u = v ∧ x_Lj Ln xs 376 1184 [(1, .ref 0), (2, .ref 345), (3, .int i)] [] (x_fu τ2)))) : x_Lj Ln xs 376 727 [(1, .ref 0), (2, .ref 345), (3, .int i)] [] (x_fu τ) := by
  refine L_aload (k := 1) 0 (by decide +kernel) rfl ?_
  refine L_arg (i := i) (n := 1) (v := 1) 2 (by decide +kernel) (by decide +kernel) (by decide +kernel) (by decide +kernel) (by decide +kernel) rfl (by decide) h1 ?_
  refine L_arg (i := i) (n := 2) (v := 2) 2 (by decide +kernel) (by decide +kernel) (by decide +kernel) (by decide +kernel) (by decide +kernel) rfl (by decide) h2 ?_
  refine L_callF (μ' := mX11_book) (i := 97) (vs := [.int (xs (i + 1).toNatClampNeg), .int (xs (i + 2).toNatClampNeg)]) (by decide +kernel) ll_1112 vok_mX11_book sh_0 rfl rfl rfl rfl (Nat.le_of_ble_eq_true rfl) ?_
  refine x_CI.mono h (fun τ1 u h => ?_)
  refine L_aload (k := 2) 1 (by decide +kernel) rfl ?_
  refine L_arg (i := i) (n := 1) (v := 1) 2 (by decide +kernel) (by decide +kernel) (by decide +kernel) (by decide +kernel) (by decide +kernel) rfl (by decide) h1 ?_
  refine L_arg (i := i) (n := 2) (v := 2) 2 (by decide +kernel) (by decide +kernel) (by decide +kernel) (by decide +kernel) (by decide +kernel) rfl (by decide) h2 ?_
  refine L_callF (μ' := mX12_book) (i := 100) (vs := [.int (xs (i + 1).toNatClampNeg), .int (xs (i + 2).toNatClampNeg)]) (by decide +kernel) ll_1862 vok_mX12_book sh_345 rfl rfl rfl rfl (Nat.le_of_ble_eq_true rfl) ?_
  refine x_CI.mono h (fun τ2 v h => ?_)
  exact L_eq (off := 429) 1184 (by decide +kernel) (by decide) h.1 h.2
set_option maxRecDepth 20000 in
theorem L_case_20 {Ln : Nat} {xs : Nat → Int32} {i : Int32} {τ : x_T} (h1 : vp_in (i + 1) Ln) (h2 : vp_in (i + 2) Ln) (h3 : vp_in (i + 3) Ln) (h : x_CI 2000 mX11_foretold [.ref 0, .int (xs (i + 1).toNatClampNeg), .int (xs (i + 2).toNatClampNeg), .int (xs (i + 3).toNatClampNeg)] τ (fun τ1 u => x_CI 2000 mX12_foretold [.ref 345, .int (xs (i + 1).toNatClampNeg), .int (xs (i + 2).toNatClampNeg), .int (xs (i + 3).toNatClampNeg)] τ1 (fun τ2 v => u = v ∧ x_Lj Ln xs 376 1184 [(1, .ref 0), (2, .ref 345), (3, .int i)] [] (x_fu τ2)))) : x_Lj Ln xs 376 760 [(1, .ref 0), (2, .ref 345), (3, .int i)] [] (x_fu τ) := by
  refine L_aload (k := 1) 0 (by decide +kernel) rfl ?_
  refine L_arg (i := i) (n := 1) (v := 1) 2 (by decide +kernel) (by decide +kernel) (by decide +kernel) (by decide +kernel) (by decide +kernel) rfl (by decide) h1 ?_
  refine L_arg (i := i) (n := 2) (v := 2) 2 (by decide +kernel) (by decide +kernel) (by decide +kernel) (by decide +kernel) (by decide +kernel) rfl (by decide) h2 ?_
  refine L_arg (i := i) (n := 3) (v := 3) 2 (by decide +kernel) (by decide +kernel) (by decide +kernel) (by decide +kernel) (by decide +kernel) rfl (by decide) h3 ?_
  refine L_callF (μ' := mX11_foretold) (i := 101) (vs := [.int (xs (i + 1).toNatClampNeg), .int (xs (i + 2).toNatClampNeg), .int (xs (i + 3).toNatClampNeg)]) (by decide +kernel) ll_1120 vok_mX11_foretold sh_0 rfl rfl rfl rfl (Nat.le_of_ble_eq_true rfl) ?_
  refine x_CI.mono h (fun τ1 u h => ?_)
  refine L_aload (k := 2) 1 (by decide +kernel) rfl ?_
  refine L_arg (i := i) (n := 1) (v := 1) 2 (by decide +kernel) (by decide +kernel) (by decide +kernel) (by decide +kernel) (by decide +kernel) rfl (by decide) h1 ?_
  refine L_arg (i := i) (n := 2) (v := 2) 2 (by decide +kernel) (by decide +kernel) (by decide +kernel) (by decide +kernel) (by decide +kernel) rfl (by decide) h2 ?_
  refine L_arg (i := i) (n := 3) (v := 3) 2 (by decide +kernel) (by decide +kernel) (by decide +kernel) (by decide +kernel) (by decide +kernel) rfl (by decide) h3 ?_
  refine L_callF (μ' := mX12_foretold) (i := 104) (vs := [.int (xs (i + 1).toNatClampNeg), .int (xs (i + 2).toNatClampNeg), .int (xs (i + 3).toNatClampNeg)]) (by decide +kernel) ll_1866 vok_mX12_foretold sh_345 rfl rfl rfl rfl (Nat.le_of_ble_eq_true rfl) ?_
  refine x_CI.mono h (fun τ2 v h => ?_)
  exact L_eq (off := 386) 1184 (by decide +kernel) (by decide) h.1 h.2
set_option maxRecDepth 20000 in
theorem L_case_21 {Ln : Nat} {xs : Nat → Int32} {i : Int32} {τ : x_T} (h : x_CI 2000 mX11_arrives [.ref 0] τ (fun τ1 u => x_CI 2000 mX12_arrives [.ref 345] τ1 (fun τ2 v => u = v ∧ x_Lj Ln xs 376 1184 [(1, .ref 0), (2, .ref 345), (3, .int i)] [] (x_fu τ2)))) : x_Lj Ln xs 376 803 [(1, .ref 0), (2, .ref 345), (3, .int i)] [] (x_fu τ) := by
  refine L_aload (k := 1) 0 (by decide +kernel) rfl ?_
  refine L_callF (μ' := mX11_arrives) (i := 105) (vs := []) (by decide +kernel) ll_1125 vok_mX11_arrives sh_0 rfl rfl rfl rfl (Nat.le_of_ble_eq_true rfl) ?_
  refine x_CI.mono h (fun τ1 u h => ?_)
  refine L_aload (k := 2) 1 (by decide +kernel) rfl ?_
  refine L_callF (μ' := mX12_arrives) (i := 108) (vs := []) (by decide +kernel) ll_1870 vok_mX12_arrives sh_345 rfl rfl rfl rfl (Nat.le_of_ble_eq_true rfl) ?_
  refine x_CI.mono h (fun τ2 v h => ?_)
  exact L_eq (off := 373) 1184 (by decide +kernel) (by decide) h.1 h.2
set_option maxRecDepth 20000 in
theorem L_case_22 {Ln : Nat} {xs : Nat → Int32} {i : Int32} {τ : x_T} (h1 : vp_in (i + 1) Ln) (h2 : vp_in (i + 2) Ln) (h : x_CI 2000 mX11_want [.ref 0, .int (xs (i + 1).toNatClampNeg), .int (xs (i + 2).toNatClampNeg)] τ (fun τ1 u => x_CI 2000 mX12_want [.ref 345, .int (xs (i + 1).toNatClampNeg), .int (xs (i + 2).toNatClampNeg)] τ1 (fun τ2 v => u = v ∧ x_Lj Ln xs 376 1184 [(1, .ref 0), (2, .ref 345), (3, .int i)] [] (x_fu τ2)))) : x_Lj Ln xs 376 816 [(1, .ref 0), (2, .ref 345), (3, .int i)] [] (x_fu τ) := by
  refine L_aload (k := 1) 0 (by decide +kernel) rfl ?_
  refine L_arg (i := i) (n := 1) (v := 1) 2 (by decide +kernel) (by decide +kernel) (by decide +kernel) (by decide +kernel) (by decide +kernel) rfl (by decide) h1 ?_
  refine L_arg (i := i) (n := 2) (v := 2) 2 (by decide +kernel) (by decide +kernel) (by decide +kernel) (by decide +kernel) (by decide +kernel) rfl (by decide) h2 ?_
  refine L_callF (μ' := mX11_want) (i := 109) (vs := [.int (xs (i + 1).toNatClampNeg), .int (xs (i + 2).toNatClampNeg)]) (by decide +kernel) ll_1130 vok_mX11_want sh_0 rfl rfl rfl rfl (Nat.le_of_ble_eq_true rfl) ?_
  refine x_CI.mono h (fun τ1 u h => ?_)
  refine L_aload (k := 2) 1 (by decide +kernel) rfl ?_
  refine L_arg (i := i) (n := 1) (v := 1) 2 (by decide +kernel) (by decide +kernel) (by decide +kernel) (by decide +kernel) (by decide +kernel) rfl (by decide) h1 ?_
  refine L_arg (i := i) (n := 2) (v := 2) 2 (by decide +kernel) (by decide +kernel) (by decide +kernel) (by decide +kernel) (by decide +kernel) rfl (by decide) h2 ?_
  refine L_callF (μ' := mX12_want) (i := 112) (vs := [.int (xs (i + 1).toNatClampNeg), .int (xs (i + 2).toNatClampNeg)]) (by decide +kernel) ll_1874 vok_mX12_want sh_345 rfl rfl rfl rfl (Nat.le_of_ble_eq_true rfl) ?_
  refine x_CI.mono h (fun τ2 v h => ?_)
  exact L_eq (off := 340) 1184 (by decide +kernel) (by decide) h.1 h.2
set_option maxRecDepth 20000 in
theorem L_case_23 {Ln : Nat} {xs : Nat → Int32} {i : Int32} {τ : x_T} (h : x_CI 2000 mX11_fitting [.ref 0] τ (fun τ1 u => x_CI 2000 mX12_fitting [.ref 345] τ1 (fun τ2 v => u = v ∧ x_Lj Ln xs 376 1184 [(1, .ref 0), (2, .ref 345), (3, .int i)] [] (x_fu τ2)))) : x_Lj Ln xs 376 849 [(1, .ref 0), (2, .ref 345), (3, .int i)] [] (x_fu τ) := by
  refine L_aload (k := 1) 0 (by decide +kernel) rfl ?_
  refine L_callF (μ' := mX11_fitting) (i := 113) (vs := []) (by decide +kernel) ll_1138 vok_mX11_fitting sh_0 rfl rfl rfl rfl (Nat.le_of_ble_eq_true rfl) ?_
  refine x_CI.mono h (fun τ1 u h => ?_)
  refine L_aload (k := 2) 1 (by decide +kernel) rfl ?_
  refine L_callF (μ' := mX12_fitting) (i := 116) (vs := []) (by decide +kernel) ll_1878 vok_mX12_fitting sh_345 rfl rfl rfl rfl (Nat.le_of_ble_eq_true rfl) ?_
  refine x_CI.mono h (fun τ2 v h => ?_)
  exact L_eq (off := 327) 1184 (by decide +kernel) (by decide) h.1 h.2
set_option maxRecDepth 20000 in
theorem L_case_24 {Ln : Nat} {xs : Nat → Int32} {i : Int32} {τ : x_T} (h1 : vp_in (i + 1) Ln) (h : x_CI 2000 mX11_route [.ref 0, .int (xs (i + 1).toNatClampNeg)] τ (fun τ1 u => x_CI 2000 mX12_route [.ref 345, .int (xs (i + 1).toNatClampNeg)] τ1 (fun τ2 v => u = v ∧ x_Lj Ln xs 376 1184 [(1, .ref 0), (2, .ref 345), (3, .int i)] [] (x_fu τ2)))) : x_Lj Ln xs 376 862 [(1, .ref 0), (2, .ref 345), (3, .int i)] [] (x_fu τ) := by
  refine L_aload (k := 1) 0 (by decide +kernel) rfl ?_
  refine L_arg (i := i) (n := 1) (v := 1) 2 (by decide +kernel) (by decide +kernel) (by decide +kernel) (by decide +kernel) (by decide +kernel) rfl (by decide) h1 ?_
  refine L_callF (μ' := mX11_route) (i := 117) (vs := [.int (xs (i + 1).toNatClampNeg)]) (by decide +kernel) ll_1151 vok_mX11_route sh_0 rfl rfl rfl rfl (Nat.le_of_ble_eq_true rfl) ?_
  refine x_CI.mono h (fun τ1 u h => ?_)
  refine L_aload (k := 2) 1 (by decide +kernel) rfl ?_
  refine L_arg (i := i) (n := 1) (v := 1) 2 (by decide +kernel) (by decide +kernel) (by decide +kernel) (by decide +kernel) (by decide +kernel) rfl (by decide) h1 ?_
  refine L_callF (μ' := mX12_route) (i := 120) (vs := [.int (xs (i + 1).toNatClampNeg)]) (by decide +kernel) ll_1886 vok_mX12_route sh_345 rfl rfl rfl rfl (Nat.le_of_ble_eq_true rfl) ?_
  refine x_CI.mono h (fun τ2 v h => ?_)
  exact L_eq (off := 304) 1184 (by decide +kernel) (by decide) h.1 h.2
set_option maxRecDepth 20000 in
theorem L_case_25 {Ln : Nat} {xs : Nat → Int32} {i : Int32} {τ : x_T} (h1 : vp_in (i + 1) Ln) (h2 : vp_in (i + 2) Ln) (h3 : vp_in (i + 3) Ln) (h : x_CI 2000 mX11_least [.ref 0, .int (xs (i + 1).toNatClampNeg), .int (xs (i + 2).toNatClampNeg), .int (xs (i + 3).toNatClampNeg)] τ (fun τ1 u => x_CI 2000 mX12_least [.ref 345, .int (xs (i + 1).toNatClampNeg), .int (xs (i + 2).toNatClampNeg), .int (xs (i + 3).toNatClampNeg)] τ1 (fun τ2 v => u = v ∧ x_Lj Ln xs 376 1184 [(1, .ref 0), (2, .ref 345), (3, .int i)] [] (x_fu τ2)))) : x_Lj Ln xs 376 885 [(1, .ref 0), (2, .ref 345), (3, .int i)] [] (x_fu τ) := by
  refine L_aload (k := 1) 0 (by decide +kernel) rfl ?_
  refine L_arg (i := i) (n := 1) (v := 1) 2 (by decide +kernel) (by decide +kernel) (by decide +kernel) (by decide +kernel) (by decide +kernel) rfl (by decide) h1 ?_
  refine L_arg (i := i) (n := 2) (v := 2) 2 (by decide +kernel) (by decide +kernel) (by decide +kernel) (by decide +kernel) (by decide +kernel) rfl (by decide) h2 ?_
  refine L_arg (i := i) (n := 3) (v := 3) 2 (by decide +kernel) (by decide +kernel) (by decide +kernel) (by decide +kernel) (by decide +kernel) rfl (by decide) h3 ?_
  refine L_callF (μ' := mX11_least) (i := 121) (vs := [.int (xs (i + 1).toNatClampNeg), .int (xs (i + 2).toNatClampNeg), .int (xs (i + 3).toNatClampNeg)]) (by decide +kernel) ll_1182 vok_mX11_least sh_0 rfl rfl rfl rfl (Nat.le_of_ble_eq_true rfl) ?_
  refine x_CI.mono h (fun τ1 u h => ?_)
  refine L_aload (k := 2) 1 (by decide +kernel) rfl ?_
  refine L_arg (i := i) (n := 1) (v := 1) 2 (by decide +kernel) (by decide +kernel) (by decide +kernel) (by decide +kernel) (by decide +kernel) rfl (by decide) h1 ?_
  refine L_arg (i := i) (n := 2) (v := 2) 2 (by decide +kernel) (by decide +kernel) (by decide +kernel) (by decide +kernel) (by decide +kernel) rfl (by decide) h2 ?_
  refine L_arg (i := i) (n := 3) (v := 3) 2 (by decide +kernel) (by decide +kernel) (by decide +kernel) (by decide +kernel) (by decide +kernel) rfl (by decide) h3 ?_
  refine L_callF (μ' := mX12_least) (i := 124) (vs := [.int (xs (i + 1).toNatClampNeg), .int (xs (i + 2).toNatClampNeg), .int (xs (i + 3).toNatClampNeg)]) (by decide +kernel) ll_1898 vok_mX12_least sh_345 rfl rfl rfl rfl (Nat.le_of_ble_eq_true rfl) ?_
  refine x_CI.mono h (fun τ2 v h => ?_)
  exact L_eq (off := 261) 1184 (by decide +kernel) (by decide) h.1 h.2
set_option maxRecDepth 20000 in
theorem L_case_26 {Ln : Nat} {xs : Nat → Int32} {i : Int32} {τ : x_T} (h : x_CI 2000 mX11_winner [.ref 0] τ (fun τ1 u => x_CI 2000 mX12_winner [.ref 345] τ1 (fun τ2 v => u = v ∧ x_Lj Ln xs 376 1184 [(1, .ref 0), (2, .ref 345), (3, .int i)] [] (x_fu τ2)))) : x_Lj Ln xs 376 928 [(1, .ref 0), (2, .ref 345), (3, .int i)] [] (x_fu τ) := by
  refine L_aload (k := 1) 0 (by decide +kernel) rfl ?_
  refine L_callF (μ' := mX11_winner) (i := 125) (vs := []) (by decide +kernel) ll_1209 vok_mX11_winner sh_0 rfl rfl rfl rfl (Nat.le_of_ble_eq_true rfl) ?_
  refine x_CI.mono h (fun τ1 u h => ?_)
  refine L_aload (k := 2) 1 (by decide +kernel) rfl ?_
  refine L_callF (μ' := mX12_winner) (i := 128) (vs := []) (by decide +kernel) ll_1907 vok_mX12_winner sh_345 rfl rfl rfl rfl (Nat.le_of_ble_eq_true rfl) ?_
  refine x_CI.mono h (fun τ2 v h => ?_)
  exact L_eq (off := 248) 1184 (by decide +kernel) (by decide) h.1 h.2
set_option maxRecDepth 20000 in
theorem L_case_27 {Ln : Nat} {xs : Nat → Int32} {i : Int32} {τ : x_T} (h1 : vp_in (i + 1) Ln) (h2 : vp_in (i + 2) Ln) (h : x_CI 2000 mX11_agenda [.ref 0, .int (xs (i + 1).toNatClampNeg), .int (xs (i + 2).toNatClampNeg)] τ (fun τ1 u => x_CI 2000 mX12_agenda [.ref 345, .int (xs (i + 1).toNatClampNeg), .int (xs (i + 2).toNatClampNeg)] τ1 (fun τ2 v => u = v ∧ x_Lj Ln xs 376 1184 [(1, .ref 0), (2, .ref 345), (3, .int i)] [] (x_fu τ2)))) : x_Lj Ln xs 376 941 [(1, .ref 0), (2, .ref 345), (3, .int i)] [] (x_fu τ) := by
  refine L_aload (k := 1) 0 (by decide +kernel) rfl ?_
  refine L_arg (i := i) (n := 1) (v := 1) 2 (by decide +kernel) (by decide +kernel) (by decide +kernel) (by decide +kernel) (by decide +kernel) rfl (by decide) h1 ?_
  refine L_arg (i := i) (n := 2) (v := 2) 2 (by decide +kernel) (by decide +kernel) (by decide +kernel) (by decide +kernel) (by decide +kernel) rfl (by decide) h2 ?_
  refine L_callF (μ' := mX11_agenda) (i := 129) (vs := [.int (xs (i + 1).toNatClampNeg), .int (xs (i + 2).toNatClampNeg)]) (by decide +kernel) ll_1226 vok_mX11_agenda sh_0 rfl rfl rfl rfl (Nat.le_of_ble_eq_true rfl) ?_
  refine x_CI.mono h (fun τ1 u h => ?_)
  refine L_aload (k := 2) 1 (by decide +kernel) rfl ?_
  refine L_arg (i := i) (n := 1) (v := 1) 2 (by decide +kernel) (by decide +kernel) (by decide +kernel) (by decide +kernel) (by decide +kernel) rfl (by decide) h1 ?_
  refine L_arg (i := i) (n := 2) (v := 2) 2 (by decide +kernel) (by decide +kernel) (by decide +kernel) (by decide +kernel) (by decide +kernel) rfl (by decide) h2 ?_
  refine L_callF (μ' := mX12_agenda) (i := 132) (vs := [.int (xs (i + 1).toNatClampNeg), .int (xs (i + 2).toNatClampNeg)]) (by decide +kernel) ll_1915 vok_mX12_agenda sh_345 rfl rfl rfl rfl (Nat.le_of_ble_eq_true rfl) ?_
  refine x_CI.mono h (fun τ2 v h => ?_)
  exact L_eq (off := 215) 1184 (by decide +kernel) (by decide) h.1 h.2
set_option maxRecDepth 20000 in
theorem L_case_28 {Ln : Nat} {xs : Nat → Int32} {i : Int32} {τ : x_T} (h1 : vp_in (i + 1) Ln) (h2 : vp_in (i + 2) Ln) (h : x_CI 2000 mX11_weight [.ref 0, .int (xs (i + 1).toNatClampNeg), .int (xs (i + 2).toNatClampNeg)] τ (fun τ1 u => x_CI 2000 mX12_weight [.ref 345, .int (xs (i + 1).toNatClampNeg), .int (xs (i + 2).toNatClampNeg)] τ1 (fun τ2 v => u = v ∧ x_Lj Ln xs 376 1184 [(1, .ref 0), (2, .ref 345), (3, .int i)] [] (x_fu τ2)))) : x_Lj Ln xs 376 974 [(1, .ref 0), (2, .ref 345), (3, .int i)] [] (x_fu τ) := by
  refine L_aload (k := 1) 0 (by decide +kernel) rfl ?_
  refine L_arg (i := i) (n := 1) (v := 1) 2 (by decide +kernel) (by decide +kernel) (by decide +kernel) (by decide +kernel) (by decide +kernel) rfl (by decide) h1 ?_
  refine L_arg (i := i) (n := 2) (v := 2) 2 (by decide +kernel) (by decide +kernel) (by decide +kernel) (by decide +kernel) (by decide +kernel) rfl (by decide) h2 ?_
  refine L_callF (μ' := mX11_weight) (i := 133) (vs := [.int (xs (i + 1).toNatClampNeg), .int (xs (i + 2).toNatClampNeg)]) (by decide +kernel) ll_1240 vok_mX11_weight sh_0 rfl rfl rfl rfl (Nat.le_of_ble_eq_true rfl) ?_
  refine x_CI.mono h (fun τ1 u h => ?_)
  refine L_aload (k := 2) 1 (by decide +kernel) rfl ?_
  refine L_arg (i := i) (n := 1) (v := 1) 2 (by decide +kernel) (by decide +kernel) (by decide +kernel) (by decide +kernel) (by decide +kernel) rfl (by decide) h1 ?_
  refine L_arg (i := i) (n := 2) (v := 2) 2 (by decide +kernel) (by decide +kernel) (by decide +kernel) (by decide +kernel) (by decide +kernel) rfl (by decide) h2 ?_
  refine L_callF (μ' := mX12_weight) (i := 137) (vs := [.int (xs (i + 1).toNatClampNeg), .int (xs (i + 2).toNatClampNeg)]) (by decide +kernel) ll_1922 vok_mX12_weight sh_345 rfl rfl rfl rfl (Nat.le_of_ble_eq_true rfl) ?_
  refine x_CI.mono h (fun τ2 v h => ?_)
  exact L_eq (off := 182) 1184 (by decide +kernel) (by decide) h.1 h.2
set_option maxRecDepth 20000 in
theorem L_case_29 {Ln : Nat} {xs : Nat → Int32} {i : Int32} {τ : x_T} (h1 : vp_in (i + 1) Ln) (h : x_CI 2000 mX11_fair [.ref 0, .int (xs (i + 1).toNatClampNeg)] τ (fun τ1 u => x_CI 2000 mX12_fair [.ref 345, .int (xs (i + 1).toNatClampNeg)] τ1 (fun τ2 v => u = v ∧ x_Lj Ln xs 376 1184 [(1, .ref 0), (2, .ref 345), (3, .int i)] [] (x_fu τ2)))) : x_Lj Ln xs 376 1007 [(1, .ref 0), (2, .ref 345), (3, .int i)] [] (x_fu τ) := by
  refine L_aload (k := 1) 0 (by decide +kernel) rfl ?_
  refine L_arg (i := i) (n := 1) (v := 1) 2 (by decide +kernel) (by decide +kernel) (by decide +kernel) (by decide +kernel) (by decide +kernel) rfl (by decide) h1 ?_
  refine L_callF (μ' := mX11_fair) (i := 138) (vs := [.int (xs (i + 1).toNatClampNeg)]) (by decide +kernel) ll_1244 vok_mX11_fair sh_0 rfl rfl rfl rfl (Nat.le_of_ble_eq_true rfl) ?_
  refine x_CI.mono h (fun τ1 u h => ?_)
  refine L_aload (k := 2) 1 (by decide +kernel) rfl ?_
  refine L_arg (i := i) (n := 1) (v := 1) 2 (by decide +kernel) (by decide +kernel) (by decide +kernel) (by decide +kernel) (by decide +kernel) rfl (by decide) h1 ?_
  refine L_callF (μ' := mX12_fair) (i := 141) (vs := [.int (xs (i + 1).toNatClampNeg)]) (by decide +kernel) ll_1926 vok_mX12_fair sh_345 rfl rfl rfl rfl (Nat.le_of_ble_eq_true rfl) ?_
  refine x_CI.mono h (fun τ2 v h => ?_)
  exact L_eq (off := 159) 1184 (by decide +kernel) (by decide) h.1 h.2
set_option maxRecDepth 20000 in
theorem L_case_30 {Ln : Nat} {xs : Nat → Int32} {i : Int32} {τ : x_T} (h1 : vp_in (i + 1) Ln) (h2 : vp_in (i + 2) Ln) (h : x_CI 2000 mX11_feel [.ref 0, .int (xs (i + 1).toNatClampNeg), .int (xs (i + 2).toNatClampNeg)] τ (fun τ1 u => x_CI 2000 mX12_feel [.ref 345, .int (xs (i + 1).toNatClampNeg), .int (xs (i + 2).toNatClampNeg)] τ1 (fun τ2 v => u = v ∧ x_Lj Ln xs 376 1184 [(1, .ref 0), (2, .ref 345), (3, .int i)] [] (x_fu τ2)))) : x_Lj Ln xs 376 1030 [(1, .ref 0), (2, .ref 345), (3, .int i)] [] (x_fu τ) := by
  refine L_aload (k := 1) 0 (by decide +kernel) rfl ?_
  refine L_arg (i := i) (n := 1) (v := 1) 2 (by decide +kernel) (by decide +kernel) (by decide +kernel) (by decide +kernel) (by decide +kernel) rfl (by decide) h1 ?_
  refine L_arg (i := i) (n := 2) (v := 2) 2 (by decide +kernel) (by decide +kernel) (by decide +kernel) (by decide +kernel) (by decide +kernel) rfl (by decide) h2 ?_
  refine L_callF (μ' := mX11_feel) (i := 142) (vs := [.int (xs (i + 1).toNatClampNeg), .int (xs (i + 2).toNatClampNeg)]) (by decide +kernel) ll_1260 vok_mX11_feel sh_0 rfl rfl rfl rfl (Nat.le_of_ble_eq_true rfl) ?_
  refine x_CI.mono h (fun τ1 u h => ?_)
  refine L_aload (k := 2) 1 (by decide +kernel) rfl ?_
  refine L_arg (i := i) (n := 1) (v := 1) 2 (by decide +kernel) (by decide +kernel) (by decide +kernel) (by decide +kernel) (by decide +kernel) rfl (by decide) h1 ?_
  refine L_arg (i := i) (n := 2) (v := 2) 2 (by decide +kernel) (by decide +kernel) (by decide +kernel) (by decide +kernel) (by decide +kernel) rfl (by decide) h2 ?_
  refine L_callF (μ' := mX12_feel) (i := 145) (vs := [.int (xs (i + 1).toNatClampNeg), .int (xs (i + 2).toNatClampNeg)]) (by decide +kernel) ll_1934 vok_mX12_feel sh_345 rfl rfl rfl rfl (Nat.le_of_ble_eq_true rfl) ?_
  refine x_CI.mono h (fun τ2 v h => ?_)
  exact L_eq (off := 126) 1184 (by decide +kernel) (by decide) h.1 h.2
set_option maxRecDepth 20000 in
theorem L_case_31 {Ln : Nat} {xs : Nat → Int32} {i : Int32} {τ : x_T} (h : x_CI 2000 mX11_lost [.ref 0] τ (fun τ1 u => x_CI 2000 mX12_lost [.ref 345] τ1 (fun τ2 v => u = v ∧ x_Lj Ln xs 376 1184 [(1, .ref 0), (2, .ref 345), (3, .int i)] [] (x_fu τ2)))) : x_Lj Ln xs 376 1063 [(1, .ref 0), (2, .ref 345), (3, .int i)] [] (x_fu τ) := by
  refine L_aload (k := 1) 0 (by decide +kernel) rfl ?_
  refine L_callF (μ' := mX11_lost) (i := 146) (vs := []) (by decide +kernel) ll_1264 vok_mX11_lost sh_0 rfl rfl rfl rfl (Nat.le_of_ble_eq_true rfl) ?_
  refine x_CI.mono h (fun τ1 u h => ?_)
  refine L_aload (k := 2) 1 (by decide +kernel) rfl ?_
  refine L_callF (μ' := mX12_lost) (i := 149) (vs := []) (by decide +kernel) ll_1938 vok_mX12_lost sh_345 rfl rfl rfl rfl (Nat.le_of_ble_eq_true rfl) ?_
  refine x_CI.mono h (fun τ2 v h => ?_)
  exact L_eq (off := 113) 1184 (by decide +kernel) (by decide) h.1 h.2
set_option maxRecDepth 20000 in
theorem L_case_32 {Ln : Nat} {xs : Nat → Int32} {i : Int32} {τ : x_T} (h : x_CI 2000 mX11_yard [.ref 0] τ (fun τ1 u => x_CI 2000 mX12_yard [.ref 345] τ1 (fun τ2 v => u = v ∧ x_Lj Ln xs 376 1184 [(1, .ref 0), (2, .ref 345), (3, .int i)] [] (x_fu τ2)))) : x_Lj Ln xs 376 1076 [(1, .ref 0), (2, .ref 345), (3, .int i)] [] (x_fu τ) := by
  refine L_aload (k := 1) 0 (by decide +kernel) rfl ?_
  refine L_callF (μ' := mX11_yard) (i := 150) (vs := []) (by decide +kernel) ll_1277 vok_mX11_yard sh_0 rfl rfl rfl rfl (Nat.le_of_ble_eq_true rfl) ?_
  refine x_CI.mono h (fun τ1 u h => ?_)
  refine L_aload (k := 2) 1 (by decide +kernel) rfl ?_
  refine L_callF (μ' := mX12_yard) (i := 153) (vs := []) (by decide +kernel) ll_1942 vok_mX12_yard sh_345 rfl rfl rfl rfl (Nat.le_of_ble_eq_true rfl) ?_
  refine x_CI.mono h (fun τ2 v h => ?_)
  exact L_eq (off := 100) 1184 (by decide +kernel) (by decide) h.1 h.2
set_option maxRecDepth 20000 in
theorem L_case_33 {Ln : Nat} {xs : Nat → Int32} {i : Int32} {τ : x_T} (h : x_CI 2000 mX11_thieves [.ref 0] τ (fun τ1 u => x_CI 2000 mX12_thieves [.ref 345] τ1 (fun τ2 v => u = v ∧ x_Lj Ln xs 376 1184 [(1, .ref 0), (2, .ref 345), (3, .int i)] [] (x_fu τ2)))) : x_Lj Ln xs 376 1089 [(1, .ref 0), (2, .ref 345), (3, .int i)] [] (x_fu τ) := by
  refine L_aload (k := 1) 0 (by decide +kernel) rfl ?_
  refine L_callF (μ' := mX11_thieves) (i := 154) (vs := []) (by decide +kernel) ll_1294 vok_mX11_thieves sh_0 rfl rfl rfl rfl (Nat.le_of_ble_eq_true rfl) ?_
  refine x_CI.mono h (fun τ1 u h => ?_)
  refine L_aload (k := 2) 1 (by decide +kernel) rfl ?_
  refine L_callF (μ' := mX12_thieves) (i := 157) (vs := []) (by decide +kernel) ll_1951 vok_mX12_thieves sh_345 rfl rfl rfl rfl (Nat.le_of_ble_eq_true rfl) ?_
  refine x_CI.mono h (fun τ2 v h => ?_)
  exact L_eq (off := 87) 1184 (by decide +kernel) (by decide) h.1 h.2
set_option maxRecDepth 20000 in
theorem L_case_34 {Ln : Nat} {xs : Nat → Int32} {i : Int32} {τ : x_T} (h1 : vp_in (i + 1) Ln) (h2 : vp_in (i + 2) Ln) (h : x_CI 2000 mX11_watch [.ref 0, .int (xs (i + 1).toNatClampNeg), .int (xs (i + 2).toNatClampNeg)] τ (fun τ1 u => x_CI 2000 mX12_watch [.ref 345, .int (xs (i + 1).toNatClampNeg), .int (xs (i + 2).toNatClampNeg)] τ1 (fun τ2 v => u = v ∧ x_Lj Ln xs 376 1184 [(1, .ref 0), (2, .ref 345), (3, .int i)] [] (x_fu τ2)))) : x_Lj Ln xs 376 1102 [(1, .ref 0), (2, .ref 345), (3, .int i)] [] (x_fu τ) := by
  refine L_aload (k := 1) 0 (by decide +kernel) rfl ?_
  refine L_arg (i := i) (n := 1) (v := 1) 2 (by decide +kernel) (by decide +kernel) (by decide +kernel) (by decide +kernel) (by decide +kernel) rfl (by decide) h1 ?_
  refine L_arg (i := i) (n := 2) (v := 2) 2 (by decide +kernel) (by decide +kernel) (by decide +kernel) (by decide +kernel) (by decide +kernel) rfl (by decide) h2 ?_
  refine L_callF (μ' := mX11_watch) (i := 158) (vs := [.int (xs (i + 1).toNatClampNeg), .int (xs (i + 2).toNatClampNeg)]) (by decide +kernel) ll_1303 vok_mX11_watch sh_0 rfl rfl rfl rfl (Nat.le_of_ble_eq_true rfl) ?_
  refine x_CI.mono h (fun τ1 u h => ?_)
  refine L_aload (k := 2) 1 (by decide +kernel) rfl ?_
  refine L_arg (i := i) (n := 1) (v := 1) 2 (by decide +kernel) (by decide +kernel) (by decide +kernel) (by decide +kernel) (by decide +kernel) rfl (by decide) h1 ?_
  refine L_arg (i := i) (n := 2) (v := 2) 2 (by decide +kernel) (by decide +kernel) (by decide +kernel) (by decide +kernel) (by decide +kernel) rfl (by decide) h2 ?_
  refine L_callF (μ' := mX12_watch) (i := 161) (vs := [.int (xs (i + 1).toNatClampNeg), .int (xs (i + 2).toNatClampNeg)]) (by decide +kernel) ll_1955 vok_mX12_watch sh_345 rfl rfl rfl rfl (Nat.le_of_ble_eq_true rfl) ?_
  refine x_CI.mono h (fun τ2 v h => ?_)
  exact L_eq (off := 54) 1184 (by decide +kernel) (by decide) h.1 h.2
set_option maxRecDepth 20000 in
theorem L_case_35 {Ln : Nat} {xs : Nat → Int32} {i : Int32} {τ : x_T} (h : x_CI 2000 mX11_image [.ref 0] τ (fun τ1 u => x_CI 2000 mX12_image [.ref 345] τ1 (fun τ2 v => u = v ∧ x_Lj Ln xs 376 1184 [(1, .ref 0), (2, .ref 345), (3, .int i)] [] (x_fu τ2)))) : x_Lj Ln xs 376 1135 [(1, .ref 0), (2, .ref 345), (3, .int i)] [] (x_fu τ) := by
  refine L_aload (k := 1) 0 (by decide +kernel) rfl ?_
  refine L_callF (μ' := mX11_image) (i := 162) (vs := []) (by decide +kernel) ll_1325 vok_mX11_image sh_0 rfl rfl rfl rfl (Nat.le_of_ble_eq_true rfl) ?_
  refine x_CI.mono h (fun τ1 u h => ?_)
  refine L_aload (k := 2) 1 (by decide +kernel) rfl ?_
  refine L_callF (μ' := mX12_image) (i := 165) (vs := []) (by decide +kernel) ll_1966 vok_mX12_image sh_345 rfl rfl rfl rfl (Nat.le_of_ble_eq_true rfl) ?_
  refine x_CI.mono h (fun τ2 v h => ?_)
  exact L_eq (off := 41) 1184 (by decide +kernel) (by decide) h.1 h.2
set_option maxRecDepth 20000 in
theorem L_case_36 {Ln : Nat} {xs : Nat → Int32} {i : Int32} {τ : x_T} (h : x_CI 2000 mX11_back [.ref 0] τ (fun τ1 u => x_CI 2000 mX12_back [.ref 345] τ1 (fun τ2 v => u = v ∧ x_Lj Ln xs 376 1184 [(1, .ref 0), (2, .ref 345), (3, .int i)] [] (x_fu τ2)))) : x_Lj Ln xs 376 1148 [(1, .ref 0), (2, .ref 345), (3, .int i)] [] (x_fu τ) := by
  refine L_aload (k := 1) 0 (by decide +kernel) rfl ?_
  refine L_callF (μ' := mX11_back) (i := 166) (vs := []) (by decide +kernel) ll_1343 vok_mX11_back sh_0 rfl rfl rfl rfl (Nat.le_of_ble_eq_true rfl) ?_
  refine x_CI.mono h (fun τ1 u h => ?_)
  refine L_aload (k := 2) 1 (by decide +kernel) rfl ?_
  refine L_callF (μ' := mX12_back) (i := 169) (vs := []) (by decide +kernel) ll_1970 vok_mX12_back sh_345 rfl rfl rfl rfl (Nat.le_of_ble_eq_true rfl) ?_
  refine x_CI.mono h (fun τ2 v h => ?_)
  exact L_eq (off := 28) 1184 (by decide +kernel) (by decide) h.1 h.2
set_option maxRecDepth 20000 in
theorem L_case_37 {Ln : Nat} {xs : Nat → Int32} {i : Int32} {τ : x_T} (h1 : vp_in (i + 1) Ln) (h : x_CI 2000 mX11_about [.ref 0, .int (xs (i + 1).toNatClampNeg)] τ (fun τ1 u => x_CI 2000 mX12_about [.ref 345, .int (xs (i + 1).toNatClampNeg)] τ1 (fun τ2 v => u = v ∧ x_Lj Ln xs 376 1184 [(1, .ref 0), (2, .ref 345), (3, .int i)] [] (x_fu τ2)))) : x_Lj Ln xs 376 1161 [(1, .ref 0), (2, .ref 345), (3, .int i)] [] (x_fu τ) := by
  refine L_aload (k := 1) 0 (by decide +kernel) rfl ?_
  refine L_arg (i := i) (n := 1) (v := 1) 2 (by decide +kernel) (by decide +kernel) (by decide +kernel) (by decide +kernel) (by decide +kernel) rfl (by decide) h1 ?_
  refine L_callF (μ' := mX11_about) (i := 170) (vs := [.int (xs (i + 1).toNatClampNeg)]) (by decide +kernel) ll_1347 vok_mX11_about sh_0 rfl rfl rfl rfl (Nat.le_of_ble_eq_true rfl) ?_
  refine x_CI.mono h (fun τ1 u h => ?_)
  refine L_aload (k := 2) 1 (by decide +kernel) rfl ?_
  refine L_arg (i := i) (n := 1) (v := 1) 2 (by decide +kernel) (by decide +kernel) (by decide +kernel) (by decide +kernel) (by decide +kernel) rfl (by decide) h1 ?_
  refine L_callF (μ' := mX12_about) (i := 173) (vs := [.int (xs (i + 1).toNatClampNeg)]) (by decide +kernel) ll_1974 vok_mX12_about sh_345 rfl rfl rfl rfl (Nat.le_of_ble_eq_true rfl) ?_
  refine x_CI.mono h (fun τ2 v h => ?_)
  exact L_eq (off := 5) 1184 (by decide +kernel) (by decide) h.1 h.2
