theorem ini_X11 : Cond.initialized "NoonOnABarrow" ∈ x_tb := x_tb_in (List.mem_of_getElem? (i := 115) (by decide +kernel)) (by decide +kernel)
theorem ini_X0 : Cond.initialized "NoonOnABarrow$Counsel" ∈ x_tb := x_tb_in (List.mem_of_getElem? (i := 126) (by decide +kernel)) (by decide +kernel)
theorem ini_X1 : Cond.initialized "NoonOnABarrow$Day" ∈ x_tb := x_tb_in (List.mem_of_getElem? (i := 118) (by decide +kernel)) (by decide +kernel)
theorem ini_X2 : Cond.initialized "NoonOnABarrow$Doings" ∈ x_tb := x_tb_in (List.mem_of_getElem? (i := 124) (by decide +kernel)) (by decide +kernel)
theorem ini_X3 : Cond.initialized "NoonOnABarrow$Land" ∈ x_tb := x_tb_in (List.mem_of_getElem? (i := 116) (by decide +kernel)) (by decide +kernel)
theorem ini_X4 : Cond.initialized "NoonOnABarrow$Laws" ∈ x_tb := x_tb_in (List.mem_of_getElem? (i := 123) (by decide +kernel)) (by decide +kernel)
theorem ini_X5 : Cond.initialized "NoonOnABarrow$Pairs" ∈ x_tb := x_tb_in (List.mem_of_getElem? (i := 117) (by decide +kernel)) (by decide +kernel)
theorem ini_X6 : Cond.initialized "NoonOnABarrow$Reader" ∈ x_tb := x_tb_in (List.mem_of_getElem? (i := 122) (by decide +kernel)) (by decide +kernel)
theorem ini_X7 : Cond.initialized "NoonOnABarrow$Steps" ∈ x_tb := x_tb_in (List.mem_of_getElem? (i := 119) (by decide +kernel)) (by decide +kernel)
theorem ini_X8 : Cond.initialized "NoonOnABarrow$Tape" ∈ x_tb := x_tb_in (List.mem_of_getElem? (i := 121) (by decide +kernel)) (by decide +kernel)
theorem ini_X9 : Cond.initialized "NoonOnABarrow$Text" ∈ x_tb := x_tb_in (List.mem_of_getElem? (i := 120) (by decide +kernel)) (by decide +kernel)
theorem ini_X10 : Cond.initialized "NoonOnABarrow$Ways" ∈ x_tb := x_tb_in (List.mem_of_getElem? (i := 125) (by decide +kernel)) (by decide +kernel)
theorem ini_X12 : Cond.initialized "NoonOnABarrowModel" ∈ x_tb := x_tb_in (List.mem_of_getElem? (i := 127) (by decide +kernel)) (by decide +kernel)
theorem ini_J6 : Cond.initialized "java/lang/Integer" ∈ x_tb := x_tb_in (List.mem_of_getElem? (i := 135) (by decide +kernel)) (by decide +kernel)
theorem lm_max : Cond.static Lib.Math.max.name ∈ x_tb ∧ Cond.initialized "java/lang/Math" ∈ x_tb ∧ Cond.code Lib.Math.max.name Lib.Math.max.code 2 (some .int) ∈ x_tb := ⟨x_tb_in (List.mem_of_getElem? (i := 638) (by decide +kernel)) (by decide +kernel), x_tb_in (List.mem_of_getElem? (i := 128) (by decide +kernel)) (by decide +kernel), x_tb_in (List.mem_of_getElem? (i := 639) (by decide +kernel)) (by decide +kernel)⟩
theorem lm_min : Cond.static Lib.Math.min.name ∈ x_tb ∧ Cond.initialized "java/lang/Math" ∈ x_tb ∧ Cond.code Lib.Math.min.name Lib.Math.min.code 2 (some .int) ∈ x_tb := ⟨x_tb_in (List.mem_of_getElem? (i := 562) (by decide +kernel)) (by decide +kernel), x_tb_in (List.mem_of_getElem? (i := 128) (by decide +kernel)) (by decide +kernel), x_tb_in (List.mem_of_getElem? (i := 563) (by decide +kernel)) (by decide +kernel)⟩
theorem lm_abs : Cond.static Lib.Math.abs.name ∈ x_tb ∧ Cond.initialized "java/lang/Math" ∈ x_tb ∧ Cond.code Lib.Math.abs.name Lib.Math.abs.code 1 (some .int) ∈ x_tb := ⟨x_tb_in (List.mem_of_getElem? (i := 744) (by decide +kernel)) (by decide +kernel), x_tb_in (List.mem_of_getElem? (i := 128) (by decide +kernel)) (by decide +kernel), x_tb_in (List.mem_of_getElem? (i := 745) (by decide +kernel)) (by decide +kernel)⟩
theorem lm_copy : Cond.native arraycopyName ∈ x_tb ∧ Cond.static arraycopyName ∈ x_tb ∧ Cond.initialized "java/lang/System" ∈ x_tb := ⟨x_tb_in (List.mem_of_getElem? (i := 615) (by decide +kernel)) (by decide +kernel), x_tb_in (List.mem_of_getElem? (i := 614) (by decide +kernel)) (by decide +kernel), x_tb_in (List.mem_of_getElem? (i := 129) (by decide +kernel)) (by decide +kernel)⟩
set_option maxRecDepth 100000 in
theorem cok_mJ6_bitCount_0f7a4 : x_cok mJ6_bitCount_0f7a4 1 := ⟨ini_J6, x_tb_in (List.mem_of_getElem? (i := 1317) rfl) rfl, ⟨by decide, by decide, by decide +kernel⟩, by decide⟩
theorem stt_mJ6_bitCount_0f7a4 : Cond.static mJ6_bitCount_0f7a4.1 ∈ x_tb := x_tb_in (List.mem_of_getElem? (i := 1316) (by decide +kernel)) (by decide +kernel)
set_option maxRecDepth 100000 in
theorem cok_mX0_answersAt : x_cok mX0_answersAt 3 := ⟨ini_X0, x_tb_in (List.mem_of_getElem? (i := 1289) rfl) rfl, ⟨by decide, by decide, by decide +kernel⟩, by decide⟩
theorem vok_mX0_answersAt : x_vok mX0_answersAt 3 := ⟨cok_mX0_answersAt, x_tb_in (List.mem_of_getElem? (i := 1288) (by decide +kernel)) (by decide +kernel), x_tb_in (List.mem_of_getElem? (i := 49) (by decide +kernel)) (by decide +kernel), rfl⟩
set_option maxRecDepth 100000 in
theorem cok_mX0_beats : x_cok mX0_beats 2 := ⟨ini_X0, x_tb_in (List.mem_of_getElem? (i := 1224) rfl) rfl, ⟨by decide, by decide, by decide +kernel⟩, by decide⟩
theorem vok_mX0_beats : x_vok mX0_beats 2 := ⟨cok_mX0_beats, x_tb_in (List.mem_of_getElem? (i := 1223) (by decide +kernel)) (by decide +kernel), x_tb_in (List.mem_of_getElem? (i := 44) (by decide +kernel)) (by decide +kernel), rfl⟩
set_option maxRecDepth 100000 in
theorem cok_mX0_beatsAll : x_cok mX0_beatsAll 1 := ⟨ini_X0, x_tb_in (List.mem_of_getElem? (i := 1220) rfl) rfl, ⟨by decide, by decide, by decide +kernel⟩, by decide⟩
theorem vok_mX0_beatsAll : x_vok mX0_beatsAll 1 := ⟨cok_mX0_beatsAll, x_tb_in (List.mem_of_getElem? (i := 1219) (by decide +kernel)) (by decide +kernel), x_tb_in (List.mem_of_getElem? (i := 43) (by decide +kernel)) (by decide +kernel), rfl⟩
set_option maxRecDepth 100000 in
theorem cok_mX0_bestWatch : x_cok mX0_bestWatch 2 := ⟨ini_X0, x_tb_in (List.mem_of_getElem? (i := 1310) rfl) rfl, ⟨by decide, by decide, by decide +kernel⟩, by decide⟩
theorem vok_mX0_bestWatch : x_vok mX0_bestWatch 2 := ⟨cok_mX0_bestWatch, x_tb_in (List.mem_of_getElem? (i := 1308) (by decide +kernel)) (by decide +kernel), x_tb_in (List.mem_of_getElem? (i := 1309) (by decide +kernel)) (by decide +kernel), rfl⟩
set_option maxRecDepth 100000 in
theorem cok_mX0_fairTurn : x_cok mX0_fairTurn 1 := ⟨ini_X0, x_tb_in (List.mem_of_getElem? (i := 1251) rfl) rfl, ⟨by decide, by decide, by decide +kernel⟩, by decide⟩
theorem vok_mX0_fairTurn : x_vok mX0_fairTurn 1 := ⟨cok_mX0_fairTurn, x_tb_in (List.mem_of_getElem? (i := 1249) (by decide +kernel)) (by decide +kernel), x_tb_in (List.mem_of_getElem? (i := 1250) (by decide +kernel)) (by decide +kernel), rfl⟩
set_option maxRecDepth 100000 in
theorem cok_mX0_farthestFromNoon : x_cok mX0_farthestFromNoon 1 := ⟨ini_X0, x_tb_in (List.mem_of_getElem? (i := 1301) rfl) rfl, ⟨by decide, by decide, by decide +kernel⟩, by decide⟩
theorem vok_mX0_farthestFromNoon : x_vok mX0_farthestFromNoon 1 := ⟨cok_mX0_farthestFromNoon, x_tb_in (List.mem_of_getElem? (i := 1299) (by decide +kernel)) (by decide +kernel), x_tb_in (List.mem_of_getElem? (i := 1300) (by decide +kernel)) (by decide +kernel), rfl⟩
set_option maxRecDepth 100000 in
theorem cok_mX0_fits : x_cok mX0_fits 1 := ⟨ini_X0, x_tb_in (List.mem_of_getElem? (i := 1149) rfl) rfl, ⟨by decide, by decide, by decide +kernel⟩, by decide⟩
theorem vok_mX0_fits : x_vok mX0_fits 1 := ⟨cok_mX0_fits, x_tb_in (List.mem_of_getElem? (i := 1148) (by decide +kernel)) (by decide +kernel), x_tb_in (List.mem_of_getElem? (i := 35) (by decide +kernel)) (by decide +kernel), rfl⟩
set_option maxRecDepth 100000 in
theorem cok_mX0_isRow : x_cok mX0_isRow 2 := ⟨ini_X0, x_tb_in (List.mem_of_getElem? (i := 1237) rfl) rfl, ⟨by decide, by decide, by decide +kernel⟩, by decide⟩
theorem vok_mX0_isRow : x_vok mX0_isRow 2 := ⟨cok_mX0_isRow, x_tb_in (List.mem_of_getElem? (i := 1236) (by decide +kernel)) (by decide +kernel), x_tb_in (List.mem_of_getElem? (i := 45) (by decide +kernel)) (by decide +kernel), rfl⟩
set_option maxRecDepth 100000 in
theorem cok_mX0_isServedLess : x_cok mX0_isServedLess 2 := ⟨ini_X0, x_tb_in (List.mem_of_getElem? (i := 1259) rfl) rfl, ⟨by decide, by decide, by decide +kernel⟩, by decide⟩
theorem vok_mX0_isServedLess : x_vok mX0_isServedLess 2 := ⟨cok_mX0_isServedLess, x_tb_in (List.mem_of_getElem? (i := 1258) (by decide +kernel)) (by decide +kernel), x_tb_in (List.mem_of_getElem? (i := 47) (by decide +kernel)) (by decide +kernel), rfl⟩
set_option maxRecDepth 100000 in
theorem cok_mX0_leastServed : x_cok mX0_leastServed 0 := ⟨ini_X0, x_tb_in (List.mem_of_getElem? (i := 1255) rfl) rfl, ⟨by decide, by decide, by decide +kernel⟩, by decide⟩
theorem vok_mX0_leastServed : x_vok mX0_leastServed 0 := ⟨cok_mX0_leastServed, x_tb_in (List.mem_of_getElem? (i := 1254) (by decide +kernel)) (by decide +kernel), x_tb_in (List.mem_of_getElem? (i := 46) (by decide +kernel)) (by decide +kernel), rfl⟩
set_option maxRecDepth 100000 in
theorem cok_mX0_leftOfRow : x_cok mX0_leftOfRow 2 := ⟨ini_X0, x_tb_in (List.mem_of_getElem? (i := 1233) rfl) rfl, ⟨by decide, by decide, by decide +kernel⟩, by decide⟩
theorem vok_mX0_leftOfRow : x_vok mX0_leftOfRow 2 := ⟨cok_mX0_leftOfRow, x_tb_in (List.mem_of_getElem? (i := 1231) (by decide +kernel)) (by decide +kernel), x_tb_in (List.mem_of_getElem? (i := 1232) (by decide +kernel)) (by decide +kernel), rfl⟩
set_option maxRecDepth 100000 in
theorem cok_mX0_mayBeAt : x_cok mX0_mayBeAt 2 := ⟨ini_X0, x_tb_in (List.mem_of_getElem? (i := 1275) rfl) rfl, ⟨by decide, by decide, by decide +kernel⟩, by decide⟩
theorem vok_mX0_mayBeAt : x_vok mX0_mayBeAt 2 := ⟨cok_mX0_mayBeAt, x_tb_in (List.mem_of_getElem? (i := 1274) (by decide +kernel)) (by decide +kernel), x_tb_in (List.mem_of_getElem? (i := 48) (by decide +kernel)) (by decide +kernel), rfl⟩
set_option maxRecDepth 100000 in
theorem cok_mX0_nearBits : x_cok mX0_nearBits 2 := ⟨ini_X0, x_tb_in (List.mem_of_getElem? (i := 1314) rfl) rfl, ⟨by decide, by decide, by decide +kernel⟩, by decide⟩
theorem vok_mX0_nearBits : x_vok mX0_nearBits 2 := ⟨cok_mX0_nearBits, x_tb_in (List.mem_of_getElem? (i := 1313) (by decide +kernel)) (by decide +kernel), x_tb_in (List.mem_of_getElem? (i := 51) (by decide +kernel)) (by decide +kernel), rfl⟩
set_option maxRecDepth 100000 in
theorem cok_mX0_placesFitting : x_cok mX0_placesFitting 0 := ⟨ini_X0, x_tb_in (List.mem_of_getElem? (i := 1145) rfl) rfl, ⟨by decide, by decide, by decide +kernel⟩, by decide⟩
theorem vok_mX0_placesFitting : x_vok mX0_placesFitting 0 := ⟨cok_mX0_placesFitting, x_tb_in (List.mem_of_getElem? (i := 1143) (by decide +kernel)) (by decide +kernel), x_tb_in (List.mem_of_getElem? (i := 1144) (by decide +kernel)) (by decide +kernel), rfl⟩
set_option maxRecDepth 100000 in
theorem cok_mX0_placesInFog : x_cok mX0_placesInFog 1 := ⟨ini_X0, x_tb_in (List.mem_of_getElem? (i := 1271) rfl) rfl, ⟨by decide, by decide, by decide +kernel⟩, by decide⟩
theorem vok_mX0_placesInFog : x_vok mX0_placesInFog 1 := ⟨cok_mX0_placesInFog, x_tb_in (List.mem_of_getElem? (i := 1269) (by decide +kernel)) (by decide +kernel), x_tb_in (List.mem_of_getElem? (i := 1270) (by decide +kernel)) (by decide +kernel), rfl⟩
set_option maxRecDepth 100000 in
theorem cok_mX0_voted : x_cok mX0_voted 0 := ⟨ini_X0, x_tb_in (List.mem_of_getElem? (i := 1216) rfl) rfl, ⟨by decide, by decide, by decide +kernel⟩, by decide⟩
theorem vok_mX0_voted : x_vok mX0_voted 0 := ⟨cok_mX0_voted, x_tb_in (List.mem_of_getElem? (i := 1214) (by decide +kernel)) (by decide +kernel), x_tb_in (List.mem_of_getElem? (i := 1215) (by decide +kernel)) (by decide +kernel), rfl⟩
set_option maxRecDepth 100000 in
theorem cok_mX0_watchedBy : x_cok mX0_watchedBy 1 := ⟨ini_X0, x_tb_in (List.mem_of_getElem? (i := 1324) rfl) rfl, ⟨by decide, by decide, by decide +kernel⟩, by decide⟩
theorem vok_mX0_watchedBy : x_vok mX0_watchedBy 1 := ⟨cok_mX0_watchedBy, x_tb_in (List.mem_of_getElem? (i := 1323) (by decide +kernel)) (by decide +kernel), x_tb_in (List.mem_of_getElem? (i := 52) (by decide +kernel)) (by decide +kernel), rfl⟩
set_option maxRecDepth 100000 in
theorem cok_mX0_withAnswer : x_cok mX0_withAnswer 2 := ⟨ini_X0, x_tb_in (List.mem_of_getElem? (i := 1293) rfl) rfl, ⟨by decide, by decide, by decide +kernel⟩, by decide⟩
theorem vok_mX0_withAnswer : x_vok mX0_withAnswer 2 := ⟨cok_mX0_withAnswer, x_tb_in (List.mem_of_getElem? (i := 1292) (by decide +kernel)) (by decide +kernel), x_tb_in (List.mem_of_getElem? (i := 50) (by decide +kernel)) (by decide +kernel), rfl⟩
set_option maxRecDepth 100000 in
theorem cok_mX0_yardToFeel : x_cok mX0_yardToFeel 1 := ⟨ini_X0, x_tb_in (List.mem_of_getElem? (i := 1284) rfl) rfl, ⟨by decide, by decide, by decide +kernel⟩, by decide⟩
theorem vok_mX0_yardToFeel : x_vok mX0_yardToFeel 1 := ⟨cok_mX0_yardToFeel, x_tb_in (List.mem_of_getElem? (i := 1282) (by decide +kernel)) (by decide +kernel), x_tb_in (List.mem_of_getElem? (i := 1283) (by decide +kernel)) (by decide +kernel), rfl⟩
set_option maxRecDepth 100000 in
theorem cok_mX10_askCosts : x_cok mX10_askCosts 2 := ⟨ini_X10, x_tb_in (List.mem_of_getElem? (i := 1193) rfl) rfl, ⟨by decide, by decide, by decide +kernel⟩, by decide⟩
theorem vok_mX10_askCosts : x_vok mX10_askCosts 2 := ⟨cok_mX10_askCosts, x_tb_in (List.mem_of_getElem? (i := 1192) (by decide +kernel)) (by decide +kernel), x_tb_in (List.mem_of_getElem? (i := 40) (by decide +kernel)) (by decide +kernel), rfl⟩
set_option maxRecDepth 100000 in
theorem cok_mX10_comeTo : x_cok mX10_comeTo 3 := ⟨ini_X10, x_tb_in (List.mem_of_getElem? (i := 1163) rfl) rfl, ⟨by decide, by decide, by decide +kernel⟩, by decide⟩
theorem vok_mX10_comeTo : x_vok mX10_comeTo 3 := ⟨cok_mX10_comeTo, x_tb_in (List.mem_of_getElem? (i := 1162) (by decide +kernel)) (by decide +kernel), x_tb_in (List.mem_of_getElem? (i := 36) (by decide +kernel)) (by decide +kernel), rfl⟩
set_option maxRecDepth 100000 in
theorem cok_mX10_goOnFrom : x_cok mX10_goOnFrom 1 := ⟨ini_X10, x_tb_in (List.mem_of_getElem? (i := 1176) rfl) rfl, ⟨by decide, by decide, by decide +kernel⟩, by decide⟩
theorem vok_mX10_goOnFrom : x_vok mX10_goOnFrom 1 := ⟨cok_mX10_goOnFrom, x_tb_in (List.mem_of_getElem? (i := 1175) (by decide +kernel)) (by decide +kernel), x_tb_in (List.mem_of_getElem? (i := 39) (by decide +kernel)) (by decide +kernel), rfl⟩
set_option maxRecDepth 100000 in
theorem cok_mX10_lanesBehind : x_cok mX10_lanesBehind 1 := ⟨ini_X10, x_tb_in (List.mem_of_getElem? (i := 1168) rfl) rfl, ⟨by decide, by decide, by decide +kernel⟩, by decide⟩
theorem vok_mX10_lanesBehind : x_vok mX10_lanesBehind 1 := ⟨cok_mX10_lanesBehind, x_tb_in (List.mem_of_getElem? (i := 1167) (by decide +kernel)) (by decide +kernel), x_tb_in (List.mem_of_getElem? (i := 37) (by decide +kernel)) (by decide +kernel), rfl⟩
set_option maxRecDepth 100000 in
theorem cok_mX10_leastHouse : x_cok mX10_leastHouse 1 := ⟨ini_X10, x_tb_in (List.mem_of_getElem? (i := 1208) rfl) rfl, ⟨by decide, by decide, by decide +kernel⟩, by decide⟩
theorem vok_mX10_leastHouse : x_vok mX10_leastHouse 1 := ⟨cok_mX10_leastHouse, x_tb_in (List.mem_of_getElem? (i := 1206) (by decide +kernel)) (by decide +kernel), x_tb_in (List.mem_of_getElem? (i := 1207) (by decide +kernel)) (by decide +kernel), rfl⟩
set_option maxRecDepth 100000 in
theorem cok_mX10_lowerRest : x_cok mX10_lowerRest 1 := ⟨ini_X10, x_tb_in (List.mem_of_getElem? (i := 1199) rfl) rfl, ⟨by decide, by decide, by decide +kernel⟩, by decide⟩
theorem vok_mX10_lowerRest : x_vok mX10_lowerRest 1 := ⟨cok_mX10_lowerRest, x_tb_in (List.mem_of_getElem? (i := 1198) (by decide +kernel)) (by decide +kernel), x_tb_in (List.mem_of_getElem? (i := 41) (by decide +kernel)) (by decide +kernel), rfl⟩
set_option maxRecDepth 100000 in
theorem cok_mX10_lowestNext : x_cok mX10_lowestNext 1 := ⟨ini_X10, x_tb_in (List.mem_of_getElem? (i := 1204) rfl) rfl, ⟨by decide, by decide, by decide +kernel⟩, by decide⟩
theorem vok_mX10_lowestNext : x_vok mX10_lowestNext 1 := ⟨cok_mX10_lowestNext, x_tb_in (List.mem_of_getElem? (i := 1203) (by decide +kernel)) (by decide +kernel), x_tb_in (List.mem_of_getElem? (i := 42) (by decide +kernel)) (by decide +kernel), rfl⟩
set_option maxRecDepth 100000 in
theorem cok_mX10_placeAhead : x_cok mX10_placeAhead 1 := ⟨ini_X10, x_tb_in (List.mem_of_getElem? (i := 1172) rfl) rfl, ⟨by decide, by decide, by decide +kernel⟩, by decide⟩
theorem vok_mX10_placeAhead : x_vok mX10_placeAhead 1 := ⟨cok_mX10_placeAhead, x_tb_in (List.mem_of_getElem? (i := 1171) (by decide +kernel)) (by decide +kernel), x_tb_in (List.mem_of_getElem? (i := 38) (by decide +kernel)) (by decide +kernel), rfl⟩
set_option maxRecDepth 100000 in
theorem cok_mX10_routeHouse : x_cok mX10_routeHouse 1 := ⟨ini_X10, x_tb_in (List.mem_of_getElem? (i := 1181) rfl) rfl, ⟨by decide, by decide, by decide +kernel⟩, by decide⟩
theorem vok_mX10_routeHouse : x_vok mX10_routeHouse 1 := ⟨cok_mX10_routeHouse, x_tb_in (List.mem_of_getElem? (i := 1179) (by decide +kernel)) (by decide +kernel), x_tb_in (List.mem_of_getElem? (i := 1180) (by decide +kernel)) (by decide +kernel), rfl⟩
set_option maxRecDepth 100000 in
theorem cok_mX10_seekLeast : x_cok mX10_seekLeast 3 := ⟨ini_X10, x_tb_in (List.mem_of_getElem? (i := 1189) rfl) rfl, ⟨by decide, by decide, by decide +kernel⟩, by decide⟩
theorem vok_mX10_seekLeast : x_vok mX10_seekLeast 3 := ⟨cok_mX10_seekLeast, x_tb_in (List.mem_of_getElem? (i := 1187) (by decide +kernel)) (by decide +kernel), x_tb_in (List.mem_of_getElem? (i := 1188) (by decide +kernel)) (by decide +kernel), rfl⟩
set_option maxRecDepth 100000 in
theorem cok_mX10_seekRoute : x_cok mX10_seekRoute 1 := ⟨ini_X10, x_tb_in (List.mem_of_getElem? (i := 1158) rfl) rfl, ⟨by decide, by decide, by decide +kernel⟩, by decide⟩
theorem vok_mX10_seekRoute : x_vok mX10_seekRoute 1 := ⟨cok_mX10_seekRoute, x_tb_in (List.mem_of_getElem? (i := 1156) (by decide +kernel)) (by decide +kernel), x_tb_in (List.mem_of_getElem? (i := 1157) (by decide +kernel)) (by decide +kernel), rfl⟩
set_option maxRecDepth 100000 in
theorem cok_mX11_about : x_cok mX11_about 1 := ⟨ini_X11, x_tb_in (List.mem_of_getElem? (i := 1350) rfl) rfl, ⟨by decide, by decide, by decide +kernel⟩, by decide⟩
theorem vok_mX11_about : x_vok mX11_about 1 := ⟨cok_mX11_about, x_tb_in (List.mem_of_getElem? (i := 1348) (by decide +kernel)) (by decide +kernel), x_tb_in (List.mem_of_getElem? (i := 1349) (by decide +kernel)) (by decide +kernel), rfl⟩
set_option maxRecDepth 100000 in
theorem cok_mX11_agenda : x_cok mX11_agenda 2 := ⟨ini_X11, x_tb_in (List.mem_of_getElem? (i := 1229) rfl) rfl, ⟨by decide, by decide, by decide +kernel⟩, by decide⟩
theorem vok_mX11_agenda : x_vok mX11_agenda 2 := ⟨cok_mX11_agenda, x_tb_in (List.mem_of_getElem? (i := 1227) (by decide +kernel)) (by decide +kernel), x_tb_in (List.mem_of_getElem? (i := 1228) (by decide +kernel)) (by decide +kernel), rfl⟩
set_option maxRecDepth 100000 in
theorem cok_mX11_arrives : x_cok mX11_arrives 0 := ⟨ini_X11, x_tb_in (List.mem_of_getElem? (i := 1128) rfl) rfl, ⟨by decide, by decide, by decide +kernel⟩, by decide⟩
theorem vok_mX11_arrives : x_vok mX11_arrives 0 := ⟨cok_mX11_arrives, x_tb_in (List.mem_of_getElem? (i := 1126) (by decide +kernel)) (by decide +kernel), x_tb_in (List.mem_of_getElem? (i := 1127) (by decide +kernel)) (by decide +kernel), rfl⟩
set_option maxRecDepth 100000 in
theorem cok_mX11_back : x_cok mX11_back 0 := ⟨ini_X11, x_tb_in (List.mem_of_getElem? (i := 1346) rfl) rfl, ⟨by decide, by decide, by decide +kernel⟩, by decide⟩
theorem vok_mX11_back : x_vok mX11_back 0 := ⟨cok_mX11_back, x_tb_in (List.mem_of_getElem? (i := 1344) (by decide +kernel)) (by decide +kernel), x_tb_in (List.mem_of_getElem? (i := 1345) (by decide +kernel)) (by decide +kernel), rfl⟩
set_option maxRecDepth 100000 in
theorem cok_mX11_barrow : x_cok mX11_barrow 1 := ⟨ini_X11, x_tb_in (List.mem_of_getElem? (i := 1104) rfl) rfl, ⟨by decide, by decide, by decide +kernel⟩, by decide⟩
theorem vok_mX11_barrow : x_vok mX11_barrow 1 := ⟨cok_mX11_barrow, x_tb_in (List.mem_of_getElem? (i := 1102) (by decide +kernel)) (by decide +kernel), x_tb_in (List.mem_of_getElem? (i := 1103) (by decide +kernel)) (by decide +kernel), rfl⟩
set_option maxRecDepth 100000 in
theorem cok_mX11_book : x_cok mX11_book 2 := ⟨ini_X11, x_tb_in (List.mem_of_getElem? (i := 1115) rfl) rfl, ⟨by decide, by decide, by decide +kernel⟩, by decide⟩
theorem vok_mX11_book : x_vok mX11_book 2 := ⟨cok_mX11_book, x_tb_in (List.mem_of_getElem? (i := 1113) (by decide +kernel)) (by decide +kernel), x_tb_in (List.mem_of_getElem? (i := 1114) (by decide +kernel)) (by decide +kernel), rfl⟩
set_option maxRecDepth 100000 in
theorem cok_mX11_by : x_cok mX11_by 1 := ⟨ini_X11, x_tb_in (List.mem_of_getElem? (i := 1050) rfl) rfl, ⟨by decide, by decide, by decide +kernel⟩, by decide⟩
theorem vok_mX11_by : x_vok mX11_by 1 := ⟨cok_mX11_by, x_tb_in (List.mem_of_getElem? (i := 1048) (by decide +kernel)) (by decide +kernel), x_tb_in (List.mem_of_getElem? (i := 1049) (by decide +kernel)) (by decide +kernel), rfl⟩
set_option maxRecDepth 100000 in
theorem cok_mX11_end : x_cok mX11_end 1 := ⟨ini_X11, x_tb_in (List.mem_of_getElem? (i := 791) rfl) rfl, ⟨by decide, by decide, by decide +kernel⟩, by decide⟩
theorem vok_mX11_end : x_vok mX11_end 1 := ⟨cok_mX11_end, x_tb_in (List.mem_of_getElem? (i := 789) (by decide +kernel)) (by decide +kernel), x_tb_in (List.mem_of_getElem? (i := 790) (by decide +kernel)) (by decide +kernel), rfl⟩
set_option maxRecDepth 100000 in
theorem cok_mX11_fair : x_cok mX11_fair 1 := ⟨ini_X11, x_tb_in (List.mem_of_getElem? (i := 1247) rfl) rfl, ⟨by decide, by decide, by decide +kernel⟩, by decide⟩
theorem vok_mX11_fair : x_vok mX11_fair 1 := ⟨cok_mX11_fair, x_tb_in (List.mem_of_getElem? (i := 1245) (by decide +kernel)) (by decide +kernel), x_tb_in (List.mem_of_getElem? (i := 1246) (by decide +kernel)) (by decide +kernel), rfl⟩
set_option maxRecDepth 100000 in
theorem cok_mX11_fault : x_cok mX11_fault 1 := ⟨ini_X11, x_tb_in (List.mem_of_getElem? (i := 1046) rfl) rfl, ⟨by decide, by decide, by decide +kernel⟩, by decide⟩
theorem vok_mX11_fault : x_vok mX11_fault 1 := ⟨cok_mX11_fault, x_tb_in (List.mem_of_getElem? (i := 1044) (by decide +kernel)) (by decide +kernel), x_tb_in (List.mem_of_getElem? (i := 1045) (by decide +kernel)) (by decide +kernel), rfl⟩
set_option maxRecDepth 100000 in
theorem cok_mX11_feed : x_cok mX11_feed 5 := ⟨ini_X11, x_tb_in (List.mem_of_getElem? (i := 783) rfl) rfl, ⟨by decide, by decide, by decide +kernel⟩, by decide⟩
theorem vok_mX11_feed : x_vok mX11_feed 5 := ⟨cok_mX11_feed, x_tb_in (List.mem_of_getElem? (i := 781) (by decide +kernel)) (by decide +kernel), x_tb_in (List.mem_of_getElem? (i := 782) (by decide +kernel)) (by decide +kernel), rfl⟩
set_option maxRecDepth 100000 in
theorem cok_mX11_feel : x_cok mX11_feel 2 := ⟨ini_X11, x_tb_in (List.mem_of_getElem? (i := 1263) rfl) rfl, ⟨by decide, by decide, by decide +kernel⟩, by decide⟩
theorem vok_mX11_feel : x_vok mX11_feel 2 := ⟨cok_mX11_feel, x_tb_in (List.mem_of_getElem? (i := 1261) (by decide +kernel)) (by decide +kernel), x_tb_in (List.mem_of_getElem? (i := 1262) (by decide +kernel)) (by decide +kernel), rfl⟩
set_option maxRecDepth 100000 in
theorem cok_mX11_fitting : x_cok mX11_fitting 0 := ⟨ini_X11, x_tb_in (List.mem_of_getElem? (i := 1141) rfl) rfl, ⟨by decide, by decide, by decide +kernel⟩, by decide⟩
theorem vok_mX11_fitting : x_vok mX11_fitting 0 := ⟨cok_mX11_fitting, x_tb_in (List.mem_of_getElem? (i := 1139) (by decide +kernel)) (by decide +kernel), x_tb_in (List.mem_of_getElem? (i := 1140) (by decide +kernel)) (by decide +kernel), rfl⟩
set_option maxRecDepth 100000 in
theorem cok_mX11_foretold : x_cok mX11_foretold 3 := ⟨ini_X11, x_tb_in (List.mem_of_getElem? (i := 1123) rfl) rfl, ⟨by decide, by decide, by decide +kernel⟩, by decide⟩
theorem vok_mX11_foretold : x_vok mX11_foretold 3 := ⟨cok_mX11_foretold, x_tb_in (List.mem_of_getElem? (i := 1121) (by decide +kernel)) (by decide +kernel), x_tb_in (List.mem_of_getElem? (i := 1122) (by decide +kernel)) (by decide +kernel), rfl⟩
set_option maxRecDepth 100000 in
theorem cok_mX11_hard : x_cok mX11_hard 3 := ⟨ini_X11, x_tb_in (List.mem_of_getElem? (i := 1109) rfl) rfl, ⟨by decide, by decide, by decide +kernel⟩, by decide⟩
theorem vok_mX11_hard : x_vok mX11_hard 3 := ⟨cok_mX11_hard, x_tb_in (List.mem_of_getElem? (i := 1107) (by decide +kernel)) (by decide +kernel), x_tb_in (List.mem_of_getElem? (i := 1108) (by decide +kernel)) (by decide +kernel), rfl⟩
set_option maxRecDepth 100000 in
theorem cok_mX11_held : x_cok mX11_held 3 := ⟨ini_X11, x_tb_in (List.mem_of_getElem? (i := 691) rfl) rfl, ⟨by decide, by decide, by decide +kernel⟩, by decide⟩
theorem stt_mX11_held : Cond.static mX11_held.1 ∈ x_tb := x_tb_in (List.mem_of_getElem? (i := 690) (by decide +kernel)) (by decide +kernel)
set_option maxRecDepth 100000 in
theorem cok_mX11_house : x_cok mX11_house 1 := ⟨ini_X11, x_tb_in (List.mem_of_getElem? (i := 548) rfl) rfl, ⟨by decide, by decide, by decide +kernel⟩, by decide⟩
theorem vok_mX11_house : x_vok mX11_house 1 := ⟨cok_mX11_house, x_tb_in (List.mem_of_getElem? (i := 546) (by decide +kernel)) (by decide +kernel), x_tb_in (List.mem_of_getElem? (i := 547) (by decide +kernel)) (by decide +kernel), rfl⟩
set_option maxRecDepth 100000 in
theorem cok_mX11_image : x_cok mX11_image 0 := ⟨ini_X11, x_tb_in (List.mem_of_getElem? (i := 1328) rfl) rfl, ⟨by decide, by decide, by decide +kernel⟩, by decide⟩
theorem vok_mX11_image : x_vok mX11_image 0 := ⟨cok_mX11_image, x_tb_in (List.mem_of_getElem? (i := 1326) (by decide +kernel)) (by decide +kernel), x_tb_in (List.mem_of_getElem? (i := 1327) (by decide +kernel)) (by decide +kernel), rfl⟩
set_option maxRecDepth 100000 in
theorem cok_mX11_isDone : x_cok mX11_isDone 2 := ⟨ini_X11, x_tb_in (List.mem_of_getElem? (i := 1066) rfl) rfl, ⟨by decide, by decide, by decide +kernel⟩, by decide⟩
theorem vok_mX11_isDone : x_vok mX11_isDone 2 := ⟨cok_mX11_isDone, x_tb_in (List.mem_of_getElem? (i := 1065) (by decide +kernel)) (by decide +kernel), x_tb_in (List.mem_of_getElem? (i := 34) (by decide +kernel)) (by decide +kernel), rfl⟩
set_option maxRecDepth 100000 in
theorem cok_mX11_lane : x_cok mX11_lane 3 := ⟨ini_X11, x_tb_in (List.mem_of_getElem? (i := 567) rfl) rfl, ⟨by decide, by decide, by decide +kernel⟩, by decide⟩
theorem vok_mX11_lane : x_vok mX11_lane 3 := ⟨cok_mX11_lane, x_tb_in (List.mem_of_getElem? (i := 565) (by decide +kernel)) (by decide +kernel), x_tb_in (List.mem_of_getElem? (i := 566) (by decide +kernel)) (by decide +kernel), rfl⟩
set_option maxRecDepth 100000 in
theorem cok_mX11_least : x_cok mX11_least 3 := ⟨ini_X11, x_tb_in (List.mem_of_getElem? (i := 1185) rfl) rfl, ⟨by decide, by decide, by decide +kernel⟩, by decide⟩
theorem vok_mX11_least : x_vok mX11_least 3 := ⟨cok_mX11_least, x_tb_in (List.mem_of_getElem? (i := 1183) (by decide +kernel)) (by decide +kernel), x_tb_in (List.mem_of_getElem? (i := 1184) (by decide +kernel)) (by decide +kernel), rfl⟩
set_option maxRecDepth 100000 in
theorem cok_mX11_letRule : x_cok mX11_letRule 1 := ⟨ini_X11, x_tb_in (List.mem_of_getElem? (i := 1058) rfl) rfl, ⟨by decide, by decide, by decide +kernel⟩, by decide⟩
theorem vok_mX11_letRule : x_vok mX11_letRule 1 := ⟨cok_mX11_letRule, x_tb_in (List.mem_of_getElem? (i := 1057) (by decide +kernel)) (by decide +kernel), x_tb_in (List.mem_of_getElem? (i := 33) (by decide +kernel)) (by decide +kernel), rfl⟩
set_option maxRecDepth 100000 in
theorem cok_mX11_lost : x_cok mX11_lost 0 := ⟨ini_X11, x_tb_in (List.mem_of_getElem? (i := 1267) rfl) rfl, ⟨by decide, by decide, by decide +kernel⟩, by decide⟩
theorem vok_mX11_lost : x_vok mX11_lost 0 := ⟨cok_mX11_lost, x_tb_in (List.mem_of_getElem? (i := 1265) (by decide +kernel)) (by decide +kernel), x_tb_in (List.mem_of_getElem? (i := 1266) (by decide +kernel)) (by decide +kernel), rfl⟩
set_option maxRecDepth 100000 in
theorem cok_mX11_mend : x_cok mX11_mend 0 := ⟨ini_X11, x_tb_in (List.mem_of_getElem? (i := 710) rfl) rfl, ⟨by decide, by decide, by decide +kernel⟩, by decide⟩
theorem vok_mX11_mend : x_vok mX11_mend 0 := ⟨cok_mX11_mend, x_tb_in (List.mem_of_getElem? (i := 708) (by decide +kernel)) (by decide +kernel), x_tb_in (List.mem_of_getElem? (i := 709) (by decide +kernel)) (by decide +kernel), rfl⟩
set_option maxRecDepth 100000 in
theorem cok_mX11_minute : x_cok mX11_minute 1 := ⟨ini_X11, x_tb_in (List.mem_of_getElem? (i := 714) rfl) rfl, ⟨by decide, by decide, by decide +kernel⟩, by decide⟩
theorem vok_mX11_minute : x_vok mX11_minute 1 := ⟨cok_mX11_minute, x_tb_in (List.mem_of_getElem? (i := 712) (by decide +kernel)) (by decide +kernel), x_tb_in (List.mem_of_getElem? (i := 713) (by decide +kernel)) (by decide +kernel), rfl⟩
set_option maxRecDepth 100000 in
theorem cok_mX11_of : x_cok mX11_of 2 := ⟨ini_X11, x_tb_in (List.mem_of_getElem? (i := 1085) rfl) rfl, ⟨by decide, by decide, by decide +kernel⟩, by decide⟩
theorem vok_mX11_of : x_vok mX11_of 2 := ⟨cok_mX11_of, x_tb_in (List.mem_of_getElem? (i := 1083) (by decide +kernel)) (by decide +kernel), x_tb_in (List.mem_of_getElem? (i := 1084) (by decide +kernel)) (by decide +kernel), rfl⟩
set_option maxRecDepth 100000 in
theorem cok_mX11_played : x_cok mX11_played 1 := ⟨ini_X11, x_tb_in (List.mem_of_getElem? (i := 1062) rfl) rfl, ⟨by decide, by decide, by decide +kernel⟩, by decide⟩
theorem vok_mX11_played : x_vok mX11_played 1 := ⟨cok_mX11_played, x_tb_in (List.mem_of_getElem? (i := 1060) (by decide +kernel)) (by decide +kernel), x_tb_in (List.mem_of_getElem? (i := 1061) (by decide +kernel)) (by decide +kernel), rfl⟩
set_option maxRecDepth 100000 in
theorem cok_mX11_push : x_cok mX11_push 2 := ⟨ini_X11, x_tb_in (List.mem_of_getElem? (i := 588) rfl) rfl, ⟨by decide, by decide, by decide +kernel⟩, by decide⟩
theorem vok_mX11_push : x_vok mX11_push 2 := ⟨cok_mX11_push, x_tb_in (List.mem_of_getElem? (i := 586) (by decide +kernel)) (by decide +kernel), x_tb_in (List.mem_of_getElem? (i := 587) (by decide +kernel)) (by decide +kernel), rfl⟩
set_option maxRecDepth 100000 in
theorem cok_mX11_pusher : x_cok mX11_pusher 1 := ⟨ini_X11, x_tb_in (List.mem_of_getElem? (i := 580) rfl) rfl, ⟨by decide, by decide, by decide +kernel⟩, by decide⟩
theorem vok_mX11_pusher : x_vok mX11_pusher 1 := ⟨cok_mX11_pusher, x_tb_in (List.mem_of_getElem? (i := 578) (by decide +kernel)) (by decide +kernel), x_tb_in (List.mem_of_getElem? (i := 579) (by decide +kernel)) (by decide +kernel), rfl⟩
set_option maxRecDepth 100000 in
theorem cok_mX11_route : x_cok mX11_route 1 := ⟨ini_X11, x_tb_in (List.mem_of_getElem? (i := 1154) rfl) rfl, ⟨by decide, by decide, by decide +kernel⟩, by decide⟩
theorem vok_mX11_route : x_vok mX11_route 1 := ⟨cok_mX11_route, x_tb_in (List.mem_of_getElem? (i := 1152) (by decide +kernel)) (by decide +kernel), x_tb_in (List.mem_of_getElem? (i := 1153) (by decide +kernel)) (by decide +kernel), rfl⟩
set_option maxRecDepth 100000 in
theorem cok_mX11_text : x_cok mX11_text 0 := ⟨ini_X11, x_tb_in (List.mem_of_getElem? (i := 795) rfl) rfl, ⟨by decide, by decide, by decide +kernel⟩, by decide⟩
theorem vok_mX11_text : x_vok mX11_text 0 := ⟨cok_mX11_text, x_tb_in (List.mem_of_getElem? (i := 793) (by decide +kernel)) (by decide +kernel), x_tb_in (List.mem_of_getElem? (i := 794) (by decide +kernel)) (by decide +kernel), rfl⟩
set_option maxRecDepth 100000 in
theorem cok_mX11_textTold : x_cok mX11_textTold 1 := ⟨ini_X11, x_tb_in (List.mem_of_getElem? (i := 1054) rfl) rfl, ⟨by decide, by decide, by decide +kernel⟩, by decide⟩
theorem vok_mX11_textTold : x_vok mX11_textTold 1 := ⟨cok_mX11_textTold, x_tb_in (List.mem_of_getElem? (i := 1053) (by decide +kernel)) (by decide +kernel), x_tb_in (List.mem_of_getElem? (i := 32) (by decide +kernel)) (by decide +kernel), rfl⟩
set_option maxRecDepth 100000 in
theorem cok_mX11_thieves : x_cok mX11_thieves 0 := ⟨ini_X11, x_tb_in (List.mem_of_getElem? (i := 1297) rfl) rfl, ⟨by decide, by decide, by decide +kernel⟩, by decide⟩
theorem vok_mX11_thieves : x_vok mX11_thieves 0 := ⟨cok_mX11_thieves, x_tb_in (List.mem_of_getElem? (i := 1295) (by decide +kernel)) (by decide +kernel), x_tb_in (List.mem_of_getElem? (i := 1296) (by decide +kernel)) (by decide +kernel), rfl⟩
set_option maxRecDepth 100000 in
theorem cok_mX11_tip : x_cok mX11_tip 0 := ⟨ini_X11, x_tb_in (List.mem_of_getElem? (i := 697) rfl) rfl, ⟨by decide, by decide, by decide +kernel⟩, by decide⟩
theorem vok_mX11_tip : x_vok mX11_tip 0 := ⟨cok_mX11_tip, x_tb_in (List.mem_of_getElem? (i := 695) (by decide +kernel)) (by decide +kernel), x_tb_in (List.mem_of_getElem? (i := 696) (by decide +kernel)) (by decide +kernel), rfl⟩
set_option maxRecDepth 100000 in
theorem cok_mX11_two : x_cok mX11_two 3 := ⟨ini_X11, x_tb_in (List.mem_of_getElem? (i := 1094) rfl) rfl, ⟨by decide, by decide, by decide +kernel⟩, by decide⟩
theorem vok_mX11_two : x_vok mX11_two 3 := ⟨cok_mX11_two, x_tb_in (List.mem_of_getElem? (i := 1092) (by decide +kernel)) (by decide +kernel), x_tb_in (List.mem_of_getElem? (i := 1093) (by decide +kernel)) (by decide +kernel), rfl⟩
set_option maxRecDepth 100000 in
theorem cok_mX11_undo : x_cok mX11_undo 0 := ⟨ini_X11, x_tb_in (List.mem_of_getElem? (i := 1077) rfl) rfl, ⟨by decide, by decide, by decide +kernel⟩, by decide⟩
theorem vok_mX11_undo : x_vok mX11_undo 0 := ⟨cok_mX11_undo, x_tb_in (List.mem_of_getElem? (i := 1075) (by decide +kernel)) (by decide +kernel), x_tb_in (List.mem_of_getElem? (i := 1076) (by decide +kernel)) (by decide +kernel), rfl⟩
set_option maxRecDepth 100000 in
theorem cok_mX11_want : x_cok mX11_want 2 := ⟨ini_X11, x_tb_in (List.mem_of_getElem? (i := 1133) rfl) rfl, ⟨by decide, by decide, by decide +kernel⟩, by decide⟩
theorem vok_mX11_want : x_vok mX11_want 2 := ⟨cok_mX11_want, x_tb_in (List.mem_of_getElem? (i := 1131) (by decide +kernel)) (by decide +kernel), x_tb_in (List.mem_of_getElem? (i := 1132) (by decide +kernel)) (by decide +kernel), rfl⟩
set_option maxRecDepth 100000 in
theorem cok_mX11_watch : x_cok mX11_watch 2 := ⟨ini_X11, x_tb_in (List.mem_of_getElem? (i := 1306) rfl) rfl, ⟨by decide, by decide, by decide +kernel⟩, by decide⟩
theorem vok_mX11_watch : x_vok mX11_watch 2 := ⟨cok_mX11_watch, x_tb_in (List.mem_of_getElem? (i := 1304) (by decide +kernel)) (by decide +kernel), x_tb_in (List.mem_of_getElem? (i := 1305) (by decide +kernel)) (by decide +kernel), rfl⟩
set_option maxRecDepth 100000 in
theorem cok_mX11_weight : x_cok mX11_weight 2 := ⟨ini_X11, x_tb_in (List.mem_of_getElem? (i := 1243) rfl) rfl, ⟨by decide, by decide, by decide +kernel⟩, by decide⟩
theorem vok_mX11_weight : x_vok mX11_weight 2 := ⟨cok_mX11_weight, x_tb_in (List.mem_of_getElem? (i := 1241) (by decide +kernel)) (by decide +kernel), x_tb_in (List.mem_of_getElem? (i := 1242) (by decide +kernel)) (by decide +kernel), rfl⟩
set_option maxRecDepth 100000 in
theorem cok_mX11_winner : x_cok mX11_winner 0 := ⟨ini_X11, x_tb_in (List.mem_of_getElem? (i := 1212) rfl) rfl, ⟨by decide, by decide, by decide +kernel⟩, by decide⟩
theorem vok_mX11_winner : x_vok mX11_winner 0 := ⟨cok_mX11_winner, x_tb_in (List.mem_of_getElem? (i := 1210) (by decide +kernel)) (by decide +kernel), x_tb_in (List.mem_of_getElem? (i := 1211) (by decide +kernel)) (by decide +kernel), rfl⟩
set_option maxRecDepth 100000 in
theorem cok_mX11_yard : x_cok mX11_yard 0 := ⟨ini_X11, x_tb_in (List.mem_of_getElem? (i := 1280) rfl) rfl, ⟨by decide, by decide, by decide +kernel⟩, by decide⟩
theorem vok_mX11_yard : x_vok mX11_yard 0 := ⟨cok_mX11_yard, x_tb_in (List.mem_of_getElem? (i := 1278) (by decide +kernel)) (by decide +kernel), x_tb_in (List.mem_of_getElem? (i := 1279) (by decide +kernel)) (by decide +kernel), rfl⟩
set_option maxRecDepth 100000 in
theorem cok_mX11_years : x_cok mX11_years 2 := ⟨ini_X11, x_tb_in (List.mem_of_getElem? (i := 763) rfl) rfl, ⟨by decide, by decide, by decide +kernel⟩, by decide⟩
theorem vok_mX11_years : x_vok mX11_years 2 := ⟨cok_mX11_years, x_tb_in (List.mem_of_getElem? (i := 761) (by decide +kernel)) (by decide +kernel), x_tb_in (List.mem_of_getElem? (i := 762) (by decide +kernel)) (by decide +kernel), rfl⟩
set_option maxRecDepth 100000 in
theorem cok_mX12_about : x_cok mX12_about 1 := ⟨ini_X12, x_tb_in (List.mem_of_getElem? (i := 1977) rfl) rfl, ⟨by decide, by decide, by decide +kernel⟩, by decide⟩
theorem vok_mX12_about : x_vok mX12_about 1 := ⟨cok_mX12_about, x_tb_in (List.mem_of_getElem? (i := 1975) (by decide +kernel)) (by decide +kernel), x_tb_in (List.mem_of_getElem? (i := 1976) (by decide +kernel)) (by decide +kernel), rfl⟩
set_option maxRecDepth 100000 in
theorem cok_mX12_agenda : x_cok mX12_agenda 2 := ⟨ini_X12, x_tb_in (List.mem_of_getElem? (i := 1918) rfl) rfl, ⟨by decide, by decide, by decide +kernel⟩, by decide⟩
theorem vok_mX12_agenda : x_vok mX12_agenda 2 := ⟨cok_mX12_agenda, x_tb_in (List.mem_of_getElem? (i := 1916) (by decide +kernel)) (by decide +kernel), x_tb_in (List.mem_of_getElem? (i := 1917) (by decide +kernel)) (by decide +kernel), rfl⟩
set_option maxRecDepth 100000 in
theorem cok_mX12_answersAt : x_cok mX12_answersAt 2 := ⟨ini_X12, x_tb_in (List.mem_of_getElem? (i := 1950) rfl) rfl, ⟨by decide, by decide, by decide +kernel⟩, by decide⟩
theorem vok_mX12_answersAt : x_vok mX12_answersAt 2 := ⟨cok_mX12_answersAt, x_tb_in (List.mem_of_getElem? (i := 1949) (by decide +kernel)) (by decide +kernel), x_tb_in (List.mem_of_getElem? (i := 112) (by decide +kernel)) (by decide +kernel), rfl⟩
set_option maxRecDepth 100000 in
theorem cok_mX12_arrives : x_cok mX12_arrives 0 := ⟨ini_X12, x_tb_in (List.mem_of_getElem? (i := 1873) rfl) rfl, ⟨by decide, by decide, by decide +kernel⟩, by decide⟩
theorem vok_mX12_arrives : x_vok mX12_arrives 0 := ⟨cok_mX12_arrives, x_tb_in (List.mem_of_getElem? (i := 1871) (by decide +kernel)) (by decide +kernel), x_tb_in (List.mem_of_getElem? (i := 1872) (by decide +kernel)) (by decide +kernel), rfl⟩
set_option maxRecDepth 100000 in
theorem cok_mX12_askIsOver : x_cok mX12_askIsOver 0 := ⟨ini_X12, x_tb_in (List.mem_of_getElem? (i := 1663) rfl) rfl, ⟨by decide, by decide, by decide +kernel⟩, by decide⟩
theorem vok_mX12_askIsOver : x_vok mX12_askIsOver 0 := ⟨cok_mX12_askIsOver, x_tb_in (List.mem_of_getElem? (i := 1662) (by decide +kernel)) (by decide +kernel), x_tb_in (List.mem_of_getElem? (i := 73) (by decide +kernel)) (by decide +kernel), rfl⟩
set_option maxRecDepth 100000 in
theorem cok_mX12_asks : x_cok mX12_asks 0 := ⟨ini_X12, x_tb_in (List.mem_of_getElem? (i := 1590) rfl) rfl, ⟨by decide, by decide, by decide +kernel⟩, by decide⟩
theorem vok_mX12_asks : x_vok mX12_asks 0 := ⟨cok_mX12_asks, x_tb_in (List.mem_of_getElem? (i := 1589) (by decide +kernel)) (by decide +kernel), x_tb_in (List.mem_of_getElem? (i := 57) (by decide +kernel)) (by decide +kernel), rfl⟩
set_option maxRecDepth 100000 in
theorem cok_mX12_asksOn : x_cok mX12_asksOn 0 := ⟨ini_X12, x_tb_in (List.mem_of_getElem? (i := 1671) rfl) rfl, ⟨by decide, by decide, by decide +kernel⟩, by decide⟩
theorem vok_mX12_asksOn : x_vok mX12_asksOn 0 := ⟨cok_mX12_asksOn, x_tb_in (List.mem_of_getElem? (i := 1670) (by decide +kernel)) (by decide +kernel), x_tb_in (List.mem_of_getElem? (i := 75) (by decide +kernel)) (by decide +kernel), rfl⟩
set_option maxRecDepth 100000 in
theorem cok_mX12_away : x_cok mX12_away 2 := ⟨ini_X12, x_tb_in (List.mem_of_getElem? (i := 1806) rfl) rfl, ⟨by decide, by decide, by decide +kernel⟩, by decide⟩
theorem stt_mX12_away : Cond.static mX12_away.1 ∈ x_tb := x_tb_in (List.mem_of_getElem? (i := 1805) (by decide +kernel)) (by decide +kernel)
set_option maxRecDepth 100000 in
theorem cok_mX12_back : x_cok mX12_back 0 := ⟨ini_X12, x_tb_in (List.mem_of_getElem? (i := 1973) rfl) rfl, ⟨by decide, by decide, by decide +kernel⟩, by decide⟩
theorem vok_mX12_back : x_vok mX12_back 0 := ⟨cok_mX12_back, x_tb_in (List.mem_of_getElem? (i := 1971) (by decide +kernel)) (by decide +kernel), x_tb_in (List.mem_of_getElem? (i := 1972) (by decide +kernel)) (by decide +kernel), rfl⟩
set_option maxRecDepth 100000 in
theorem cok_mX12_barrow : x_cok mX12_barrow 1 := ⟨ini_X12, x_tb_in (List.mem_of_getElem? (i := 1857) rfl) rfl, ⟨by decide, by decide, by decide +kernel⟩, by decide⟩
theorem vok_mX12_barrow : x_vok mX12_barrow 1 := ⟨cok_mX12_barrow, x_tb_in (List.mem_of_getElem? (i := 1855) (by decide +kernel)) (by decide +kernel), x_tb_in (List.mem_of_getElem? (i := 1856) (by decide +kernel)) (by decide +kernel), rfl⟩
set_option maxRecDepth 100000 in
theorem cok_mX12_begins : x_cok mX12_begins 0 := ⟨ini_X12, x_tb_in (List.mem_of_getElem? (i := 1610) rfl) rfl, ⟨by decide, by decide, by decide +kernel⟩, by decide⟩
theorem vok_mX12_begins : x_vok mX12_begins 0 := ⟨cok_mX12_begins, x_tb_in (List.mem_of_getElem? (i := 1609) (by decide +kernel)) (by decide +kernel), x_tb_in (List.mem_of_getElem? (i := 62) (by decide +kernel)) (by decide +kernel), rfl⟩
set_option maxRecDepth 100000 in
theorem cok_mX12_book : x_cok mX12_book 2 := ⟨ini_X12, x_tb_in (List.mem_of_getElem? (i := 1865) rfl) rfl, ⟨by decide, by decide, by decide +kernel⟩, by decide⟩
theorem vok_mX12_book : x_vok mX12_book 2 := ⟨cok_mX12_book, x_tb_in (List.mem_of_getElem? (i := 1863) (by decide +kernel)) (by decide +kernel), x_tb_in (List.mem_of_getElem? (i := 1864) (by decide +kernel)) (by decide +kernel), rfl⟩
set_option maxRecDepth 100000 in
theorem cok_mX12_bound : x_cok mX12_bound 1 := ⟨ini_X12, x_tb_in (List.mem_of_getElem? (i := 1746) rfl) rfl, ⟨by decide, by decide, by decide +kernel⟩, by decide⟩
theorem stt_mX12_bound : Cond.static mX12_bound.1 ∈ x_tb := x_tb_in (List.mem_of_getElem? (i := 1745) (by decide +kernel)) (by decide +kernel)
set_option maxRecDepth 100000 in
theorem cok_mX12_by : x_cok mX12_by 1 := ⟨ini_X12, x_tb_in (List.mem_of_getElem? (i := 1699) rfl) rfl, ⟨by decide, by decide, by decide +kernel⟩, by decide⟩
theorem vok_mX12_by : x_vok mX12_by 1 := ⟨cok_mX12_by, x_tb_in (List.mem_of_getElem? (i := 1697) (by decide +kernel)) (by decide +kernel), x_tb_in (List.mem_of_getElem? (i := 1698) (by decide +kernel)) (by decide +kernel), rfl⟩
set_option maxRecDepth 100000 in
theorem cok_mX12_bySecond : x_cok mX12_bySecond 0 := ⟨ini_X12, x_tb_in (List.mem_of_getElem? (i := 1630) rfl) rfl, ⟨by decide, by decide, by decide +kernel⟩, by decide⟩
theorem vok_mX12_bySecond : x_vok mX12_bySecond 0 := ⟨cok_mX12_bySecond, x_tb_in (List.mem_of_getElem? (i := 1629) (by decide +kernel)) (by decide +kernel), x_tb_in (List.mem_of_getElem? (i := 67) (by decide +kernel)) (by decide +kernel), rfl⟩
set_option maxRecDepth 100000 in
theorem cok_mX12_canPass : x_cok mX12_canPass 0 := ⟨ini_X12, x_tb_in (List.mem_of_getElem? (i := 1826) rfl) rfl, ⟨by decide, by decide, by decide +kernel⟩, by decide⟩
theorem vok_mX12_canPass : x_vok mX12_canPass 0 := ⟨cok_mX12_canPass, x_tb_in (List.mem_of_getElem? (i := 1825) (by decide +kernel)) (by decide +kernel), x_tb_in (List.mem_of_getElem? (i := 103) (by decide +kernel)) (by decide +kernel), rfl⟩
set_option maxRecDepth 100000 in
theorem cok_mX12_canPush : x_cok mX12_canPush 2 := ⟨ini_X12, x_tb_in (List.mem_of_getElem? (i := 1715) rfl) rfl, ⟨by decide, by decide, by decide +kernel⟩, by decide⟩
theorem vok_mX12_canPush : x_vok mX12_canPush 2 := ⟨cok_mX12_canPush, x_tb_in (List.mem_of_getElem? (i := 1714) (by decide +kernel)) (by decide +kernel), x_tb_in (List.mem_of_getElem? (i := 83) (by decide +kernel)) (by decide +kernel), rfl⟩
set_option maxRecDepth 100000 in
theorem cok_mX12_clause : x_cok mX12_clause 0 := ⟨ini_X12, x_tb_in (List.mem_of_getElem? (i := 1675) rfl) rfl, ⟨by decide, by decide, by decide +kernel⟩, by decide⟩
theorem vok_mX12_clause : x_vok mX12_clause 0 := ⟨cok_mX12_clause, x_tb_in (List.mem_of_getElem? (i := 1674) (by decide +kernel)) (by decide +kernel), x_tb_in (List.mem_of_getElem? (i := 76) (by decide +kernel)) (by decide +kernel), rfl⟩
set_option maxRecDepth 100000 in
theorem cok_mX12_clauseIsOver : x_cok mX12_clauseIsOver 0 := ⟨ini_X12, x_tb_in (List.mem_of_getElem? (i := 1667) rfl) rfl, ⟨by decide, by decide, by decide +kernel⟩, by decide⟩
theorem vok_mX12_clauseIsOver : x_vok mX12_clauseIsOver 0 := ⟨cok_mX12_clauseIsOver, x_tb_in (List.mem_of_getElem? (i := 1666) (by decide +kernel)) (by decide +kernel), x_tb_in (List.mem_of_getElem? (i := 74) (by decide +kernel)) (by decide +kernel), rfl⟩
set_option maxRecDepth 100000 in
theorem cok_mX12_copies : x_cok mX12_copies 1 := ⟨ini_X12, x_tb_in (List.mem_of_getElem? (i := 1360) rfl) rfl, ⟨by decide, by decide, by decide +kernel⟩, by decide⟩
theorem vok_mX12_copies : x_vok mX12_copies 1 := ⟨cok_mX12_copies, x_tb_in (List.mem_of_getElem? (i := 1359) (by decide +kernel)) (by decide +kernel), x_tb_in (List.mem_of_getElem? (i := 53) (by decide +kernel)) (by decide +kernel), rfl⟩
set_option maxRecDepth 100000 in
theorem cok_mX12_doesBeat : x_cok mX12_doesBeat 2 := ⟨ini_X12, x_tb_in (List.mem_of_getElem? (i := 1914) rfl) rfl, ⟨by decide, by decide, by decide +kernel⟩, by decide⟩
theorem vok_mX12_doesBeat : x_vok mX12_doesBeat 2 := ⟨cok_mX12_doesBeat, x_tb_in (List.mem_of_getElem? (i := 1913) (by decide +kernel)) (by decide +kernel), x_tb_in (List.mem_of_getElem? (i := 110) (by decide +kernel)) (by decide +kernel), rfl⟩
set_option maxRecDepth 100000 in
theorem cok_mX12_doing : x_cok mX12_doing 0 := ⟨ini_X12, x_tb_in (List.mem_of_getElem? (i := 1683) rfl) rfl, ⟨by decide, by decide, by decide +kernel⟩, by decide⟩
theorem vok_mX12_doing : x_vok mX12_doing 0 := ⟨cok_mX12_doing, x_tb_in (List.mem_of_getElem? (i := 1682) (by decide +kernel)) (by decide +kernel), x_tb_in (List.mem_of_getElem? (i := 78) (by decide +kernel)) (by decide +kernel), rfl⟩
set_option maxRecDepth 100000 in
theorem cok_mX12_doneAt : x_cok mX12_doneAt 2 := ⟨ini_X12, x_tb_in (List.mem_of_getElem? (i := 1897) rfl) rfl, ⟨by decide, by decide, by decide +kernel⟩, by decide⟩
theorem vok_mX12_doneAt : x_vok mX12_doneAt 2 := ⟨cok_mX12_doneAt, x_tb_in (List.mem_of_getElem? (i := 1896) (by decide +kernel)) (by decide +kernel), x_tb_in (List.mem_of_getElem? (i := 108) (by decide +kernel)) (by decide +kernel), rfl⟩
set_option maxRecDepth 100000 in
theorem cok_mX12_draw : x_cok mX12_draw 1 := ⟨ini_X12, x_tb_in (List.mem_of_getElem? (i := 1822) rfl) rfl, ⟨by decide, by decide, by decide +kernel⟩, by decide⟩
theorem vok_mX12_draw : x_vok mX12_draw 1 := ⟨cok_mX12_draw, x_tb_in (List.mem_of_getElem? (i := 1821) (by decide +kernel)) (by decide +kernel), x_tb_in (List.mem_of_getElem? (i := 102) (by decide +kernel)) (by decide +kernel), rfl⟩
set_option maxRecDepth 100000 in
theorem cok_mX12_earnsOf : x_cok mX12_earnsOf 1 := ⟨ini_X12, x_tb_in (List.mem_of_getElem? (i := 1796) rfl) rfl, ⟨by decide, by decide, by decide +kernel⟩, by decide⟩
theorem vok_mX12_earnsOf : x_vok mX12_earnsOf 1 := ⟨cok_mX12_earnsOf, x_tb_in (List.mem_of_getElem? (i := 1795) (by decide +kernel)) (by decide +kernel), x_tb_in (List.mem_of_getElem? (i := 98) (by decide +kernel)) (by decide +kernel), rfl⟩
set_option maxRecDepth 100000 in
theorem cok_mX12_emits : x_cok mX12_emits 2 := ⟨ini_X12, x_tb_in (List.mem_of_getElem? (i := 1618) rfl) rfl, ⟨by decide, by decide, by decide +kernel⟩, by decide⟩
theorem vok_mX12_emits : x_vok mX12_emits 2 := ⟨cok_mX12_emits, x_tb_in (List.mem_of_getElem? (i := 1617) (by decide +kernel)) (by decide +kernel), x_tb_in (List.mem_of_getElem? (i := 64) (by decide +kernel)) (by decide +kernel), rfl⟩
set_option maxRecDepth 100000 in
theorem cok_mX12_end : x_cok mX12_end 1 := ⟨ini_X12, x_tb_in (List.mem_of_getElem? (i := 1538) rfl) rfl, ⟨by decide, by decide, by decide +kernel⟩, by decide⟩
theorem vok_mX12_end : x_vok mX12_end 1 := ⟨cok_mX12_end, x_tb_in (List.mem_of_getElem? (i := 1536) (by decide +kernel)) (by decide +kernel), x_tb_in (List.mem_of_getElem? (i := 1537) (by decide +kernel)) (by decide +kernel), rfl⟩
set_option maxRecDepth 100000 in
theorem cok_mX12_errs : x_cok mX12_errs 1 := ⟨ini_X12, x_tb_in (List.mem_of_getElem? (i := 1602) rfl) rfl, ⟨by decide, by decide, by decide +kernel⟩, by decide⟩
theorem vok_mX12_errs : x_vok mX12_errs 1 := ⟨cok_mX12_errs, x_tb_in (List.mem_of_getElem? (i := 1601) (by decide +kernel)) (by decide +kernel), x_tb_in (List.mem_of_getElem? (i := 60) (by decide +kernel)) (by decide +kernel), rfl⟩
set_option maxRecDepth 100000 in
theorem cok_mX12_fair : x_cok mX12_fair 1 := ⟨ini_X12, x_tb_in (List.mem_of_getElem? (i := 1929) rfl) rfl, ⟨by decide, by decide, by decide +kernel⟩, by decide⟩
theorem vok_mX12_fair : x_vok mX12_fair 1 := ⟨cok_mX12_fair, x_tb_in (List.mem_of_getElem? (i := 1927) (by decide +kernel)) (by decide +kernel), x_tb_in (List.mem_of_getElem? (i := 1928) (by decide +kernel)) (by decide +kernel), rfl⟩
set_option maxRecDepth 100000 in
theorem cok_mX12_farBy : x_cok mX12_farBy 2 := ⟨ini_X12, x_tb_in (List.mem_of_getElem? (i := 1752) rfl) rfl, ⟨by decide, by decide, by decide +kernel⟩, by decide⟩
theorem vok_mX12_farBy : x_vok mX12_farBy 2 := ⟨cok_mX12_farBy, x_tb_in (List.mem_of_getElem? (i := 1751) (by decide +kernel)) (by decide +kernel), x_tb_in (List.mem_of_getElem? (i := 91) (by decide +kernel)) (by decide +kernel), rfl⟩
set_option maxRecDepth 100000 in
theorem cok_mX12_fault : x_cok mX12_fault 1 := ⟨ini_X12, x_tb_in (List.mem_of_getElem? (i := 1695) rfl) rfl, ⟨by decide, by decide, by decide +kernel⟩, by decide⟩
theorem vok_mX12_fault : x_vok mX12_fault 1 := ⟨cok_mX12_fault, x_tb_in (List.mem_of_getElem? (i := 1693) (by decide +kernel)) (by decide +kernel), x_tb_in (List.mem_of_getElem? (i := 1694) (by decide +kernel)) (by decide +kernel), rfl⟩
set_option maxRecDepth 100000 in
theorem cok_mX12_feed : x_cok mX12_feed 5 := ⟨ini_X12, x_tb_in (List.mem_of_getElem? (i := 1530) rfl) rfl, ⟨by decide, by decide, by decide +kernel⟩, by decide⟩
theorem vok_mX12_feed : x_vok mX12_feed 5 := ⟨cok_mX12_feed, x_tb_in (List.mem_of_getElem? (i := 1528) (by decide +kernel)) (by decide +kernel), x_tb_in (List.mem_of_getElem? (i := 1529) (by decide +kernel)) (by decide +kernel), rfl⟩
set_option maxRecDepth 100000 in
theorem cok_mX12_feel : x_cok mX12_feel 2 := ⟨ini_X12, x_tb_in (List.mem_of_getElem? (i := 1937) rfl) rfl, ⟨by decide, by decide, by decide +kernel⟩, by decide⟩
theorem vok_mX12_feel : x_vok mX12_feel 2 := ⟨cok_mX12_feel, x_tb_in (List.mem_of_getElem? (i := 1935) (by decide +kernel)) (by decide +kernel), x_tb_in (List.mem_of_getElem? (i := 1936) (by decide +kernel)) (by decide +kernel), rfl⟩
set_option maxRecDepth 100000 in
theorem cok_mX12_fitting : x_cok mX12_fitting 0 := ⟨ini_X12, x_tb_in (List.mem_of_getElem? (i := 1881) rfl) rfl, ⟨by decide, by decide, by decide +kernel⟩, by decide⟩
theorem vok_mX12_fitting : x_vok mX12_fitting 0 := ⟨cok_mX12_fitting, x_tb_in (List.mem_of_getElem? (i := 1879) (by decide +kernel)) (by decide +kernel), x_tb_in (List.mem_of_getElem? (i := 1880) (by decide +kernel)) (by decide +kernel), rfl⟩
set_option maxRecDepth 100000 in
theorem cok_mX12_foretold : x_cok mX12_foretold 3 := ⟨ini_X12, x_tb_in (List.mem_of_getElem? (i := 1869) rfl) rfl, ⟨by decide, by decide, by decide +kernel⟩, by decide⟩
theorem vok_mX12_foretold : x_vok mX12_foretold 3 := ⟨cok_mX12_foretold, x_tb_in (List.mem_of_getElem? (i := 1867) (by decide +kernel)) (by decide +kernel), x_tb_in (List.mem_of_getElem? (i := 1868) (by decide +kernel)) (by decide +kernel), rfl⟩
set_option maxRecDepth 100000 in
theorem cok_mX12_goesOn : x_cok mX12_goesOn 0 := ⟨ini_X12, x_tb_in (List.mem_of_getElem? (i := 1641) rfl) rfl, ⟨by decide, by decide, by decide +kernel⟩, by decide⟩
theorem vok_mX12_goesOn : x_vok mX12_goesOn 0 := ⟨cok_mX12_goesOn, x_tb_in (List.mem_of_getElem? (i := 1640) (by decide +kernel)) (by decide +kernel), x_tb_in (List.mem_of_getElem? (i := 69) (by decide +kernel)) (by decide +kernel), rfl⟩
set_option maxRecDepth 100000 in
theorem cok_mX12_happens : x_cok mX12_happens 0 := ⟨ini_X12, x_tb_in (List.mem_of_getElem? (i := 1818) rfl) rfl, ⟨by decide, by decide, by decide +kernel⟩, by decide⟩
theorem vok_mX12_happens : x_vok mX12_happens 0 := ⟨cok_mX12_happens, x_tb_in (List.mem_of_getElem? (i := 1817) (by decide +kernel)) (by decide +kernel), x_tb_in (List.mem_of_getElem? (i := 101) (by decide +kernel)) (by decide +kernel), rfl⟩
set_option maxRecDepth 100000 in
theorem cok_mX12_hard : x_cok mX12_hard 3 := ⟨ini_X12, x_tb_in (List.mem_of_getElem? (i := 1861) rfl) rfl, ⟨by decide, by decide, by decide +kernel⟩, by decide⟩
theorem vok_mX12_hard : x_vok mX12_hard 3 := ⟨cok_mX12_hard, x_tb_in (List.mem_of_getElem? (i := 1859) (by decide +kernel)) (by decide +kernel), x_tb_in (List.mem_of_getElem? (i := 1860) (by decide +kernel)) (by decide +kernel), rfl⟩
set_option maxRecDepth 100000 in
theorem cok_mX12_hardOf : x_cok mX12_hardOf 3 := ⟨ini_X12, x_tb_in (List.mem_of_getElem? (i := 1727) rfl) rfl, ⟨by decide, by decide, by decide +kernel⟩, by decide⟩
theorem vok_mX12_hardOf : x_vok mX12_hardOf 3 := ⟨cok_mX12_hardOf, x_tb_in (List.mem_of_getElem? (i := 1726) (by decide +kernel)) (by decide +kernel), x_tb_in (List.mem_of_getElem? (i := 86) (by decide +kernel)) (by decide +kernel), rfl⟩
set_option maxRecDepth 100000 in
theorem cok_mX12_has : x_cok mX12_has 2 := ⟨ini_X12, x_tb_in (List.mem_of_getElem? (i := 1921) rfl) rfl, ⟨by decide, by decide, by decide +kernel⟩, by decide⟩
theorem stt_mX12_has : Cond.static mX12_has.1 ∈ x_tb := x_tb_in (List.mem_of_getElem? (i := 1920) (by decide +kernel)) (by decide +kernel)
set_option maxRecDepth 100000 in
theorem cok_mX12_held : x_cok mX12_held 3 := ⟨ini_X12, x_tb_in (List.mem_of_getElem? (i := 1756) rfl) rfl, ⟨by decide, by decide, by decide +kernel⟩, by decide⟩
theorem stt_mX12_held : Cond.static mX12_held.1 ∈ x_tb := x_tb_in (List.mem_of_getElem? (i := 1755) (by decide +kernel)) (by decide +kernel)
set_option maxRecDepth 100000 in
theorem cok_mX12_hourAt : x_cok mX12_hourAt 2 := ⟨ini_X12, x_tb_in (List.mem_of_getElem? (i := 1800) rfl) rfl, ⟨by decide, by decide, by decide +kernel⟩, by decide⟩
theorem vok_mX12_hourAt : x_vok mX12_hourAt 2 := ⟨cok_mX12_hourAt, x_tb_in (List.mem_of_getElem? (i := 1799) (by decide +kernel)) (by decide +kernel), x_tb_in (List.mem_of_getElem? (i := 99) (by decide +kernel)) (by decide +kernel), rfl⟩
set_option maxRecDepth 100000 in
theorem cok_mX12_hourBy : x_cok mX12_hourBy 3 := ⟨ini_X12, x_tb_in (List.mem_of_getElem? (i := 1803) rfl) rfl, ⟨by decide, by decide, by decide +kernel⟩, by decide⟩
theorem stt_mX12_hourBy : Cond.static mX12_hourBy.1 ∈ x_tb := x_tb_in (List.mem_of_getElem? (i := 1802) (by decide +kernel)) (by decide +kernel)
set_option maxRecDepth 100000 in
theorem cok_mX12_house : x_cok mX12_house 1 := ⟨ini_X12, x_tb_in (List.mem_of_getElem? (i := 1507) rfl) rfl, ⟨by decide, by decide, by decide +kernel⟩, by decide⟩
theorem vok_mX12_house : x_vok mX12_house 1 := ⟨cok_mX12_house, x_tb_in (List.mem_of_getElem? (i := 1505) (by decide +kernel)) (by decide +kernel), x_tb_in (List.mem_of_getElem? (i := 1506) (by decide +kernel)) (by decide +kernel), rfl⟩
set_option maxRecDepth 100000 in
theorem cok_mX12_image : x_cok mX12_image 0 := ⟨ini_X12, x_tb_in (List.mem_of_getElem? (i := 1969) rfl) rfl, ⟨by decide, by decide, by decide +kernel⟩, by decide⟩
theorem vok_mX12_image : x_vok mX12_image 0 := ⟨cok_mX12_image, x_tb_in (List.mem_of_getElem? (i := 1967) (by decide +kernel)) (by decide +kernel), x_tb_in (List.mem_of_getElem? (i := 1968) (by decide +kernel)) (by decide +kernel), rfl⟩
set_option maxRecDepth 100000 in
theorem cok_mX12_in : x_cok mX12_in 3 := ⟨ini_X12, x_tb_in (List.mem_of_getElem? (i := 1510) rfl) rfl, ⟨by decide, by decide, by decide +kernel⟩, by decide⟩
theorem stt_mX12_in : Cond.static mX12_in.1 ∈ x_tb := x_tb_in (List.mem_of_getElem? (i := 1509) (by decide +kernel)) (by decide +kernel)
set_option maxRecDepth 100000 in
theorem cok_mX12_isAhead : x_cok mX12_isAhead 2 := ⟨ini_X12, x_tb_in (List.mem_of_getElem? (i := 1933) rfl) rfl, ⟨by decide, by decide, by decide +kernel⟩, by decide⟩
theorem vok_mX12_isAhead : x_vok mX12_isAhead 2 := ⟨cok_mX12_isAhead, x_tb_in (List.mem_of_getElem? (i := 1932) (by decide +kernel)) (by decide +kernel), x_tb_in (List.mem_of_getElem? (i := 111) (by decide +kernel)) (by decide +kernel), rfl⟩
set_option maxRecDepth 100000 in
theorem cok_mX12_isAsking : x_cok mX12_isAsking 1 := ⟨ini_X12, x_tb_in (List.mem_of_getElem? (i := 1659) rfl) rfl, ⟨by decide, by decide, by decide +kernel⟩, by decide⟩
theorem stt_mX12_isAsking : Cond.static mX12_isAsking.1 ∈ x_tb := x_tb_in (List.mem_of_getElem? (i := 1658) (by decide +kernel)) (by decide +kernel)
set_option maxRecDepth 100000 in
theorem cok_mX12_isHouse : x_cok mX12_isHouse 1 := ⟨ini_X12, x_tb_in (List.mem_of_getElem? (i := 1518) rfl) rfl, ⟨by decide, by decide, by decide +kernel⟩, by decide⟩
theorem vok_mX12_isHouse : x_vok mX12_isHouse 1 := ⟨cok_mX12_isHouse, x_tb_in (List.mem_of_getElem? (i := 1517) (by decide +kernel)) (by decide +kernel), x_tb_in (List.mem_of_getElem? (i := 54) (by decide +kernel)) (by decide +kernel), rfl⟩
set_option maxRecDepth 100000 in
theorem cok_mX12_isLetter : x_cok mX12_isLetter 1 := ⟨ini_X12, x_tb_in (List.mem_of_getElem? (i := 1549) rfl) rfl, ⟨by decide, by decide, by decide +kernel⟩, by decide⟩
theorem stt_mX12_isLetter : Cond.static mX12_isLetter.1 ∈ x_tb := x_tb_in (List.mem_of_getElem? (i := 1548) (by decide +kernel)) (by decide +kernel)
set_option maxRecDepth 100000 in
theorem cok_mX12_isSign : x_cok mX12_isSign 1 := ⟨ini_X12, x_tb_in (List.mem_of_getElem? (i := 1637) rfl) rfl, ⟨by decide, by decide, by decide +kernel⟩, by decide⟩
theorem vok_mX12_isSign : x_vok mX12_isSign 1 := ⟨cok_mX12_isSign, x_tb_in (List.mem_of_getElem? (i := 1636) (by decide +kernel)) (by decide +kernel), x_tb_in (List.mem_of_getElem? (i := 68) (by decide +kernel)) (by decide +kernel), rfl⟩
set_option maxRecDepth 100000 in
theorem cok_mX12_isWanted : x_cok mX12_isWanted 2 := ⟨ini_X12, x_tb_in (List.mem_of_getElem? (i := 1885) rfl) rfl, ⟨by decide, by decide, by decide +kernel⟩, by decide⟩
theorem vok_mX12_isWanted : x_vok mX12_isWanted 2 := ⟨cok_mX12_isWanted, x_tb_in (List.mem_of_getElem? (i := 1884) (by decide +kernel)) (by decide +kernel), x_tb_in (List.mem_of_getElem? (i := 106) (by decide +kernel)) (by decide +kernel), rfl⟩
set_option maxRecDepth 100000 in
theorem cok_mX12_isWord : x_cok mX12_isWord 1 := ⟨ini_X12, x_tb_in (List.mem_of_getElem? (i := 1594) rfl) rfl, ⟨by decide, by decide, by decide +kernel⟩, by decide⟩
theorem vok_mX12_isWord : x_vok mX12_isWord 1 := ⟨cok_mX12_isWord, x_tb_in (List.mem_of_getElem? (i := 1593) (by decide +kernel)) (by decide +kernel), x_tb_in (List.mem_of_getElem? (i := 58) (by decide +kernel)) (by decide +kernel), rfl⟩
set_option maxRecDepth 100000 in
theorem cok_mX12_keepsNow : x_cok mX12_keepsNow 0 := ⟨ini_X12, x_tb_in (List.mem_of_getElem? (i := 1760) rfl) rfl, ⟨by decide, by decide, by decide +kernel⟩, by decide⟩
theorem vok_mX12_keepsNow : x_vok mX12_keepsNow 0 := ⟨cok_mX12_keepsNow, x_tb_in (List.mem_of_getElem? (i := 1759) (by decide +kernel)) (by decide +kernel), x_tb_in (List.mem_of_getElem? (i := 92) (by decide +kernel)) (by decide +kernel), rfl⟩
set_option maxRecDepth 100000 in
theorem cok_mX12_keepsStep : x_cok mX12_keepsStep 0 := ⟨ini_X12, x_tb_in (List.mem_of_getElem? (i := 1719) rfl) rfl, ⟨by decide, by decide, by decide +kernel⟩, by decide⟩
theorem vok_mX12_keepsStep : x_vok mX12_keepsStep 0 := ⟨cok_mX12_keepsStep, x_tb_in (List.mem_of_getElem? (i := 1718) (by decide +kernel)) (by decide +kernel), x_tb_in (List.mem_of_getElem? (i := 84) (by decide +kernel)) (by decide +kernel), rfl⟩
set_option maxRecDepth 100000 in
theorem cok_mX12_lane : x_cok mX12_lane 3 := ⟨ini_X12, x_tb_in (List.mem_of_getElem? (i := 1514) rfl) rfl, ⟨by decide, by decide, by decide +kernel⟩, by decide⟩
theorem vok_mX12_lane : x_vok mX12_lane 3 := ⟨cok_mX12_lane, x_tb_in (List.mem_of_getElem? (i := 1512) (by decide +kernel)) (by decide +kernel), x_tb_in (List.mem_of_getElem? (i := 1513) (by decide +kernel)) (by decide +kernel), rfl⟩
set_option maxRecDepth 100000 in
theorem cok_mX12_laysFar : x_cok mX12_laysFar 0 := ⟨ini_X12, x_tb_in (List.mem_of_getElem? (i := 1711) rfl) rfl, ⟨by decide, by decide, by decide +kernel⟩, by decide⟩
theorem vok_mX12_laysFar : x_vok mX12_laysFar 0 := ⟨cok_mX12_laysFar, x_tb_in (List.mem_of_getElem? (i := 1710) (by decide +kernel)) (by decide +kernel), x_tb_in (List.mem_of_getElem? (i := 82) (by decide +kernel)) (by decide +kernel), rfl⟩
set_option maxRecDepth 100000 in
theorem cok_mX12_laysNow : x_cok mX12_laysNow 0 := ⟨ini_X12, x_tb_in (List.mem_of_getElem? (i := 1707) rfl) rfl, ⟨by decide, by decide, by decide +kernel⟩, by decide⟩
theorem vok_mX12_laysNow : x_vok mX12_laysNow 0 := ⟨cok_mX12_laysNow, x_tb_in (List.mem_of_getElem? (i := 1706) (by decide +kernel)) (by decide +kernel), x_tb_in (List.mem_of_getElem? (i := 81) (by decide +kernel)) (by decide +kernel), rfl⟩
set_option maxRecDepth 100000 in
theorem cok_mX12_laysPushing : x_cok mX12_laysPushing 2 := ⟨ini_X12, x_tb_in (List.mem_of_getElem? (i := 1905) rfl) rfl, ⟨by decide, by decide, by decide +kernel⟩, by decide⟩
theorem vok_mX12_laysPushing : x_vok mX12_laysPushing 2 := ⟨cok_mX12_laysPushing, x_tb_in (List.mem_of_getElem? (i := 1904) (by decide +kernel)) (by decide +kernel), x_tb_in (List.mem_of_getElem? (i := 109) (by decide +kernel)) (by decide +kernel), rfl⟩
set_option maxRecDepth 100000 in
theorem cok_mX12_laysYet : x_cok mX12_laysYet 0 := ⟨ini_X12, x_tb_in (List.mem_of_getElem? (i := 1893) rfl) rfl, ⟨by decide, by decide, by decide +kernel⟩, by decide⟩
theorem vok_mX12_laysYet : x_vok mX12_laysYet 0 := ⟨cok_mX12_laysYet, x_tb_in (List.mem_of_getElem? (i := 1892) (by decide +kernel)) (by decide +kernel), x_tb_in (List.mem_of_getElem? (i := 107) (by decide +kernel)) (by decide +kernel), rfl⟩
set_option maxRecDepth 100000 in
theorem cok_mX12_least : x_cok mX12_least 3 := ⟨ini_X12, x_tb_in (List.mem_of_getElem? (i := 1901) rfl) rfl, ⟨by decide, by decide, by decide +kernel⟩, by decide⟩
theorem vok_mX12_least : x_vok mX12_least 3 := ⟨cok_mX12_least, x_tb_in (List.mem_of_getElem? (i := 1899) (by decide +kernel)) (by decide +kernel), x_tb_in (List.mem_of_getElem? (i := 1900) (by decide +kernel)) (by decide +kernel), rfl⟩
set_option maxRecDepth 100000 in
theorem cok_mX12_lies : x_cok mX12_lies 1 := ⟨ini_X12, x_tb_in (List.mem_of_getElem? (i := 1772) rfl) rfl, ⟨by decide, by decide, by decide +kernel⟩, by decide⟩
theorem vok_mX12_lies : x_vok mX12_lies 1 := ⟨cok_mX12_lies, x_tb_in (List.mem_of_getElem? (i := 1771) (by decide +kernel)) (by decide +kernel), x_tb_in (List.mem_of_getElem? (i := 94) (by decide +kernel)) (by decide +kernel), rfl⟩
set_option maxRecDepth 100000 in
theorem cok_mX12_lost : x_cok mX12_lost 0 := ⟨ini_X12, x_tb_in (List.mem_of_getElem? (i := 1941) rfl) rfl, ⟨by decide, by decide, by decide +kernel⟩, by decide⟩
theorem vok_mX12_lost : x_vok mX12_lost 0 := ⟨cok_mX12_lost, x_tb_in (List.mem_of_getElem? (i := 1939) (by decide +kernel)) (by decide +kernel), x_tb_in (List.mem_of_getElem? (i := 1940) (by decide +kernel)) (by decide +kernel), rfl⟩
set_option maxRecDepth 100000 in
theorem cok_mX12_many : x_cok mX12_many 1 := ⟨ini_X12, x_tb_in (List.mem_of_getElem? (i := 1961) rfl) rfl, ⟨by decide, by decide, by decide +kernel⟩, by decide⟩
theorem stt_mX12_many : Cond.static mX12_many.1 ∈ x_tb := x_tb_in (List.mem_of_getElem? (i := 1960) (by decide +kernel)) (by decide +kernel)
set_option maxRecDepth 100000 in
theorem cok_mX12_mayName : x_cok mX12_mayName 2 := ⟨ini_X12, x_tb_in (List.mem_of_getElem? (i := 1633) rfl) rfl, ⟨by decide, by decide, by decide +kernel⟩, by decide⟩
theorem stt_mX12_mayName : Cond.static mX12_mayName.1 ∈ x_tb := x_tb_in (List.mem_of_getElem? (i := 1632) (by decide +kernel)) (by decide +kernel)
set_option maxRecDepth 100000 in
theorem cok_mX12_mend : x_cok mX12_mend 0 := ⟨ini_X12, x_tb_in (List.mem_of_getElem? (i := 1776) rfl) rfl, ⟨by decide, by decide, by decide +kernel⟩, by decide⟩
theorem vok_mX12_mend : x_vok mX12_mend 0 := ⟨cok_mX12_mend, x_tb_in (List.mem_of_getElem? (i := 1774) (by decide +kernel)) (by decide +kernel), x_tb_in (List.mem_of_getElem? (i := 1775) (by decide +kernel)) (by decide +kernel), rfl⟩
set_option maxRecDepth 100000 in
theorem cok_mX12_minute : x_cok mX12_minute 1 := ⟨ini_X12, x_tb_in (List.mem_of_getElem? (i := 1780) rfl) rfl, ⟨by decide, by decide, by decide +kernel⟩, by decide⟩
theorem vok_mX12_minute : x_vok mX12_minute 1 := ⟨cok_mX12_minute, x_tb_in (List.mem_of_getElem? (i := 1778) (by decide +kernel)) (by decide +kernel), x_tb_in (List.mem_of_getElem? (i := 1779) (by decide +kernel)) (by decide +kernel), rfl⟩
set_option maxRecDepth 100000 in
theorem cok_mX12_minutePasses : x_cok mX12_minutePasses 0 := ⟨ini_X12, x_tb_in (List.mem_of_getElem? (i := 1784) rfl) rfl, ⟨by decide, by decide, by decide +kernel⟩, by decide⟩
theorem vok_mX12_minutePasses : x_vok mX12_minutePasses 0 := ⟨cok_mX12_minutePasses, x_tb_in (List.mem_of_getElem? (i := 1783) (by decide +kernel)) (by decide +kernel), x_tb_in (List.mem_of_getElem? (i := 95) (by decide +kernel)) (by decide +kernel), rfl⟩
set_option maxRecDepth 100000 in
theorem cok_mX12_minutes : x_cok mX12_minutes 1 := ⟨ini_X12, x_tb_in (List.mem_of_getElem? (i := 1840) rfl) rfl, ⟨by decide, by decide, by decide +kernel⟩, by decide⟩
theorem vok_mX12_minutes : x_vok mX12_minutes 1 := ⟨cok_mX12_minutes, x_tb_in (List.mem_of_getElem? (i := 1839) (by decide +kernel)) (by decide +kernel), x_tb_in (List.mem_of_getElem? (i := 104) (by decide +kernel)) (by decide +kernel), rfl⟩
set_option maxRecDepth 100000 in
theorem cok_mX12_nameNow : x_cok mX12_nameNow 0 := ⟨ini_X12, x_tb_in (List.mem_of_getElem? (i := 1614) rfl) rfl, ⟨by decide, by decide, by decide +kernel⟩, by decide⟩
theorem vok_mX12_nameNow : x_vok mX12_nameNow 0 := ⟨cok_mX12_nameNow, x_tb_in (List.mem_of_getElem? (i := 1613) (by decide +kernel)) (by decide +kernel), x_tb_in (List.mem_of_getElem? (i := 63) (by decide +kernel)) (by decide +kernel), rfl⟩
set_option maxRecDepth 100000 in
theorem cok_mX12_names : x_cok mX12_names 1 := ⟨ini_X12, x_tb_in (List.mem_of_getElem? (i := 1735) rfl) rfl, ⟨by decide, by decide, by decide +kernel⟩, by decide⟩
theorem vok_mX12_names : x_vok mX12_names 1 := ⟨cok_mX12_names, x_tb_in (List.mem_of_getElem? (i := 1734) (by decide +kernel)) (by decide +kernel), x_tb_in (List.mem_of_getElem? (i := 88) (by decide +kernel)) (by decide +kernel), rfl⟩
set_option maxRecDepth 100000 in
theorem cok_mX12_next : x_cok mX12_next 0 := ⟨ini_X12, x_tb_in (List.mem_of_getElem? (i := 1546) rfl) rfl, ⟨by decide, by decide, by decide +kernel⟩, by decide⟩
theorem vok_mX12_next : x_vok mX12_next 0 := ⟨cok_mX12_next, x_tb_in (List.mem_of_getElem? (i := 1545) (by decide +kernel)) (by decide +kernel), x_tb_in (List.mem_of_getElem? (i := 56) (by decide +kernel)) (by decide +kernel), rfl⟩
set_option maxRecDepth 100000 in
theorem cok_mX12_number : x_cok mX12_number 2 := ⟨ini_X12, x_tb_in (List.mem_of_getElem? (i := 1687) rfl) rfl, ⟨by decide, by decide, by decide +kernel⟩, by decide⟩
theorem vok_mX12_number : x_vok mX12_number 2 := ⟨cok_mX12_number, x_tb_in (List.mem_of_getElem? (i := 1686) (by decide +kernel)) (by decide +kernel), x_tb_in (List.mem_of_getElem? (i := 79) (by decide +kernel)) (by decide +kernel), rfl⟩
set_option maxRecDepth 100000 in
theorem cok_mX12_numberBehind : x_cok mX12_numberBehind 3 := ⟨ini_X12, x_tb_in (List.mem_of_getElem? (i := 1691) rfl) rfl, ⟨by decide, by decide, by decide +kernel⟩, by decide⟩
theorem vok_mX12_numberBehind : x_vok mX12_numberBehind 3 := ⟨cok_mX12_numberBehind, x_tb_in (List.mem_of_getElem? (i := 1690) (by decide +kernel)) (by decide +kernel), x_tb_in (List.mem_of_getElem? (i := 80) (by decide +kernel)) (by decide +kernel), rfl⟩
set_option maxRecDepth 100000 in
theorem cok_mX12_of : x_cok mX12_of 2 := ⟨ini_X12, x_tb_in (List.mem_of_getElem? (i := 1845) rfl) rfl, ⟨by decide, by decide, by decide +kernel⟩, by decide⟩
theorem vok_mX12_of : x_vok mX12_of 2 := ⟨cok_mX12_of, x_tb_in (List.mem_of_getElem? (i := 1843) (by decide +kernel)) (by decide +kernel), x_tb_in (List.mem_of_getElem? (i := 1844) (by decide +kernel)) (by decide +kernel), rfl⟩
set_option maxRecDepth 100000 in
theorem cok_mX12_oneIsOver : x_cok mX12_oneIsOver 0 := ⟨ini_X12, x_tb_in (List.mem_of_getElem? (i := 1622) rfl) rfl, ⟨by decide, by decide, by decide +kernel⟩, by decide⟩
theorem vok_mX12_oneIsOver : x_vok mX12_oneIsOver 0 := ⟨cok_mX12_oneIsOver, x_tb_in (List.mem_of_getElem? (i := 1621) (by decide +kernel)) (by decide +kernel), x_tb_in (List.mem_of_getElem? (i := 65) (by decide +kernel)) (by decide +kernel), rfl⟩
set_option maxRecDepth 100000 in
theorem cok_mX12_opensFrame : x_cok mX12_opensFrame 1 := ⟨ini_X12, x_tb_in (List.mem_of_getElem? (i := 1606) rfl) rfl, ⟨by decide, by decide, by decide +kernel⟩, by decide⟩
theorem vok_mX12_opensFrame : x_vok mX12_opensFrame 1 := ⟨cok_mX12_opensFrame, x_tb_in (List.mem_of_getElem? (i := 1605) (by decide +kernel)) (by decide +kernel), x_tb_in (List.mem_of_getElem? (i := 61) (by decide +kernel)) (by decide +kernel), rfl⟩
set_option maxRecDepth 100000 in
theorem cok_mX12_opensSign : x_cok mX12_opensSign 1 := ⟨ini_X12, x_tb_in (List.mem_of_getElem? (i := 1598) rfl) rfl, ⟨by decide, by decide, by decide +kernel⟩, by decide⟩
theorem vok_mX12_opensSign : x_vok mX12_opensSign 1 := ⟨cok_mX12_opensSign, x_tb_in (List.mem_of_getElem? (i := 1597) (by decide +kernel)) (by decide +kernel), x_tb_in (List.mem_of_getElem? (i := 59) (by decide +kernel)) (by decide +kernel), rfl⟩
set_option maxRecDepth 100000 in
theorem cok_mX12_ordersOf : x_cok mX12_ordersOf 1 := ⟨ini_X12, x_tb_in (List.mem_of_getElem? (i := 1731) rfl) rfl, ⟨by decide, by decide, by decide +kernel⟩, by decide⟩
theorem vok_mX12_ordersOf : x_vok mX12_ordersOf 1 := ⟨cok_mX12_ordersOf, x_tb_in (List.mem_of_getElem? (i := 1730) (by decide +kernel)) (by decide +kernel), x_tb_in (List.mem_of_getElem? (i := 87) (by decide +kernel)) (by decide +kernel), rfl⟩
set_option maxRecDepth 100000 in
theorem cok_mX12_played : x_cok mX12_played 1 := ⟨ini_X12, x_tb_in (List.mem_of_getElem? (i := 1830) rfl) rfl, ⟨by decide, by decide, by decide +kernel⟩, by decide⟩
theorem vok_mX12_played : x_vok mX12_played 1 := ⟨cok_mX12_played, x_tb_in (List.mem_of_getElem? (i := 1828) (by decide +kernel)) (by decide +kernel), x_tb_in (List.mem_of_getElem? (i := 1829) (by decide +kernel)) (by decide +kernel), rfl⟩
set_option maxRecDepth 100000 in
theorem cok_mX12_push : x_cok mX12_push 2 := ⟨ini_X12, x_tb_in (List.mem_of_getElem? (i := 1703) rfl) rfl, ⟨by decide, by decide, by decide +kernel⟩, by decide⟩
theorem vok_mX12_push : x_vok mX12_push 2 := ⟨cok_mX12_push, x_tb_in (List.mem_of_getElem? (i := 1701) (by decide +kernel)) (by decide +kernel), x_tb_in (List.mem_of_getElem? (i := 1702) (by decide +kernel)) (by decide +kernel), rfl⟩
set_option maxRecDepth 100000 in
theorem cok_mX12_pusher : x_cok mX12_pusher 1 := ⟨ini_X12, x_tb_in (List.mem_of_getElem? (i := 1522) rfl) rfl, ⟨by decide, by decide, by decide +kernel⟩, by decide⟩
theorem vok_mX12_pusher : x_vok mX12_pusher 1 := ⟨cok_mX12_pusher, x_tb_in (List.mem_of_getElem? (i := 1520) (by decide +kernel)) (by decide +kernel), x_tb_in (List.mem_of_getElem? (i := 1521) (by decide +kernel)) (by decide +kernel), rfl⟩
set_option maxRecDepth 100000 in
theorem cok_mX12_pushes : x_cok mX12_pushes 2 := ⟨ini_X12, x_tb_in (List.mem_of_getElem? (i := 1723) rfl) rfl, ⟨by decide, by decide, by decide +kernel⟩, by decide⟩
theorem vok_mX12_pushes : x_vok mX12_pushes 2 := ⟨cok_mX12_pushes, x_tb_in (List.mem_of_getElem? (i := 1722) (by decide +kernel)) (by decide +kernel), x_tb_in (List.mem_of_getElem? (i := 85) (by decide +kernel)) (by decide +kernel), rfl⟩
set_option maxRecDepth 100000 in
theorem cok_mX12_put : x_cok mX12_put 1 := ⟨ini_X12, x_tb_in (List.mem_of_getElem? (i := 1534) rfl) rfl, ⟨by decide, by decide, by decide +kernel⟩, by decide⟩
theorem vok_mX12_put : x_vok mX12_put 1 := ⟨cok_mX12_put, x_tb_in (List.mem_of_getElem? (i := 1533) (by decide +kernel)) (by decide +kernel), x_tb_in (List.mem_of_getElem? (i := 55) (by decide +kernel)) (by decide +kernel), rfl⟩
set_option maxRecDepth 100000 in
theorem cok_mX12_rank : x_cok mX12_rank 1 := ⟨ini_X12, x_tb_in (List.mem_of_getElem? (i := 1648) rfl) rfl, ⟨by decide, by decide, by decide +kernel⟩, by decide⟩
theorem stt_mX12_rank : Cond.static mX12_rank.1 ∈ x_tb := x_tb_in (List.mem_of_getElem? (i := 1647) (by decide +kernel)) (by decide +kernel)
set_option maxRecDepth 100000 in
theorem cok_mX12_rolls : x_cok mX12_rolls 0 := ⟨ini_X12, x_tb_in (List.mem_of_getElem? (i := 1788) rfl) rfl, ⟨by decide, by decide, by decide +kernel⟩, by decide⟩
theorem vok_mX12_rolls : x_vok mX12_rolls 0 := ⟨cok_mX12_rolls, x_tb_in (List.mem_of_getElem? (i := 1787) (by decide +kernel)) (by decide +kernel), x_tb_in (List.mem_of_getElem? (i := 96) (by decide +kernel)) (by decide +kernel), rfl⟩
set_option maxRecDepth 100000 in
theorem cok_mX12_route : x_cok mX12_route 1 := ⟨ini_X12, x_tb_in (List.mem_of_getElem? (i := 1889) rfl) rfl, ⟨by decide, by decide, by decide +kernel⟩, by decide⟩
theorem vok_mX12_route : x_vok mX12_route 1 := ⟨cok_mX12_route, x_tb_in (List.mem_of_getElem? (i := 1887) (by decide +kernel)) (by decide +kernel), x_tb_in (List.mem_of_getElem? (i := 1888) (by decide +kernel)) (by decide +kernel), rfl⟩
set_option maxRecDepth 100000 in
theorem cok_mX12_saysOf : x_cok mX12_saysOf 1 := ⟨ini_X12, x_tb_in (List.mem_of_getElem? (i := 1739) rfl) rfl, ⟨by decide, by decide, by decide +kernel⟩, by decide⟩
theorem vok_mX12_saysOf : x_vok mX12_saysOf 1 := ⟨cok_mX12_saysOf, x_tb_in (List.mem_of_getElem? (i := 1738) (by decide +kernel)) (by decide +kernel), x_tb_in (List.mem_of_getElem? (i := 89) (by decide +kernel)) (by decide +kernel), rfl⟩
set_option maxRecDepth 100000 in
theorem cok_mX12_text : x_cok mX12_text 0 := ⟨ini_X12, x_tb_in (List.mem_of_getElem? (i := 1542) rfl) rfl, ⟨by decide, by decide, by decide +kernel⟩, by decide⟩
theorem vok_mX12_text : x_vok mX12_text 0 := ⟨cok_mX12_text, x_tb_in (List.mem_of_getElem? (i := 1540) (by decide +kernel)) (by decide +kernel), x_tb_in (List.mem_of_getElem? (i := 1541) (by decide +kernel)) (by decide +kernel), rfl⟩
set_option maxRecDepth 100000 in
theorem cok_mX12_thieves : x_cok mX12_thieves 0 := ⟨ini_X12, x_tb_in (List.mem_of_getElem? (i := 1954) rfl) rfl, ⟨by decide, by decide, by decide +kernel⟩, by decide⟩
theorem vok_mX12_thieves : x_vok mX12_thieves 0 := ⟨cok_mX12_thieves, x_tb_in (List.mem_of_getElem? (i := 1952) (by decide +kernel)) (by decide +kernel), x_tb_in (List.mem_of_getElem? (i := 1953) (by decide +kernel)) (by decide +kernel), rfl⟩
set_option maxRecDepth 100000 in
theorem cok_mX12_tip : x_cok mX12_tip 0 := ⟨ini_X12, x_tb_in (List.mem_of_getElem? (i := 1764) rfl) rfl, ⟨by decide, by decide, by decide +kernel⟩, by decide⟩
theorem vok_mX12_tip : x_vok mX12_tip 0 := ⟨cok_mX12_tip, x_tb_in (List.mem_of_getElem? (i := 1762) (by decide +kernel)) (by decide +kernel), x_tb_in (List.mem_of_getElem? (i := 1763) (by decide +kernel)) (by decide +kernel), rfl⟩
set_option maxRecDepth 100000 in
theorem cok_mX12_tips : x_cok mX12_tips 0 := ⟨ini_X12, x_tb_in (List.mem_of_getElem? (i := 1768) rfl) rfl, ⟨by decide, by decide, by decide +kernel⟩, by decide⟩
theorem vok_mX12_tips : x_vok mX12_tips 0 := ⟨cok_mX12_tips, x_tb_in (List.mem_of_getElem? (i := 1767) (by decide +kernel)) (by decide +kernel), x_tb_in (List.mem_of_getElem? (i := 93) (by decide +kernel)) (by decide +kernel), rfl⟩
set_option maxRecDepth 100000 in
theorem cok_mX12_top : x_cok mX12_top 0 := ⟨ini_X12, x_tb_in (List.mem_of_getElem? (i := 1626) rfl) rfl, ⟨by decide, by decide, by decide +kernel⟩, by decide⟩
theorem vok_mX12_top : x_vok mX12_top 0 := ⟨cok_mX12_top, x_tb_in (List.mem_of_getElem? (i := 1625) (by decide +kernel)) (by decide +kernel), x_tb_in (List.mem_of_getElem? (i := 66) (by decide +kernel)) (by decide +kernel), rfl⟩
set_option maxRecDepth 100000 in
theorem cok_mX12_turnsTo : x_cok mX12_turnsTo 2 := ⟨ini_X12, x_tb_in (List.mem_of_getElem? (i := 1656) rfl) rfl, ⟨by decide, by decide, by decide +kernel⟩, by decide⟩
theorem vok_mX12_turnsTo : x_vok mX12_turnsTo 2 := ⟨cok_mX12_turnsTo, x_tb_in (List.mem_of_getElem? (i := 1655) (by decide +kernel)) (by decide +kernel), x_tb_in (List.mem_of_getElem? (i := 72) (by decide +kernel)) (by decide +kernel), rfl⟩
set_option maxRecDepth 100000 in
theorem cok_mX12_two : x_cok mX12_two 3 := ⟨ini_X12, x_tb_in (List.mem_of_getElem? (i := 1849) rfl) rfl, ⟨by decide, by decide, by decide +kernel⟩, by decide⟩
theorem vok_mX12_two : x_vok mX12_two 3 := ⟨cok_mX12_two, x_tb_in (List.mem_of_getElem? (i := 1847) (by decide +kernel)) (by decide +kernel), x_tb_in (List.mem_of_getElem? (i := 1848) (by decide +kernel)) (by decide +kernel), rfl⟩
set_option maxRecDepth 100000 in
theorem cok_mX12_undo : x_cok mX12_undo 0 := ⟨ini_X12, x_tb_in (List.mem_of_getElem? (i := 1526) rfl) rfl, ⟨by decide, by decide, by decide +kernel⟩, by decide⟩
theorem vok_mX12_undo : x_vok mX12_undo 0 := ⟨cok_mX12_undo, x_tb_in (List.mem_of_getElem? (i := 1524) (by decide +kernel)) (by decide +kernel), x_tb_in (List.mem_of_getElem? (i := 1525) (by decide +kernel)) (by decide +kernel), rfl⟩
set_option maxRecDepth 100000 in
theorem cok_mX12_waitsFor : x_cok mX12_waitsFor 1 := ⟨ini_X12, x_tb_in (List.mem_of_getElem? (i := 1645) rfl) rfl, ⟨by decide, by decide, by decide +kernel⟩, by decide⟩
theorem vok_mX12_waitsFor : x_vok mX12_waitsFor 1 := ⟨cok_mX12_waitsFor, x_tb_in (List.mem_of_getElem? (i := 1644) (by decide +kernel)) (by decide +kernel), x_tb_in (List.mem_of_getElem? (i := 70) (by decide +kernel)) (by decide +kernel), rfl⟩
set_option maxRecDepth 100000 in
theorem cok_mX12_want : x_cok mX12_want 2 := ⟨ini_X12, x_tb_in (List.mem_of_getElem? (i := 1877) rfl) rfl, ⟨by decide, by decide, by decide +kernel⟩, by decide⟩
theorem vok_mX12_want : x_vok mX12_want 2 := ⟨cok_mX12_want, x_tb_in (List.mem_of_getElem? (i := 1875) (by decide +kernel)) (by decide +kernel), x_tb_in (List.mem_of_getElem? (i := 1876) (by decide +kernel)) (by decide +kernel), rfl⟩
set_option maxRecDepth 100000 in
theorem cok_mX12_warmOf : x_cok mX12_warmOf 2 := ⟨ini_X12, x_tb_in (List.mem_of_getElem? (i := 1853) rfl) rfl, ⟨by decide, by decide, by decide +kernel⟩, by decide⟩
theorem vok_mX12_warmOf : x_vok mX12_warmOf 2 := ⟨cok_mX12_warmOf, x_tb_in (List.mem_of_getElem? (i := 1852) (by decide +kernel)) (by decide +kernel), x_tb_in (List.mem_of_getElem? (i := 105) (by decide +kernel)) (by decide +kernel), rfl⟩
set_option maxRecDepth 100000 in
theorem cok_mX12_wasTold : x_cok mX12_wasTold 1 := ⟨ini_X12, x_tb_in (List.mem_of_getElem? (i := 1679) rfl) rfl, ⟨by decide, by decide, by decide +kernel⟩, by decide⟩
theorem vok_mX12_wasTold : x_vok mX12_wasTold 1 := ⟨cok_mX12_wasTold, x_tb_in (List.mem_of_getElem? (i := 1678) (by decide +kernel)) (by decide +kernel), x_tb_in (List.mem_of_getElem? (i := 77) (by decide +kernel)) (by decide +kernel), rfl⟩
set_option maxRecDepth 100000 in
theorem cok_mX12_watch : x_cok mX12_watch 2 := ⟨ini_X12, x_tb_in (List.mem_of_getElem? (i := 1958) rfl) rfl, ⟨by decide, by decide, by decide +kernel⟩, by decide⟩
theorem vok_mX12_watch : x_vok mX12_watch 2 := ⟨cok_mX12_watch, x_tb_in (List.mem_of_getElem? (i := 1956) (by decide +kernel)) (by decide +kernel), x_tb_in (List.mem_of_getElem? (i := 1957) (by decide +kernel)) (by decide +kernel), rfl⟩
set_option maxRecDepth 100000 in
theorem cok_mX12_watchedBy : x_cok mX12_watchedBy 2 := ⟨ini_X12, x_tb_in (List.mem_of_getElem? (i := 1965) rfl) rfl, ⟨by decide, by decide, by decide +kernel⟩, by decide⟩
theorem vok_mX12_watchedBy : x_vok mX12_watchedBy 2 := ⟨cok_mX12_watchedBy, x_tb_in (List.mem_of_getElem? (i := 1964) (by decide +kernel)) (by decide +kernel), x_tb_in (List.mem_of_getElem? (i := 113) (by decide +kernel)) (by decide +kernel), rfl⟩
set_option maxRecDepth 100000 in
theorem cok_mX12_wearsNow : x_cok mX12_wearsNow 0 := ⟨ini_X12, x_tb_in (List.mem_of_getElem? (i := 1792) rfl) rfl, ⟨by decide, by decide, by decide +kernel⟩, by decide⟩
theorem vok_mX12_wearsNow : x_vok mX12_wearsNow 0 := ⟨cok_mX12_wearsNow, x_tb_in (List.mem_of_getElem? (i := 1791) (by decide +kernel)) (by decide +kernel), x_tb_in (List.mem_of_getElem? (i := 97) (by decide +kernel)) (by decide +kernel), rfl⟩
set_option maxRecDepth 100000 in
theorem cok_mX12_weight : x_cok mX12_weight 2 := ⟨ini_X12, x_tb_in (List.mem_of_getElem? (i := 1925) rfl) rfl, ⟨by decide, by decide, by decide +kernel⟩, by decide⟩
theorem vok_mX12_weight : x_vok mX12_weight 2 := ⟨cok_mX12_weight, x_tb_in (List.mem_of_getElem? (i := 1923) (by decide +kernel)) (by decide +kernel), x_tb_in (List.mem_of_getElem? (i := 1924) (by decide +kernel)) (by decide +kernel), rfl⟩
set_option maxRecDepth 100000 in
theorem cok_mX12_winner : x_cok mX12_winner 0 := ⟨ini_X12, x_tb_in (List.mem_of_getElem? (i := 1910) rfl) rfl, ⟨by decide, by decide, by decide +kernel⟩, by decide⟩
theorem vok_mX12_winner : x_vok mX12_winner 0 := ⟨cok_mX12_winner, x_tb_in (List.mem_of_getElem? (i := 1908) (by decide +kernel)) (by decide +kernel), x_tb_in (List.mem_of_getElem? (i := 1909) (by decide +kernel)) (by decide +kernel), rfl⟩
set_option maxRecDepth 100000 in
theorem cok_mX12_wordOf : x_cok mX12_wordOf 1 := ⟨ini_X12, x_tb_in (List.mem_of_getElem? (i := 1553) rfl) rfl, ⟨by decide, by decide, by decide +kernel⟩, by decide⟩
theorem stt_mX12_wordOf : Cond.static mX12_wordOf.1 ∈ x_tb := x_tb_in (List.mem_of_getElem? (i := 1552) (by decide +kernel)) (by decide +kernel)
set_option maxRecDepth 100000 in
theorem cok_mX12_worked : x_cok mX12_worked 3 := ⟨ini_X12, x_tb_in (List.mem_of_getElem? (i := 1743) rfl) rfl, ⟨by decide, by decide, by decide +kernel⟩, by decide⟩
theorem vok_mX12_worked : x_vok mX12_worked 3 := ⟨cok_mX12_worked, x_tb_in (List.mem_of_getElem? (i := 1742) (by decide +kernel)) (by decide +kernel), x_tb_in (List.mem_of_getElem? (i := 90) (by decide +kernel)) (by decide +kernel), rfl⟩
set_option maxRecDepth 100000 in
theorem cok_mX12_works : x_cok mX12_works 1 := ⟨ini_X12, x_tb_in (List.mem_of_getElem? (i := 1652) rfl) rfl, ⟨by decide, by decide, by decide +kernel⟩, by decide⟩
theorem vok_mX12_works : x_vok mX12_works 1 := ⟨cok_mX12_works, x_tb_in (List.mem_of_getElem? (i := 1651) (by decide +kernel)) (by decide +kernel), x_tb_in (List.mem_of_getElem? (i := 71) (by decide +kernel)) (by decide +kernel), rfl⟩
set_option maxRecDepth 100000 in
theorem cok_mX12_writes : x_cok mX12_writes 1 := ⟨ini_X12, x_tb_in (List.mem_of_getElem? (i := 1810) rfl) rfl, ⟨by decide, by decide, by decide +kernel⟩, by decide⟩
theorem vok_mX12_writes : x_vok mX12_writes 1 := ⟨cok_mX12_writes, x_tb_in (List.mem_of_getElem? (i := 1809) (by decide +kernel)) (by decide +kernel), x_tb_in (List.mem_of_getElem? (i := 100) (by decide +kernel)) (by decide +kernel), rfl⟩
set_option maxRecDepth 100000 in
theorem cok_mX12_yard : x_cok mX12_yard 0 := ⟨ini_X12, x_tb_in (List.mem_of_getElem? (i := 1945) rfl) rfl, ⟨by decide, by decide, by decide +kernel⟩, by decide⟩
theorem vok_mX12_yard : x_vok mX12_yard 0 := ⟨cok_mX12_yard, x_tb_in (List.mem_of_getElem? (i := 1943) (by decide +kernel)) (by decide +kernel), x_tb_in (List.mem_of_getElem? (i := 1944) (by decide +kernel)) (by decide +kernel), rfl⟩
set_option maxRecDepth 100000 in
theorem cok_mX12_years : x_cok mX12_years 2 := ⟨ini_X12, x_tb_in (List.mem_of_getElem? (i := 1814) rfl) rfl, ⟨by decide, by decide, by decide +kernel⟩, by decide⟩
theorem vok_mX12_years : x_vok mX12_years 2 := ⟨cok_mX12_years, x_tb_in (List.mem_of_getElem? (i := 1812) (by decide +kernel)) (by decide +kernel), x_tb_in (List.mem_of_getElem? (i := 1813) (by decide +kernel)) (by decide +kernel), rfl⟩
set_option maxRecDepth 100000 in
theorem cok_mX1_copyFrom : x_cok mX1_copyFrom 1 := ⟨ini_X1, x_tb_in (List.mem_of_getElem? (i := 612) rfl) rfl, ⟨by decide, by decide, by decide +kernel⟩, by decide⟩
theorem vok_mX1_copyFrom : x_vok mX1_copyFrom 1 := ⟨cok_mX1_copyFrom, x_tb_in (List.mem_of_getElem? (i := 610) (by decide +kernel)) (by decide +kernel), x_tb_in (List.mem_of_getElem? (i := 611) (by decide +kernel)) (by decide +kernel), rfl⟩
set_option maxRecDepth 100000 in
theorem cok_mX1_debtWritten : x_cok mX1_debtWritten 2 := ⟨ini_X1, x_tb_in (List.mem_of_getElem? (i := 1119) rfl) rfl, ⟨by decide, by decide, by decide +kernel⟩, by decide⟩
theorem vok_mX1_debtWritten : x_vok mX1_debtWritten 2 := ⟨cok_mX1_debtWritten, x_tb_in (List.mem_of_getElem? (i := 1117) (by decide +kernel)) (by decide +kernel), x_tb_in (List.mem_of_getElem? (i := 1118) (by decide +kernel)) (by decide +kernel), rfl⟩
set_option maxRecDepth 100000 in
theorem cok_mX1_draw : x_cok mX1_draw 1 := ⟨ini_X1, x_tb_in (List.mem_of_getElem? (i := 771) rfl) rfl, ⟨by decide, by decide, by decide +kernel⟩, by decide⟩
theorem vok_mX1_draw : x_vok mX1_draw 1 := ⟨cok_mX1_draw, x_tb_in (List.mem_of_getElem? (i := 769) (by decide +kernel)) (by decide +kernel), x_tb_in (List.mem_of_getElem? (i := 770) (by decide +kernel)) (by decide +kernel), rfl⟩
set_option maxRecDepth 100000 in
theorem cok_mX1_lieAt : x_cok mX1_lieAt 1 := ⟨ini_X1, x_tb_in (List.mem_of_getElem? (i := 705) rfl) rfl, ⟨by decide, by decide, by decide +kernel⟩, by decide⟩
theorem vok_mX1_lieAt : x_vok mX1_lieAt 1 := ⟨cok_mX1_lieAt, x_tb_in (List.mem_of_getElem? (i := 703) (by decide +kernel)) (by decide +kernel), x_tb_in (List.mem_of_getElem? (i := 704) (by decide +kernel)) (by decide +kernel), rfl⟩
set_option maxRecDepth 100000 in
theorem cok_mX1_paleOf : x_cok mX1_paleOf 1 := ⟨ini_X1, x_tb_in (List.mem_of_getElem? (i := 749) rfl) rfl, ⟨by decide, by decide, by decide +kernel⟩, by decide⟩
theorem vok_mX1_paleOf : x_vok mX1_paleOf 1 := ⟨cok_mX1_paleOf, x_tb_in (List.mem_of_getElem? (i := 747) (by decide +kernel)) (by decide +kernel), x_tb_in (List.mem_of_getElem? (i := 748) (by decide +kernel)) (by decide +kernel), rfl⟩
set_option maxRecDepth 100000 in
theorem cok_mX1_purseOf : x_cok mX1_purseOf 1 := ⟨ini_X1, x_tb_in (List.mem_of_getElem? (i := 753) rfl) rfl, ⟨by decide, by decide, by decide +kernel⟩, by decide⟩
theorem vok_mX1_purseOf : x_vok mX1_purseOf 1 := ⟨cok_mX1_purseOf, x_tb_in (List.mem_of_getElem? (i := 751) (by decide +kernel)) (by decide +kernel), x_tb_in (List.mem_of_getElem? (i := 752) (by decide +kernel)) (by decide +kernel), rfl⟩
set_option maxRecDepth 100000 in
theorem cok_mX1_writeDebt : x_cok mX1_writeDebt 2 := ⟨ini_X1, x_tb_in (List.mem_of_getElem? (i := 758) rfl) rfl, ⟨by decide, by decide, by decide +kernel⟩, by decide⟩
theorem vok_mX1_writeDebt : x_vok mX1_writeDebt 2 := ⟨cok_mX1_writeDebt, x_tb_in (List.mem_of_getElem? (i := 756) (by decide +kernel)) (by decide +kernel), x_tb_in (List.mem_of_getElem? (i := 757) (by decide +kernel)) (by decide +kernel), rfl⟩
set_option maxRecDepth 100000 in
theorem cok_mX2_canSetOff : x_cok mX2_canSetOff 3 := ⟨ini_X2, x_tb_in (List.mem_of_getElem? (i := 592) rfl) rfl, ⟨by decide, by decide, by decide +kernel⟩, by decide⟩
theorem vok_mX2_canSetOff : x_vok mX2_canSetOff 3 := ⟨cok_mX2_canSetOff, x_tb_in (List.mem_of_getElem? (i := 590) (by decide +kernel)) (by decide +kernel), x_tb_in (List.mem_of_getElem? (i := 591) (by decide +kernel)) (by decide +kernel), rfl⟩
set_option maxRecDepth 100000 in
theorem cok_mX2_doAsDrawn : x_cok mX2_doAsDrawn 1 := ⟨ini_X2, x_tb_in (List.mem_of_getElem? (i := 767) rfl) rfl, ⟨by decide, by decide, by decide +kernel⟩, by decide⟩
theorem vok_mX2_doAsDrawn : x_vok mX2_doAsDrawn 1 := ⟨cok_mX2_doAsDrawn, x_tb_in (List.mem_of_getElem? (i := 765) (by decide +kernel)) (by decide +kernel), x_tb_in (List.mem_of_getElem? (i := 766) (by decide +kernel)) (by decide +kernel), rfl⟩
set_option maxRecDepth 100000 in
theorem cok_mX2_fallsInDebt : x_cok mX2_fallsInDebt 2 := ⟨ini_X2, x_tb_in (List.mem_of_getElem? (i := 732) rfl) rfl, ⟨by decide, by decide, by decide +kernel⟩, by decide⟩
theorem vok_mX2_fallsInDebt : x_vok mX2_fallsInDebt 2 := ⟨cok_mX2_fallsInDebt, x_tb_in (List.mem_of_getElem? (i := 731) (by decide +kernel)) (by decide +kernel), x_tb_in (List.mem_of_getElem? (i := 8) (by decide +kernel)) (by decide +kernel), rfl⟩
set_option maxRecDepth 100000 in
theorem cok_mX2_passMinute : x_cok mX2_passMinute 1 := ⟨ini_X2, x_tb_in (List.mem_of_getElem? (i := 718) rfl) rfl, ⟨by decide, by decide, by decide +kernel⟩, by decide⟩
theorem vok_mX2_passMinute : x_vok mX2_passMinute 1 := ⟨cok_mX2_passMinute, x_tb_in (List.mem_of_getElem? (i := 716) (by decide +kernel)) (by decide +kernel), x_tb_in (List.mem_of_getElem? (i := 717) (by decide +kernel)) (by decide +kernel), rfl⟩
set_option maxRecDepth 100000 in
theorem cok_mX2_roll : x_cok mX2_roll 1 := ⟨ini_X2, x_tb_in (List.mem_of_getElem? (i := 722) rfl) rfl, ⟨by decide, by decide, by decide +kernel⟩, by decide⟩
theorem vok_mX2_roll : x_vok mX2_roll 1 := ⟨cok_mX2_roll, x_tb_in (List.mem_of_getElem? (i := 720) (by decide +kernel)) (by decide +kernel), x_tb_in (List.mem_of_getElem? (i := 721) (by decide +kernel)) (by decide +kernel), rfl⟩
set_option maxRecDepth 100000 in
theorem cok_mX2_setOff : x_cok mX2_setOff 3 := ⟨ini_X2, x_tb_in (List.mem_of_getElem? (i := 619) rfl) rfl, ⟨by decide, by decide, by decide +kernel⟩, by decide⟩
theorem vok_mX2_setOff : x_vok mX2_setOff 3 := ⟨cok_mX2_setOff, x_tb_in (List.mem_of_getElem? (i := 617) (by decide +kernel)) (by decide +kernel), x_tb_in (List.mem_of_getElem? (i := 618) (by decide +kernel)) (by decide +kernel), rfl⟩
set_option maxRecDepth 100000 in
theorem cok_mX2_setOffAsDrawn : x_cok mX2_setOffAsDrawn 1 := ⟨ini_X2, x_tb_in (List.mem_of_getElem? (i := 775) rfl) rfl, ⟨by decide, by decide, by decide +kernel⟩, by decide⟩
theorem vok_mX2_setOffAsDrawn : x_vok mX2_setOffAsDrawn 1 := ⟨cok_mX2_setOffAsDrawn, x_tb_in (List.mem_of_getElem? (i := 774) (by decide +kernel)) (by decide +kernel), x_tb_in (List.mem_of_getElem? (i := 9) (by decide +kernel)) (by decide +kernel), rfl⟩
set_option maxRecDepth 100000 in
theorem cok_mX2_tipOver : x_cok mX2_tipOver 1 := ⟨ini_X2, x_tb_in (List.mem_of_getElem? (i := 701) rfl) rfl, ⟨by decide, by decide, by decide +kernel⟩, by decide⟩
theorem vok_mX2_tipOver : x_vok mX2_tipOver 1 := ⟨cok_mX2_tipOver, x_tb_in (List.mem_of_getElem? (i := 699) (by decide +kernel)) (by decide +kernel), x_tb_in (List.mem_of_getElem? (i := 700) (by decide +kernel)) (by decide +kernel), rfl⟩
set_option maxRecDepth 100000 in
theorem cok_mX3_addHouse : x_cok mX3_addHouse 1 := ⟨ini_X3, x_tb_in (List.mem_of_getElem? (i := 552) rfl) rfl, ⟨by decide, by decide, by decide +kernel⟩, by decide⟩
theorem vok_mX3_addHouse : x_vok mX3_addHouse 1 := ⟨cok_mX3_addHouse, x_tb_in (List.mem_of_getElem? (i := 550) (by decide +kernel)) (by decide +kernel), x_tb_in (List.mem_of_getElem? (i := 551) (by decide +kernel)) (by decide +kernel), rfl⟩
set_option maxRecDepth 100000 in
theorem cok_mX3_addPusher : x_cok mX3_addPusher 1 := ⟨ini_X3, x_tb_in (List.mem_of_getElem? (i := 584) rfl) rfl, ⟨by decide, by decide, by decide +kernel⟩, by decide⟩
theorem vok_mX3_addPusher : x_vok mX3_addPusher 1 := ⟨cok_mX3_addPusher, x_tb_in (List.mem_of_getElem? (i := 582) (by decide +kernel)) (by decide +kernel), x_tb_in (List.mem_of_getElem? (i := 583) (by decide +kernel)) (by decide +kernel), rfl⟩
set_option maxRecDepth 100000 in
theorem cok_mX3_copyFrom : x_cok mX3_copyFrom 1 := ⟨ini_X3, x_tb_in (List.mem_of_getElem? (i := 1332) rfl) rfl, ⟨by decide, by decide, by decide +kernel⟩, by decide⟩
theorem vok_mX3_copyFrom : x_vok mX3_copyFrom 1 := ⟨cok_mX3_copyFrom, x_tb_in (List.mem_of_getElem? (i := 1330) (by decide +kernel)) (by decide +kernel), x_tb_in (List.mem_of_getElem? (i := 1331) (by decide +kernel)) (by decide +kernel), rfl⟩
set_option maxRecDepth 100000 in
theorem cok_mX3_hillOf : x_cok mX3_hillOf 1 := ⟨ini_X3, x_tb_in (List.mem_of_getElem? (i := 636) rfl) rfl, ⟨by decide, by decide, by decide +kernel⟩, by decide⟩
theorem vok_mX3_hillOf : x_vok mX3_hillOf 1 := ⟨cok_mX3_hillOf, x_tb_in (List.mem_of_getElem? (i := 634) (by decide +kernel)) (by decide +kernel), x_tb_in (List.mem_of_getElem? (i := 635) (by decide +kernel)) (by decide +kernel), rfl⟩
set_option maxRecDepth 100000 in
theorem cok_mX3_hourBy : x_cok mX3_hourBy 2 := ⟨ini_X3, x_tb_in (List.mem_of_getElem? (i := 740) rfl) rfl, ⟨by decide, by decide, by decide +kernel⟩, by decide⟩
theorem vok_mX3_hourBy : x_vok mX3_hourBy 2 := ⟨cok_mX3_hourBy, x_tb_in (List.mem_of_getElem? (i := 738) (by decide +kernel)) (by decide +kernel), x_tb_in (List.mem_of_getElem? (i := 739) (by decide +kernel)) (by decide +kernel), rfl⟩
set_option maxRecDepth 100000 in
theorem cok_mX3_isHouse : x_cok mX3_isHouse 1 := ⟨ini_X3, x_tb_in (List.mem_of_getElem? (i := 571) rfl) rfl, ⟨by decide, by decide, by decide +kernel⟩, by decide⟩
theorem vok_mX3_isHouse : x_vok mX3_isHouse 1 := ⟨cok_mX3_isHouse, x_tb_in (List.mem_of_getElem? (i := 569) (by decide +kernel)) (by decide +kernel), x_tb_in (List.mem_of_getElem? (i := 570) (by decide +kernel)) (by decide +kernel), rfl⟩
set_option maxRecDepth 100000 in
theorem cok_mX3_isPusher : x_cok mX3_isPusher 1 := ⟨ini_X3, x_tb_in (List.mem_of_getElem? (i := 596) rfl) rfl, ⟨by decide, by decide, by decide +kernel⟩, by decide⟩
theorem vok_mX3_isPusher : x_vok mX3_isPusher 1 := ⟨cok_mX3_isPusher, x_tb_in (List.mem_of_getElem? (i := 594) (by decide +kernel)) (by decide +kernel), x_tb_in (List.mem_of_getElem? (i := 595) (by decide +kernel)) (by decide +kernel), rfl⟩
set_option maxRecDepth 100000 in
theorem cok_mX3_laneBetween : x_cok mX3_laneBetween 2 := ⟨ini_X3, x_tb_in (List.mem_of_getElem? (i := 600) rfl) rfl, ⟨by decide, by decide, by decide +kernel⟩, by decide⟩
theorem vok_mX3_laneBetween : x_vok mX3_laneBetween 2 := ⟨cok_mX3_laneBetween, x_tb_in (List.mem_of_getElem? (i := 598) (by decide +kernel)) (by decide +kernel), x_tb_in (List.mem_of_getElem? (i := 599) (by decide +kernel)) (by decide +kernel), rfl⟩
set_option maxRecDepth 100000 in
theorem cok_mX3_measure : x_cok mX3_measure 0 := ⟨ini_X3, x_tb_in (List.mem_of_getElem? (i := 556) rfl) rfl, ⟨by decide, by decide, by decide +kernel⟩, by decide⟩
theorem vok_mX3_measure : x_vok mX3_measure 0 := ⟨cok_mX3_measure, x_tb_in (List.mem_of_getElem? (i := 555) (by decide +kernel)) (by decide +kernel), x_tb_in (List.mem_of_getElem? (i := 0) (by decide +kernel)) (by decide +kernel), rfl⟩
set_option maxRecDepth 100000 in
theorem cok_mX3_noteDown : x_cok mX3_noteDown 4 := ⟨ini_X3, x_tb_in (List.mem_of_getElem? (i := 1137) rfl) rfl, ⟨by decide, by decide, by decide +kernel⟩, by decide⟩
theorem vok_mX3_noteDown : x_vok mX3_noteDown 4 := ⟨cok_mX3_noteDown, x_tb_in (List.mem_of_getElem? (i := 1135) (by decide +kernel)) (by decide +kernel), x_tb_in (List.mem_of_getElem? (i := 1136) (by decide +kernel)) (by decide +kernel), rfl⟩
set_option maxRecDepth 100000 in
theorem cok_mX3_setLane : x_cok mX3_setLane 3 := ⟨ini_X3, x_tb_in (List.mem_of_getElem? (i := 575) rfl) rfl, ⟨by decide, by decide, by decide +kernel⟩, by decide⟩
theorem vok_mX3_setLane : x_vok mX3_setLane 3 := ⟨cok_mX3_setLane, x_tb_in (List.mem_of_getElem? (i := 573) (by decide +kernel)) (by decide +kernel), x_tb_in (List.mem_of_getElem? (i := 574) (by decide +kernel)) (by decide +kernel), rfl⟩
set_option maxRecDepth 100000 in
theorem cok_mX3_shorten : x_cok mX3_shorten 2 := ⟨ini_X3, x_tb_in (List.mem_of_getElem? (i := 560) rfl) rfl, ⟨by decide, by decide, by decide +kernel⟩, by decide⟩
theorem vok_mX3_shorten : x_vok mX3_shorten 2 := ⟨cok_mX3_shorten, x_tb_in (List.mem_of_getElem? (i := 559) (by decide +kernel)) (by decide +kernel), x_tb_in (List.mem_of_getElem? (i := 1) (by decide +kernel)) (by decide +kernel), rfl⟩
set_option maxRecDepth 100000 in
theorem cok_mX3_strengthOf : x_cok mX3_strengthOf 1 := ⟨ini_X3, x_tb_in (List.mem_of_getElem? (i := 648) rfl) rfl, ⟨by decide, by decide, by decide +kernel⟩, by decide⟩
theorem vok_mX3_strengthOf : x_vok mX3_strengthOf 1 := ⟨cok_mX3_strengthOf, x_tb_in (List.mem_of_getElem? (i := 646) (by decide +kernel)) (by decide +kernel), x_tb_in (List.mem_of_getElem? (i := 647) (by decide +kernel)) (by decide +kernel), rfl⟩
set_option maxRecDepth 100000 in
theorem cok_mX3_wayBetween : x_cok mX3_wayBetween 2 := ⟨ini_X3, x_tb_in (List.mem_of_getElem? (i := 681) rfl) rfl, ⟨by decide, by decide, by decide +kernel⟩, by decide⟩
theorem vok_mX3_wayBetween : x_vok mX3_wayBetween 2 := ⟨cok_mX3_wayBetween, x_tb_in (List.mem_of_getElem? (i := 679) (by decide +kernel)) (by decide +kernel), x_tb_in (List.mem_of_getElem? (i := 680) (by decide +kernel)) (by decide +kernel), rfl⟩
set_option maxRecDepth 100000 in
theorem cok_mX4_earning : x_cok mX4_earning 2 := ⟨ini_X4, x_tb_in (List.mem_of_getElem? (i := 736) rfl) rfl, ⟨by decide, by decide, by decide +kernel⟩, by decide⟩
theorem vok_mX4_earning : x_vok mX4_earning 2 := ⟨cok_mX4_earning, x_tb_in (List.mem_of_getElem? (i := 734) (by decide +kernel)) (by decide +kernel), x_tb_in (List.mem_of_getElem? (i := 735) (by decide +kernel)) (by decide +kernel), rfl⟩
set_option maxRecDepth 100000 in
theorem cok_mX4_hardness : x_cok mX4_hardness 4 := ⟨ini_X4, x_tb_in (List.mem_of_getElem? (i := 623) rfl) rfl, ⟨by decide, by decide, by decide +kernel⟩, by decide⟩
theorem vok_mX4_hardness : x_vok mX4_hardness 4 := ⟨cok_mX4_hardness, x_tb_in (List.mem_of_getElem? (i := 621) (by decide +kernel)) (by decide +kernel), x_tb_in (List.mem_of_getElem? (i := 622) (by decide +kernel)) (by decide +kernel), rfl⟩
set_option maxRecDepth 100000 in
theorem cok_mX4_joined : x_cok mX4_joined 3 := ⟨ini_X4, x_tb_in (List.mem_of_getElem? (i := 684) rfl) rfl, ⟨by decide, by decide, by decide +kernel⟩, by decide⟩
theorem stt_mX4_joined : Cond.static mX4_joined.1 ∈ x_tb := x_tb_in (List.mem_of_getElem? (i := 683) (by decide +kernel)) (by decide +kernel)
set_option maxRecDepth 100000 in
theorem cok_mX4_lay : x_cok mX4_lay 1 := ⟨ini_X4, x_tb_in (List.mem_of_getElem? (i := 673) rfl) rfl, ⟨by decide, by decide, by decide +kernel⟩, by decide⟩
theorem vok_mX4_lay : x_vok mX4_lay 1 := ⟨cok_mX4_lay, x_tb_in (List.mem_of_getElem? (i := 672) (by decide +kernel)) (by decide +kernel), x_tb_in (List.mem_of_getElem? (i := 6) (by decide +kernel)) (by decide +kernel), rfl⟩
set_option maxRecDepth 100000 in
theorem cok_mX4_lift : x_cok mX4_lift 0 := ⟨ini_X4, x_tb_in (List.mem_of_getElem? (i := 677) rfl) rfl, ⟨by decide, by decide, by decide +kernel⟩, by decide⟩
theorem vok_mX4_lift : x_vok mX4_lift 0 := ⟨cok_mX4_lift, x_tb_in (List.mem_of_getElem? (i := 676) (by decide +kernel)) (by decide +kernel), x_tb_in (List.mem_of_getElem? (i := 7) (by decide +kernel)) (by decide +kernel), rfl⟩
set_option maxRecDepth 100000 in
theorem cok_mX4_nameHere : x_cok mX4_nameHere 2 := ⟨ini_X4, x_tb_in (List.mem_of_getElem? (i := 643) rfl) rfl, ⟨by decide, by decide, by decide +kernel⟩, by decide⟩
theorem vok_mX4_nameHere : x_vok mX4_nameHere 2 := ⟨cok_mX4_nameHere, x_tb_in (List.mem_of_getElem? (i := 642) (by decide +kernel)) (by decide +kernel), x_tb_in (List.mem_of_getElem? (i := 4) (by decide +kernel)) (by decide +kernel), rfl⟩
set_option maxRecDepth 100000 in
theorem cok_mX4_rules : x_cok mX4_rules 1 := ⟨ini_X4, x_tb_in (List.mem_of_getElem? (i := 628) rfl) rfl, ⟨by decide, by decide, by decide +kernel⟩, by decide⟩
theorem vok_mX4_rules : x_vok mX4_rules 1 := ⟨cok_mX4_rules, x_tb_in (List.mem_of_getElem? (i := 627) (by decide +kernel)) (by decide +kernel), x_tb_in (List.mem_of_getElem? (i := 3) (by decide +kernel)) (by decide +kernel), rfl⟩
set_option maxRecDepth 100000 in
theorem cok_mX4_said : x_cok mX4_said 1 := ⟨ini_X4, x_tb_in (List.mem_of_getElem? (i := 653) rfl) rfl, ⟨by decide, by decide, by decide +kernel⟩, by decide⟩
theorem vok_mX4_said : x_vok mX4_said 1 := ⟨cok_mX4_said, x_tb_in (List.mem_of_getElem? (i := 652) (by decide +kernel)) (by decide +kernel), x_tb_in (List.mem_of_getElem? (i := 5) (by decide +kernel)) (by decide +kernel), rfl⟩
set_option maxRecDepth 100000 in
theorem cok_mX4_warmth : x_cok mX4_warmth 3 := ⟨ini_X4, x_tb_in (List.mem_of_getElem? (i := 1100) rfl) rfl, ⟨by decide, by decide, by decide +kernel⟩, by decide⟩
theorem vok_mX4_warmth : x_vok mX4_warmth 3 := ⟨cok_mX4_warmth, x_tb_in (List.mem_of_getElem? (i := 1098) (by decide +kernel)) (by decide +kernel), x_tb_in (List.mem_of_getElem? (i := 1099) (by decide +kernel)) (by decide +kernel), rfl⟩
set_option maxRecDepth 100000 in
theorem cok_mX4_wearing : x_cok mX4_wearing 1 := ⟨ini_X4, x_tb_in (List.mem_of_getElem? (i := 727) rfl) rfl, ⟨by decide, by decide, by decide +kernel⟩, by decide⟩
theorem vok_mX4_wearing : x_vok mX4_wearing 1 := ⟨cok_mX4_wearing, x_tb_in (List.mem_of_getElem? (i := 725) (by decide +kernel)) (by decide +kernel), x_tb_in (List.mem_of_getElem? (i := 726) (by decide +kernel)) (by decide +kernel), rfl⟩
set_option maxRecDepth 100000 in
theorem cok_mX5_copyFrom : x_cok mX5_copyFrom 1 := ⟨ini_X5, x_tb_in (List.mem_of_getElem? (i := 1337) rfl) rfl, ⟨by decide, by decide, by decide +kernel⟩, by decide⟩
theorem vok_mX5_copyFrom : x_vok mX5_copyFrom 1 := ⟨cok_mX5_copyFrom, x_tb_in (List.mem_of_getElem? (i := 1335) (by decide +kernel)) (by decide +kernel), x_tb_in (List.mem_of_getElem? (i := 1336) (by decide +kernel)) (by decide +kernel), rfl⟩
set_option maxRecDepth 100000 in
theorem cok_mX6_compares : x_cok mX6_compares 1 := ⟨ini_X6, x_tb_in (List.mem_of_getElem? (i := 1019) rfl) rfl, ⟨by decide, by decide, by decide +kernel⟩, by decide⟩
theorem stt_mX6_compares : Cond.static mX6_compares.1 ∈ x_tb := x_tb_in (List.mem_of_getElem? (i := 1018) (by decide +kernel)) (by decide +kernel)
set_option maxRecDepth 100000 in
theorem cok_mX6_expect : x_cok mX6_expect 1 := ⟨ini_X6, x_tb_in (List.mem_of_getElem? (i := 996) rfl) rfl, ⟨by decide, by decide, by decide +kernel⟩, by decide⟩
theorem vok_mX6_expect : x_vok mX6_expect 1 := ⟨cok_mX6_expect, x_tb_in (List.mem_of_getElem? (i := 995) (by decide +kernel)) (by decide +kernel), x_tb_in (List.mem_of_getElem? (i := 24) (by decide +kernel)) (by decide +kernel), rfl⟩
set_option maxRecDepth 100000 in
theorem cok_mX6_expectNumber : x_cok mX6_expectNumber 2 := ⟨ini_X6, x_tb_in (List.mem_of_getElem? (i := 976) rfl) rfl, ⟨by decide, by decide, by decide +kernel⟩, by decide⟩
theorem vok_mX6_expectNumber : x_vok mX6_expectNumber 2 := ⟨cok_mX6_expectNumber, x_tb_in (List.mem_of_getElem? (i := 975) (by decide +kernel)) (by decide +kernel), x_tb_in (List.mem_of_getElem? (i := 21) (by decide +kernel)) (by decide +kernel), rfl⟩
set_option maxRecDepth 100000 in
theorem cok_mX6_isNext : x_cok mX6_isNext 1 := ⟨ini_X6, x_tb_in (List.mem_of_getElem? (i := 984) rfl) rfl, ⟨by decide, by decide, by decide +kernel⟩, by decide⟩
theorem vok_mX6_isNext : x_vok mX6_isNext 1 := ⟨cok_mX6_isNext, x_tb_in (List.mem_of_getElem? (i := 983) (by decide +kernel)) (by decide +kernel), x_tb_in (List.mem_of_getElem? (i := 22) (by decide +kernel)) (by decide +kernel), rfl⟩
set_option maxRecDepth 100000 in
theorem cok_mX6_opens : x_cok mX6_opens 1 := ⟨ini_X6, x_tb_in (List.mem_of_getElem? (i := 992) rfl) rfl, ⟨by decide, by decide, by decide +kernel⟩, by decide⟩
theorem vok_mX6_opens : x_vok mX6_opens 1 := ⟨cok_mX6_opens, x_tb_in (List.mem_of_getElem? (i := 991) (by decide +kernel)) (by decide +kernel), x_tb_in (List.mem_of_getElem? (i := 23) (by decide +kernel)) (by decide +kernel), rfl⟩
set_option maxRecDepth 100000 in
theorem cok_mX6_read : x_cok mX6_read 1 := ⟨ini_X6, x_tb_in (List.mem_of_getElem? (i := 799) rfl) rfl, ⟨by decide, by decide, by decide +kernel⟩, by decide⟩
theorem vok_mX6_read : x_vok mX6_read 1 := ⟨cok_mX6_read, x_tb_in (List.mem_of_getElem? (i := 797) (by decide +kernel)) (by decide +kernel), x_tb_in (List.mem_of_getElem? (i := 798) (by decide +kernel)) (by decide +kernel), rfl⟩
set_option maxRecDepth 100000 in
theorem cok_mX6_readAsk : x_cok mX6_readAsk 1 := ⟨ini_X6, x_tb_in (List.mem_of_getElem? (i := 1016) rfl) rfl, ⟨by decide, by decide, by decide +kernel⟩, by decide⟩
theorem vok_mX6_readAsk : x_vok mX6_readAsk 1 := ⟨cok_mX6_readAsk, x_tb_in (List.mem_of_getElem? (i := 1015) (by decide +kernel)) (by decide +kernel), x_tb_in (List.mem_of_getElem? (i := 29) (by decide +kernel)) (by decide +kernel), rfl⟩
set_option maxRecDepth 100000 in
theorem cok_mX6_readBoth : x_cok mX6_readBoth 1 := ⟨ini_X6, x_tb_in (List.mem_of_getElem? (i := 1012) rfl) rfl, ⟨by decide, by decide, by decide +kernel⟩, by decide⟩
theorem vok_mX6_readBoth : x_vok mX6_readBoth 1 := ⟨cok_mX6_readBoth, x_tb_in (List.mem_of_getElem? (i := 1011) (by decide +kernel)) (by decide +kernel), x_tb_in (List.mem_of_getElem? (i := 28) (by decide +kernel)) (by decide +kernel), rfl⟩
set_option maxRecDepth 100000 in
theorem cok_mX6_readClause : x_cok mX6_readClause 0 := ⟨ini_X6, x_tb_in (List.mem_of_getElem? (i := 951) rfl) rfl, ⟨by decide, by decide, by decide +kernel⟩, by decide⟩
theorem vok_mX6_readClause : x_vok mX6_readClause 0 := ⟨cok_mX6_readClause, x_tb_in (List.mem_of_getElem? (i := 950) (by decide +kernel)) (by decide +kernel), x_tb_in (List.mem_of_getElem? (i := 16) (by decide +kernel)) (by decide +kernel), rfl⟩
set_option maxRecDepth 100000 in
theorem cok_mX6_readDeed : x_cok mX6_readDeed 1 := ⟨ini_X6, x_tb_in (List.mem_of_getElem? (i := 1041) rfl) rfl, ⟨by decide, by decide, by decide +kernel⟩, by decide⟩
theorem vok_mX6_readDeed : x_vok mX6_readDeed 1 := ⟨cok_mX6_readDeed, x_tb_in (List.mem_of_getElem? (i := 1040) (by decide +kernel)) (by decide +kernel), x_tb_in (List.mem_of_getElem? (i := 31) (by decide +kernel)) (by decide +kernel), rfl⟩
set_option maxRecDepth 100000 in
theorem cok_mX6_readEither : x_cok mX6_readEither 1 := ⟨ini_X6, x_tb_in (List.mem_of_getElem? (i := 1008) rfl) rfl, ⟨by decide, by decide, by decide +kernel⟩, by decide⟩
theorem vok_mX6_readEither : x_vok mX6_readEither 1 := ⟨cok_mX6_readEither, x_tb_in (List.mem_of_getElem? (i := 1007) (by decide +kernel)) (by decide +kernel), x_tb_in (List.mem_of_getElem? (i := 27) (by decide +kernel)) (by decide +kernel), rfl⟩
set_option maxRecDepth 100000 in
theorem cok_mX6_readFar : x_cok mX6_readFar 1 := ⟨ini_X6, x_tb_in (List.mem_of_getElem? (i := 1000) rfl) rfl, ⟨by decide, by decide, by decide +kernel⟩, by decide⟩
theorem vok_mX6_readFar : x_vok mX6_readFar 1 := ⟨cok_mX6_readFar, x_tb_in (List.mem_of_getElem? (i := 999) (by decide +kernel)) (by decide +kernel), x_tb_in (List.mem_of_getElem? (i := 25) (by decide +kernel)) (by decide +kernel), rfl⟩
set_option maxRecDepth 100000 in
theorem cok_mX6_readIf : x_cok mX6_readIf 1 := ⟨ini_X6, x_tb_in (List.mem_of_getElem? (i := 1004) rfl) rfl, ⟨by decide, by decide, by decide +kernel⟩, by decide⟩
theorem vok_mX6_readIf : x_vok mX6_readIf 1 := ⟨cok_mX6_readIf, x_tb_in (List.mem_of_getElem? (i := 1003) (by decide +kernel)) (by decide +kernel), x_tb_in (List.mem_of_getElem? (i := 26) (by decide +kernel)) (by decide +kernel), rfl⟩
set_option maxRecDepth 100000 in
theorem cok_mX6_readName : x_cok mX6_readName 0 := ⟨ini_X6, x_tb_in (List.mem_of_getElem? (i := 1027) rfl) rfl, ⟨by decide, by decide, by decide +kernel⟩, by decide⟩
theorem vok_mX6_readName : x_vok mX6_readName 0 := ⟨cok_mX6_readName, x_tb_in (List.mem_of_getElem? (i := 1026) (by decide +kernel)) (by decide +kernel), x_tb_in (List.mem_of_getElem? (i := 30) (by decide +kernel)) (by decide +kernel), rfl⟩
set_option maxRecDepth 100000 in
theorem cok_mX6_readOne : x_cok mX6_readOne 1 := ⟨ini_X6, x_tb_in (List.mem_of_getElem? (i := 972) rfl) rfl, ⟨by decide, by decide, by decide +kernel⟩, by decide⟩
theorem vok_mX6_readOne : x_vok mX6_readOne 1 := ⟨cok_mX6_readOne, x_tb_in (List.mem_of_getElem? (i := 971) (by decide +kernel)) (by decide +kernel), x_tb_in (List.mem_of_getElem? (i := 20) (by decide +kernel)) (by decide +kernel), rfl⟩
set_option maxRecDepth 100000 in
theorem cok_mX6_readProduct : x_cok mX6_readProduct 1 := ⟨ini_X6, x_tb_in (List.mem_of_getElem? (i := 968) rfl) rfl, ⟨by decide, by decide, by decide +kernel⟩, by decide⟩
theorem vok_mX6_readProduct : x_vok mX6_readProduct 1 := ⟨cok_mX6_readProduct, x_tb_in (List.mem_of_getElem? (i := 967) (by decide +kernel)) (by decide +kernel), x_tb_in (List.mem_of_getElem? (i := 19) (by decide +kernel)) (by decide +kernel), rfl⟩
set_option maxRecDepth 100000 in
theorem cok_mX6_readSum : x_cok mX6_readSum 1 := ⟨ini_X6, x_tb_in (List.mem_of_getElem? (i := 964) rfl) rfl, ⟨by decide, by decide, by decide +kernel⟩, by decide⟩
theorem vok_mX6_readSum : x_vok mX6_readSum 1 := ⟨cok_mX6_readSum, x_tb_in (List.mem_of_getElem? (i := 963) (by decide +kernel)) (by decide +kernel), x_tb_in (List.mem_of_getElem? (i := 18) (by decide +kernel)) (by decide +kernel), rfl⟩
set_option maxRecDepth 100000 in
theorem cok_mX6_refuse : x_cok mX6_refuse 1 := ⟨ini_X6, x_tb_in (List.mem_of_getElem? (i := 955) rfl) rfl, ⟨by decide, by decide, by decide +kernel⟩, by decide⟩
theorem vok_mX6_refuse : x_vok mX6_refuse 1 := ⟨cok_mX6_refuse, x_tb_in (List.mem_of_getElem? (i := 954) (by decide +kernel)) (by decide +kernel), x_tb_in (List.mem_of_getElem? (i := 17) (by decide +kernel)) (by decide +kernel), rfl⟩
set_option maxRecDepth 100000 in
theorem cok_mX7_copyFrom : x_cok mX7_copyFrom 1 := ⟨ini_X7, x_tb_in (List.mem_of_getElem? (i := 1342) rfl) rfl, ⟨by decide, by decide, by decide +kernel⟩, by decide⟩
theorem vok_mX7_copyFrom : x_vok mX7_copyFrom 1 := ⟨cok_mX7_copyFrom, x_tb_in (List.mem_of_getElem? (i := 1340) (by decide +kernel)) (by decide +kernel), x_tb_in (List.mem_of_getElem? (i := 1341) (by decide +kernel)) (by decide +kernel), rfl⟩
set_option maxRecDepth 100000 in
theorem cok_mX7_dayAt : x_cok mX7_dayAt 1 := ⟨ini_X7, x_tb_in (List.mem_of_getElem? (i := 608) rfl) rfl, ⟨by decide, by decide, by decide +kernel⟩, by decide⟩
theorem vok_mX7_dayAt : x_vok mX7_dayAt 1 := ⟨cok_mX7_dayAt, x_tb_in (List.mem_of_getElem? (i := 607) (by decide +kernel)) (by decide +kernel), x_tb_in (List.mem_of_getElem? (i := 2) (by decide +kernel)) (by decide +kernel), rfl⟩
set_option maxRecDepth 100000 in
theorem cok_mX7_keep : x_cok mX7_keep 1 := ⟨ini_X7, x_tb_in (List.mem_of_getElem? (i := 604) rfl) rfl, ⟨by decide, by decide, by decide +kernel⟩, by decide⟩
theorem vok_mX7_keep : x_vok mX7_keep 1 := ⟨cok_mX7_keep, x_tb_in (List.mem_of_getElem? (i := 602) (by decide +kernel)) (by decide +kernel), x_tb_in (List.mem_of_getElem? (i := 603) (by decide +kernel)) (by decide +kernel), rfl⟩
set_option maxRecDepth 100000 in
theorem cok_mX7_takeBack : x_cok mX7_takeBack 1 := ⟨ini_X7, x_tb_in (List.mem_of_getElem? (i := 1081) rfl) rfl, ⟨by decide, by decide, by decide +kernel⟩, by decide⟩
theorem vok_mX7_takeBack : x_vok mX7_takeBack 1 := ⟨cok_mX7_takeBack, x_tb_in (List.mem_of_getElem? (i := 1079) (by decide +kernel)) (by decide +kernel), x_tb_in (List.mem_of_getElem? (i := 1080) (by decide +kernel)) (by decide +kernel), rfl⟩
set_option maxRecDepth 100000 in
theorem cok_mX8_addFour : x_cok mX8_addFour 1 := ⟨ini_X8, x_tb_in (List.mem_of_getElem? (i := 787) rfl) rfl, ⟨by decide, by decide, by decide +kernel⟩, by decide⟩
theorem vok_mX8_addFour : x_vok mX8_addFour 1 := ⟨cok_mX8_addFour, x_tb_in (List.mem_of_getElem? (i := 785) (by decide +kernel)) (by decide +kernel), x_tb_in (List.mem_of_getElem? (i := 786) (by decide +kernel)) (by decide +kernel), rfl⟩
set_option maxRecDepth 100000 in
theorem cok_mX8_byteAt : x_cok mX8_byteAt 1 := ⟨ini_X8, x_tb_in (List.mem_of_getElem? (i := 811) rfl) rfl, ⟨by decide, by decide, by decide +kernel⟩, by decide⟩
theorem vok_mX8_byteAt : x_vok mX8_byteAt 1 := ⟨cok_mX8_byteAt, x_tb_in (List.mem_of_getElem? (i := 810) (by decide +kernel)) (by decide +kernel), x_tb_in (List.mem_of_getElem? (i := 10) (by decide +kernel)) (by decide +kernel), rfl⟩
set_option maxRecDepth 100000 in
theorem cok_mX8_cut : x_cok mX8_cut 0 := ⟨ini_X8, x_tb_in (List.mem_of_getElem? (i := 807) rfl) rfl, ⟨by decide, by decide, by decide +kernel⟩, by decide⟩
theorem vok_mX8_cut : x_vok mX8_cut 0 := ⟨cok_mX8_cut, x_tb_in (List.mem_of_getElem? (i := 805) (by decide +kernel)) (by decide +kernel), x_tb_in (List.mem_of_getElem? (i := 806) (by decide +kernel)) (by decide +kernel), rfl⟩
set_option maxRecDepth 100000 in
theorem cok_mX8_cutNumber : x_cok mX8_cutNumber 1 := ⟨ini_X8, x_tb_in (List.mem_of_getElem? (i := 882) rfl) rfl, ⟨by decide, by decide, by decide +kernel⟩, by decide⟩
theorem vok_mX8_cutNumber : x_vok mX8_cutNumber 1 := ⟨cok_mX8_cutNumber, x_tb_in (List.mem_of_getElem? (i := 881) (by decide +kernel)) (by decide +kernel), x_tb_in (List.mem_of_getElem? (i := 14) (by decide +kernel)) (by decide +kernel), rfl⟩
set_option maxRecDepth 100000 in
theorem cok_mX8_cutSign : x_cok mX8_cutSign 1 := ⟨ini_X8, x_tb_in (List.mem_of_getElem? (i := 887) rfl) rfl, ⟨by decide, by decide, by decide +kernel⟩, by decide⟩
theorem vok_mX8_cutSign : x_vok mX8_cutSign 1 := ⟨cok_mX8_cutSign, x_tb_in (List.mem_of_getElem? (i := 886) (by decide +kernel)) (by decide +kernel), x_tb_in (List.mem_of_getElem? (i := 15) (by decide +kernel)) (by decide +kernel), rfl⟩
set_option maxRecDepth 100000 in
theorem cok_mX8_cutWord : x_cok mX8_cutWord 1 := ⟨ini_X8, x_tb_in (List.mem_of_getElem? (i := 818) rfl) rfl, ⟨by decide, by decide, by decide +kernel⟩, by decide⟩
theorem vok_mX8_cutWord : x_vok mX8_cutWord 1 := ⟨cok_mX8_cutWord, x_tb_in (List.mem_of_getElem? (i := 817) (by decide +kernel)) (by decide +kernel), x_tb_in (List.mem_of_getElem? (i := 11) (by decide +kernel)) (by decide +kernel), rfl⟩
set_option maxRecDepth 100000 in
theorem cok_mX8_isDigit : x_cok mX8_isDigit 1 := ⟨ini_X8, x_tb_in (List.mem_of_getElem? (i := 878) rfl) rfl, ⟨by decide, by decide, by decide +kernel⟩, by decide⟩
theorem stt_mX8_isDigit : Cond.static mX8_isDigit.1 ∈ x_tb := x_tb_in (List.mem_of_getElem? (i := 877) (by decide +kernel)) (by decide +kernel)
set_option maxRecDepth 100000 in
theorem cok_mX8_isLetter : x_cok mX8_isLetter 1 := ⟨ini_X8, x_tb_in (List.mem_of_getElem? (i := 814) rfl) rfl, ⟨by decide, by decide, by decide +kernel⟩, by decide⟩
theorem stt_mX8_isLetter : Cond.static mX8_isLetter.1 ∈ x_tb := x_tb_in (List.mem_of_getElem? (i := 813) (by decide +kernel)) (by decide +kernel)
set_option maxRecDepth 100000 in
theorem cok_mX8_kindAt : x_cok mX8_kindAt 1 := ⟨ini_X8, x_tb_in (List.mem_of_getElem? (i := 947) rfl) rfl, ⟨by decide, by decide, by decide +kernel⟩, by decide⟩
theorem vok_mX8_kindAt : x_vok mX8_kindAt 1 := ⟨cok_mX8_kindAt, x_tb_in (List.mem_of_getElem? (i := 945) (by decide +kernel)) (by decide +kernel), x_tb_in (List.mem_of_getElem? (i := 946) (by decide +kernel)) (by decide +kernel), rfl⟩
set_option maxRecDepth 100000 in
theorem cok_mX8_note : x_cok mX8_note 3 := ⟨ini_X8, x_tb_in (List.mem_of_getElem? (i := 875) rfl) rfl, ⟨by decide, by decide, by decide +kernel⟩, by decide⟩
theorem vok_mX8_note : x_vok mX8_note 3 := ⟨cok_mX8_note, x_tb_in (List.mem_of_getElem? (i := 874) (by decide +kernel)) (by decide +kernel), x_tb_in (List.mem_of_getElem? (i := 13) (by decide +kernel)) (by decide +kernel), rfl⟩
set_option maxRecDepth 100000 in
theorem cok_mX8_placeAt : x_cok mX8_placeAt 1 := ⟨ini_X8, x_tb_in (List.mem_of_getElem? (i := 959) rfl) rfl, ⟨by decide, by decide, by decide +kernel⟩, by decide⟩
theorem vok_mX8_placeAt : x_vok mX8_placeAt 1 := ⟨cok_mX8_placeAt, x_tb_in (List.mem_of_getElem? (i := 957) (by decide +kernel)) (by decide +kernel), x_tb_in (List.mem_of_getElem? (i := 958) (by decide +kernel)) (by decide +kernel), rfl⟩
set_option maxRecDepth 100000 in
theorem cok_mX8_valueAt : x_cok mX8_valueAt 1 := ⟨ini_X8, x_tb_in (List.mem_of_getElem? (i := 980) rfl) rfl, ⟨by decide, by decide, by decide +kernel⟩, by decide⟩
theorem vok_mX8_valueAt : x_vok mX8_valueAt 1 := ⟨cok_mX8_valueAt, x_tb_in (List.mem_of_getElem? (i := 978) (by decide +kernel)) (by decide +kernel), x_tb_in (List.mem_of_getElem? (i := 979) (by decide +kernel)) (by decide +kernel), rfl⟩
set_option maxRecDepth 100000 in
theorem cok_mX8_wordOf : x_cok mX8_wordOf 2 := ⟨ini_X8, x_tb_in (List.mem_of_getElem? (i := 822) rfl) rfl, ⟨by decide, by decide, by decide +kernel⟩, by decide⟩
theorem vok_mX8_wordOf : x_vok mX8_wordOf 2 := ⟨cok_mX8_wordOf, x_tb_in (List.mem_of_getElem? (i := 821) (by decide +kernel)) (by decide +kernel), x_tb_in (List.mem_of_getElem? (i := 12) (by decide +kernel)) (by decide +kernel), rfl⟩
set_option maxRecDepth 100000 in
theorem cok_mX9_addClause : x_cok mX9_addClause 4 := ⟨ini_X9, x_tb_in (List.mem_of_getElem? (i := 1037) rfl) rfl, ⟨by decide, by decide, by decide +kernel⟩, by decide⟩
theorem vok_mX9_addClause : x_vok mX9_addClause 4 := ⟨cok_mX9_addClause, x_tb_in (List.mem_of_getElem? (i := 1035) (by decide +kernel)) (by decide +kernel), x_tb_in (List.mem_of_getElem? (i := 1036) (by decide +kernel)) (by decide +kernel), rfl⟩
set_option maxRecDepth 100000 in
theorem cok_mX9_ask : x_cok mX9_ask 2 := ⟨ini_X9, x_tb_in (List.mem_of_getElem? (i := 988) rfl) rfl, ⟨by decide, by decide, by decide +kernel⟩, by decide⟩
theorem vok_mX9_ask : x_vok mX9_ask 2 := ⟨cok_mX9_ask, x_tb_in (List.mem_of_getElem? (i := 986) (by decide +kernel)) (by decide +kernel), x_tb_in (List.mem_of_getElem? (i := 987) (by decide +kernel)) (by decide +kernel), rfl⟩
set_option maxRecDepth 100000 in
theorem cok_mX9_empty : x_cok mX9_empty 0 := ⟨ini_X9, x_tb_in (List.mem_of_getElem? (i := 803) rfl) rfl, ⟨by decide, by decide, by decide +kernel⟩, by decide⟩
theorem vok_mX9_empty : x_vok mX9_empty 0 := ⟨cok_mX9_empty, x_tb_in (List.mem_of_getElem? (i := 801) (by decide +kernel)) (by decide +kernel), x_tb_in (List.mem_of_getElem? (i := 802) (by decide +kernel)) (by decide +kernel), rfl⟩
set_option maxRecDepth 100000 in
theorem cok_mX9_givenAt : x_cok mX9_givenAt 1 := ⟨ini_X9, x_tb_in (List.mem_of_getElem? (i := 665) rfl) rfl, ⟨by decide, by decide, by decide +kernel⟩, by decide⟩
theorem vok_mX9_givenAt : x_vok mX9_givenAt 1 := ⟨cok_mX9_givenAt, x_tb_in (List.mem_of_getElem? (i := 663) (by decide +kernel)) (by decide +kernel), x_tb_in (List.mem_of_getElem? (i := 664) (by decide +kernel)) (by decide +kernel), rfl⟩
set_option maxRecDepth 100000 in
theorem cok_mX9_goOnHere : x_cok mX9_goOnHere 1 := ⟨ini_X9, x_tb_in (List.mem_of_getElem? (i := 1023) rfl) rfl, ⟨by decide, by decide, by decide +kernel⟩, by decide⟩
theorem vok_mX9_goOnHere : x_vok mX9_goOnHere 1 := ⟨cok_mX9_goOnHere, x_tb_in (List.mem_of_getElem? (i := 1021) (by decide +kernel)) (by decide +kernel), x_tb_in (List.mem_of_getElem? (i := 1022) (by decide +kernel)) (by decide +kernel), rfl⟩
set_option maxRecDepth 100000 in
theorem cok_mX9_hasLaw : x_cok mX9_hasLaw 1 := ⟨ini_X9, x_tb_in (List.mem_of_getElem? (i := 632) rfl) rfl, ⟨by decide, by decide, by decide +kernel⟩, by decide⟩
theorem vok_mX9_hasLaw : x_vok mX9_hasLaw 1 := ⟨cok_mX9_hasLaw, x_tb_in (List.mem_of_getElem? (i := 630) (by decide +kernel)) (by decide +kernel), x_tb_in (List.mem_of_getElem? (i := 631) (by decide +kernel)) (by decide +kernel), rfl⟩
set_option maxRecDepth 100000 in
theorem cok_mX9_lawEnd : x_cok mX9_lawEnd 1 := ⟨ini_X9, x_tb_in (List.mem_of_getElem? (i := 657) rfl) rfl, ⟨by decide, by decide, by decide +kernel⟩, by decide⟩
theorem vok_mX9_lawEnd : x_vok mX9_lawEnd 1 := ⟨cok_mX9_lawEnd, x_tb_in (List.mem_of_getElem? (i := 655) (by decide +kernel)) (by decide +kernel), x_tb_in (List.mem_of_getElem? (i := 656) (by decide +kernel)) (by decide +kernel), rfl⟩
set_option maxRecDepth 100000 in
theorem cok_mX9_lawStart : x_cok mX9_lawStart 1 := ⟨ini_X9, x_tb_in (List.mem_of_getElem? (i := 661) rfl) rfl, ⟨by decide, by decide, by decide +kernel⟩, by decide⟩
theorem vok_mX9_lawStart : x_vok mX9_lawStart 1 := ⟨cok_mX9_lawStart, x_tb_in (List.mem_of_getElem? (i := 659) (by decide +kernel)) (by decide +kernel), x_tb_in (List.mem_of_getElem? (i := 660) (by decide +kernel)) (by decide +kernel), rfl⟩
set_option maxRecDepth 100000 in
theorem cok_mX9_setLaw : x_cok mX9_setLaw 2 := ⟨ini_X9, x_tb_in (List.mem_of_getElem? (i := 1033) rfl) rfl, ⟨by decide, by decide, by decide +kernel⟩, by decide⟩
theorem vok_mX9_setLaw : x_vok mX9_setLaw 2 := ⟨cok_mX9_setLaw, x_tb_in (List.mem_of_getElem? (i := 1031) (by decide +kernel)) (by decide +kernel), x_tb_in (List.mem_of_getElem? (i := 1032) (by decide +kernel)) (by decide +kernel), rfl⟩
set_option maxRecDepth 100000 in
theorem cok_mX9_stepAt : x_cok mX9_stepAt 1 := ⟨ini_X9, x_tb_in (List.mem_of_getElem? (i := 669) rfl) rfl, ⟨by decide, by decide, by decide +kernel⟩, by decide⟩
theorem vok_mX9_stepAt : x_vok mX9_stepAt 1 := ⟨cok_mX9_stepAt, x_tb_in (List.mem_of_getElem? (i := 667) (by decide +kernel)) (by decide +kernel), x_tb_in (List.mem_of_getElem? (i := 668) (by decide +kernel)) (by decide +kernel), rfl⟩
