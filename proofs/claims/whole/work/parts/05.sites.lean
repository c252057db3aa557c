/-! ===== sites of calls ===== -/
theorem si_X11_97 : slSiteV RX11 97 11 mX11_feedBytes 1 := ⟨⟨lw_in2 _ (List.mem_of_getElem? (i := 220) (by decide +kernel)), ms_X11_feedBytes⟩, mv_X11_feedBytes⟩
theorem si_X11_108 : slSiteV RX11 108 7 mX7_read 2 := ⟨⟨lw_in4 _ (List.mem_of_getElem? (i := 28) (by decide +kernel)), ms_X7_read⟩, mv_X7_read⟩
theorem si_X11_115 : slSiteV RX11 115 11 mX11_takeWhatWasRead 0 := ⟨⟨lw_in5 _ (List.mem_of_getElem? (i := 61) (by decide +kernel)), ms_X11_takeWhatWasRead⟩, mv_X11_takeWhatWasRead⟩
theorem si_X11_166 : slSiteV RX11 166 11 mX11_needLight 1 := ⟨⟨lw_in5 _ (List.mem_of_getElem? (i := 96) (by decide +kernel)), ms_X11_needLight⟩, mv_X11_needLight⟩
theorem si_X11_190 : slSiteV RX11 190 11 mX11_needShip 1 := ⟨⟨lw_in5 _ (List.mem_of_getElem? (i := 108) (by decide +kernel)), ms_X11_needShip⟩, mv_X11_needShip⟩
theorem si_X11_193 : slSiteS RX11 193 mX11_needWhat 2 := ⟨⟨lw_in5 _ (List.mem_of_getElem? (i := 113) (by decide +kernel)), ms_X11_needWhat⟩, mt_X11_needWhat⟩
theorem si_X11_203 : slSiteV RX11 203 11 mX11_settle 0 := ⟨⟨lw_in3 _ (List.mem_of_getElem? (i := 28) (by decide +kernel)), ms_X11_settle⟩, mv_X11_settle⟩
theorem si_X11_206 : slSiteV RX11 206 3 mX3_firstUnseen 1 := ⟨⟨lw_in5 _ (List.mem_of_getElem? (i := 116) (by decide +kernel)), ms_X3_firstUnseen⟩, mv_X3_firstUnseen⟩
theorem si_X11_210 : slSiteV RX11 210 3 mX3_longestDark 1 := ⟨⟨lw_in5 _ (List.mem_of_getElem? (i := 124) (by decide +kernel)), ms_X3_longestDark⟩, mv_X3_longestDark⟩
theorem si_X11_213 : slSiteS RX11 213 mX11_needHour 1 := ⟨⟨lw_in5 _ (List.mem_of_getElem? (i := 136) (by decide +kernel)), ms_X11_needHour⟩, mt_X11_needHour⟩
theorem si_X11_216 : slSiteV RX11 216 3 mX3_cellOf 2 := ⟨⟨lw_in5 _ (List.mem_of_getElem? (i := 140) (by decide +kernel)), ms_X3_cellOf⟩, mv_X3_cellOf⟩
theorem si_X11_220 : slSiteS RX11 220 mX11_oilIn 2 := ⟨⟨lw_in3 _ (List.mem_of_getElem? (i := 79) (by decide +kernel)), ms_X11_oilIn⟩, mt_X11_oilIn⟩
theorem si_X11_223 : slSiteS RX11 223 mX11_isLit 2 := ⟨⟨lw_in5 _ (List.mem_of_getElem? (i := 151) (by decide +kernel)), ms_X11_isLit⟩, mt_X11_isLit⟩
theorem si_X11_227 : slSiteV RX11 227 3 mX3_sightsOf 2 := ⟨⟨lw_in5 _ (List.mem_of_getElem? (i := 159) (by decide +kernel)), ms_X3_sightsOf⟩, mv_X3_sightsOf⟩
theorem si_X11_230 : slSiteS RX11 230 mX11_needNight 1 := ⟨⟨lw_in5 _ (List.mem_of_getElem? (i := 167) (by decide +kernel)), ms_X11_needNight⟩, mt_X11_needNight⟩
theorem si_X11_233 : slSiteV RX11 233 3 mX3_hoursBy 3 := ⟨⟨lw_in5 _ (List.mem_of_getElem? (i := 171) (by decide +kernel)), ms_X3_hoursBy⟩, mv_X3_hoursBy⟩
theorem si_X11_237 : slSiteV RX11 237 3 mX3_contentBy 4 := ⟨⟨lw_in5 _ (List.mem_of_getElem? (i := 179) (by decide +kernel)), ms_X3_contentBy⟩, mv_X3_contentBy⟩
theorem si_X11_241 : slSiteS RX11 241 mX11_needTwo 2 := ⟨⟨lw_in5 _ (List.mem_of_getElem? (i := 190) (by decide +kernel)), ms_X11_needTwo⟩, mt_X11_needTwo⟩
theorem si_X11_244 : slSiteV RX11 244 1 mX1_farBetween 2 := ⟨⟨lw_in5 _ (List.mem_of_getElem? (i := 194) (by decide +kernel)), ms_X1_farBetween⟩, mv_X1_farBetween⟩
theorem si_X11_247 : slSiteV RX11 247 11 mX11_refuseAct 0 := ⟨⟨lw_in2 _ (List.mem_of_getElem? (i := 236) (by decide +kernel)), ms_X11_refuseAct⟩, mv_X11_refuseAct⟩
theorem si_X11_251 : slSiteV RX11 251 11 mX11_act 3 := ⟨⟨lw_in3 _ (List.mem_of_getElem? (i := 0) (by decide +kernel)), ms_X11_act⟩, mv_X11_act⟩
theorem si_X11_254 : slSiteV RX11 254 11 mX11_canMoor 2 := ⟨⟨lw_in5 _ (List.mem_of_getElem? (i := 212) (by decide +kernel)), ms_X11_canMoor⟩, mv_X11_canMoor⟩
theorem si_X11_257 : slSiteV RX11 257 11 mX11_canBegin 3 := ⟨⟨lw_in5 _ (List.mem_of_getElem? (i := 224) (by decide +kernel)), ms_X11_canBegin⟩, mv_X11_canBegin⟩
theorem si_X11_261 : slSiteV RX11 261 11 mX11_isLawOrNone 1 := ⟨⟨lw_in2 _ (List.mem_of_getElem? (i := 232) (by decide +kernel)), ms_X11_isLawOrNone⟩, mv_X11_isLawOrNone⟩
theorem si_X11_265 : slSiteV RX11 265 8 mX8_undoLast 0 := ⟨⟨lw_in3 _ (List.mem_of_getElem? (i := 19) (by decide +kernel)), ms_X8_undoLast⟩, mv_X8_undoLast⟩
theorem si_X11_268 : slSiteS RX11 268 mJ6_bitCount_0f7a4 1 := ⟨⟨lw_in6 _ (List.mem_of_getElem? (i := 2) (by decide +kernel)), ms_J6_bitCount_0f7a4⟩, mt_J6_bitCount_0f7a4⟩
theorem si_X11_273 : slSiteV RX11 273 2 mX2_gather 3 := ⟨⟨lw_in6 _ (List.mem_of_getElem? (i := 15) (by decide +kernel)), ms_X2_gather⟩, mv_X2_gather⟩
theorem si_X11_277 : slSiteV RX11 277 2 mX2_fewestSigns 1 := ⟨⟨lw_in6 _ (List.mem_of_getElem? (i := 24) (by decide +kernel)), ms_X2_fewestSigns⟩, mv_X2_fewestSigns⟩
theorem si_X11_280 : slSiteV RX11 280 2 mX2_takenCouples 1 := ⟨⟨lw_in6 _ (List.mem_of_getElem? (i := 33) (by decide +kernel)), ms_X2_takenCouples⟩, mv_X2_takenCouples⟩
theorem si_X11_288 : slSiteV RX11 288 1 mX1_mayFlash 3 := ⟨⟨lw_in6 _ (List.mem_of_getElem? (i := 46) (by decide +kernel)), ms_X1_mayFlash⟩, mv_X1_mayFlash⟩
theorem si_X11_292 : slSiteV RX11 292 6 mX6_rankAll 4 := ⟨⟨lw_in6 _ (List.mem_of_getElem? (i := 61) (by decide +kernel)), ms_X6_rankAll⟩, mv_X6_rankAll⟩
theorem si_X11_296 : slSiteV RX11 296 6 mX6_stableOnes 0 := ⟨⟨lw_in6 _ (List.mem_of_getElem? (i := 75) (by decide +kernel)), ms_X6_stableOnes⟩, mv_X6_stableOnes⟩
theorem si_X11_299 : slSiteV RX11 299 6 mX6_bestShipFor 1 := ⟨⟨lw_in6 _ (List.mem_of_getElem? (i := 114) (by decide +kernel)), ms_X6_bestShipFor⟩, mv_X6_bestShipFor⟩
theorem si_X11_302 : slSiteV RX11 302 11 mX11_needLawOrNone 1 := ⟨⟨lw_in6 _ (List.mem_of_getElem? (i := 129) (by decide +kernel)), ms_X11_needLawOrNone⟩, mv_X11_needLawOrNone⟩
theorem si_X11_305 : slSiteV RX11 305 11 mX11_sumByLaw 1 := ⟨⟨lw_in3 _ (List.mem_of_getElem? (i := 135) (by decide +kernel)), ms_X11_sumByLaw⟩, mv_X11_sumByLaw⟩
theorem si_X11_308 : slSiteV RX11 308 1 mX1_cells 0 := ⟨⟨lw_in3 _ (List.mem_of_getElem? (i := 36) (by decide +kernel)), ms_X1_cells⟩, mv_X1_cells⟩
theorem si_X11_311 : slSiteV RX11 311 11 mX11_hoursSeenFrom 2 := ⟨⟨lw_in6 _ (List.mem_of_getElem? (i := 141) (by decide +kernel)), ms_X11_hoursSeenFrom⟩, mv_X11_hoursSeenFrom⟩
theorem si_X11_314 : slSiteV RX11 314 5 mX5_enter 4 := ⟨⟨lw_in6 _ (List.mem_of_getElem? (i := 157) (by decide +kernel)), ms_X5_enter⟩, mv_X5_enter⟩
theorem si_X11_318 : slSiteV RX11 318 5 mX5_falseBy 1 := ⟨⟨lw_in3 _ (List.mem_of_getElem? (i := 155) (by decide +kernel)), ms_X5_falseBy⟩, mv_X5_falseBy⟩
theorem si_X11_322 : slSiteV RX11 322 8 mX8_take 1 := ⟨⟨lw_in3 _ (List.mem_of_getElem? (i := 175) (by decide +kernel)), ms_X8_take⟩, mv_X8_take⟩
theorem si_X11_326 : slSiteV RX11 326 11 mX11_sailFrom 2 := ⟨⟨lw_in6 _ (List.mem_of_getElem? (i := 168) (by decide +kernel)), ms_X11_sailFrom⟩, mv_X11_sailFrom⟩
theorem si_X11_329 : slMath RX11 329 Lib.Math.min.name Lib.Math.min.code 2 := ⟨lw_in6 _ (List.mem_of_getElem? (i := 172) (by decide +kernel)), lw_in4 _ (List.mem_of_getElem? (i := 45) (by decide +kernel)), lw_in1 _ (List.mem_of_getElem? (i := 18) (by decide +kernel)), lw_in4 _ (List.mem_of_getElem? (i := 46) (by decide +kernel))⟩
theorem si_X11_336 : slSiteV RX11 336 11 mX11_wouldKeepChoice 6 := ⟨⟨lw_in6 _ (List.mem_of_getElem? (i := 181) (by decide +kernel)), ms_X11_wouldKeepChoice⟩, mv_X11_wouldKeepChoice⟩
theorem si_X11_342 : slSiteV RX11 342 11 mX11_storm 0 := ⟨⟨lw_in6 _ (List.mem_of_getElem? (i := 205) (by decide +kernel)), ms_X11_storm⟩, mv_X11_storm⟩
theorem si_X11_345 : slSiteV RX11 345 11 mX11_draw 1 := ⟨⟨lw_in6 _ (List.mem_of_getElem? (i := 209) (by decide +kernel)), ms_X11_draw⟩, mv_X11_draw⟩
theorem si_X11_348 : slSiteV RX11 348 11 mX11_nightInFog 1 := ⟨⟨lw_in6 _ (List.mem_of_getElem? (i := 216) (by decide +kernel)), ms_X11_nightInFog⟩, mv_X11_nightInFog⟩
theorem si_X11_351 : slSiteV RX11 351 3 mX3_travelsOf 1 := ⟨⟨lw_in6 _ (List.mem_of_getElem? (i := 235) (by decide +kernel)), ms_X3_travelsOf⟩, mv_X3_travelsOf⟩
theorem si_X11_354 : slSiteV RX11 354 3 mX3_stuckOf 2 := ⟨⟨lw_in7 _ (List.mem_of_getElem? (i := 0) (by decide +kernel)), ms_X3_stuckOf⟩, mv_X3_stuckOf⟩
theorem si_X11_358 : slSiteV RX11 358 3 mX3_showsOf 2 := ⟨⟨lw_in3 _ (List.mem_of_getElem? (i := 167) (by decide +kernel)), ms_X3_showsOf⟩, mv_X3_showsOf⟩
theorem si_X11_361 : slSiteV RX11 361 3 mX3_sumOfWatches 1 := ⟨⟨lw_in3 _ (List.mem_of_getElem? (i := 139) (by decide +kernel)), ms_X3_sumOfWatches⟩, mv_X3_sumOfWatches⟩
theorem si_X11_364 : slSiteV RX11 364 10 mX10_plan 3 := ⟨⟨lw_in3 _ (List.mem_of_getElem? (i := 64) (by decide +kernel)), ms_X10_plan⟩, mv_X10_plan⟩
theorem si_X11_368 : slSiteV RX11 368 10 mX10_weigh 4 := ⟨⟨lw_in7 _ (List.mem_of_getElem? (i := 11) (by decide +kernel)), ms_X10_weigh⟩, mv_X10_weigh⟩
theorem si_X11_372 : slSiteV RX11 372 10 mX10_arrange 1 := ⟨⟨lw_in7 _ (List.mem_of_getElem? (i := 12) (by decide +kernel)), ms_X10_arrange⟩, mv_X10_arrange⟩
theorem si_X11_375 : slSiteV RX11 375 3 mX3_sail 4 := ⟨⟨lw_in3 _ (List.mem_of_getElem? (i := 94) (by decide +kernel)), ms_X3_sail⟩, mv_X3_sail⟩
theorem si_X11_379 : slSiteV RX11 379 3 mX3_look 3 := ⟨⟨lw_in3 _ (List.mem_of_getElem? (i := 118) (by decide +kernel)), ms_X3_look⟩, mv_X3_look⟩
theorem si_X11_383 : slSiteV RX11 383 3 mX3_lightsIn 2 := ⟨⟨lw_in7 _ (List.mem_of_getElem? (i := 27) (by decide +kernel)), ms_X3_lightsIn⟩, mv_X3_lightsIn⟩
theorem si_X11_403 : slSiteV RX11 403 11 mX11_measureViews 0 := ⟨⟨lw_in3 _ (List.mem_of_getElem? (i := 32) (by decide +kernel)), ms_X11_measureViews⟩, mv_X11_measureViews⟩
theorem si_X11_406 : slSiteV RX11 406 1 mX1_sight 2 := ⟨⟨lw_in3 _ (List.mem_of_getElem? (i := 40) (by decide +kernel)), ms_X1_sight⟩, mv_X1_sight⟩
theorem si_X11_409 : slSiteV RX11 409 8 mX8_change 3 := ⟨⟨lw_in3 _ (List.mem_of_getElem? (i := 4) (by decide +kernel)), ms_X8_change⟩, mv_X8_change⟩
theorem si_X11_412 : slSiteV RX11 412 0 mX0_keep 3 := ⟨⟨lw_in3 _ (List.mem_of_getElem? (i := 8) (by decide +kernel)), ms_X0_keep⟩, mv_X0_keep⟩
theorem si_X11_416 : slSiteV RX11 416 1 mX1_isOpen 1 := ⟨⟨lw_in5 _ (List.mem_of_getElem? (i := 216) (by decide +kernel)), ms_X1_isOpen⟩, mv_X1_isOpen⟩
theorem si_X11_419 : slSiteV RX11 419 1 mX1_fogIn 1 := ⟨⟨lw_in6 _ (List.mem_of_getElem? (i := 145) (by decide +kernel)), ms_X1_fogIn⟩, mv_X1_fogIn⟩
theorem si_X11_422 : slSiteV RX11 422 11 mX11_isSomeSeenFrom 3 := ⟨⟨lw_in6 _ (List.mem_of_getElem? (i := 146) (by decide +kernel)), ms_X11_isSomeSeenFrom⟩, mv_X11_isSomeSeenFrom⟩
theorem si_X11_425 : slSiteV RX11 425 11 mX11_gain 5 := ⟨⟨lw_in6 _ (List.mem_of_getElem? (i := 185) (by decide +kernel)), ms_X11_gain⟩, mv_X11_gain⟩
theorem si_X11_429 : slSiteV RX11 429 11 mX11_isOnceAlone 5 := ⟨⟨lw_in6 _ (List.mem_of_getElem? (i := 189) (by decide +kernel)), ms_X11_isOnceAlone⟩, mv_X11_isOnceAlone⟩
theorem si_X11_433 : slSiteV RX11 433 11 mX11_isInSight 4 := ⟨⟨lw_in6 _ (List.mem_of_getElem? (i := 193) (by decide +kernel)), ms_X11_isInSight⟩, mv_X11_isInSight⟩
theorem si_X11_437 : slSiteV RX11 437 1 mX1_cellBehind 2 := ⟨⟨lw_in6 _ (List.mem_of_getElem? (i := 215) (by decide +kernel)), ms_X1_cellBehind⟩, mv_X1_cellBehind⟩
theorem si_X11_441 : slSiteS RX11 441 mX11_remainder 2 := ⟨⟨lw_in6 _ (List.mem_of_getElem? (i := 214) (by decide +kernel)), ms_X11_remainder⟩, mt_X11_remainder⟩
theorem si_X11_444 : slSiteV RX11 444 3 mX3_lookInNight 5 := ⟨⟨lw_in6 _ (List.mem_of_getElem? (i := 220) (by decide +kernel)), ms_X3_lookInNight⟩, mv_X3_lookInNight⟩
theorem si_X11_448 : slMath RX11 448 Lib.Math.max.name Lib.Math.max.code 2 := ⟨lw_in3 _ (List.mem_of_getElem? (i := 75) (by decide +kernel)), lw_in3 _ (List.mem_of_getElem? (i := 62) (by decide +kernel)), lw_in1 _ (List.mem_of_getElem? (i := 18) (by decide +kernel)), lw_in3 _ (List.mem_of_getElem? (i := 63) (by decide +kernel))⟩
theorem si_X0_25 : slSiteC RX0 25 := ⟨lw_in3 _ (List.mem_of_getElem? (i := 12) (by decide +kernel)), lw_in3 _ (List.mem_of_getElem? (i := 14) (by decide +kernel)), lw_in3 _ (List.mem_of_getElem? (i := 13) (by decide +kernel)), lw_in1 _ (List.mem_of_getElem? (i := 25) (by decide +kernel))⟩
theorem si_X1_69 : slSiteV RX1 69 4 mX4_clear 0 := ⟨⟨lw_in4 _ (List.mem_of_getElem? (i := 36) (by decide +kernel)), ms_X4_clear⟩, mv_X4_clear⟩
theorem si_X1_72 : slSiteV RX1 72 1 mX1_cells 0 := ⟨⟨lw_in3 _ (List.mem_of_getElem? (i := 117) (by decide +kernel)), ms_X1_cells⟩, mv_X1_cells⟩
theorem si_X1_76 : slSiteN RX1 76 mX11_remainder "SailingLights" 2 := ⟨lw_in3 _ (List.mem_of_getElem? (i := 106) (by decide +kernel)), ms_X11_remainder.1, ms_X11_remainder.2.1, ms_X11_remainder.2.2.1, ms_X11_remainder.2.2.2, mt_X11_remainder⟩
theorem si_X1_80 : slSiteV RX1 80 1 mX1_columnOf 1 := ⟨⟨lw_in3 _ (List.mem_of_getElem? (i := 44) (by decide +kernel)), ms_X1_columnOf⟩, mv_X1_columnOf⟩
theorem si_X1_84 : slSiteV RX1 84 1 mX1_rowOf 1 := ⟨⟨lw_in3 _ (List.mem_of_getElem? (i := 48) (by decide +kernel)), ms_X1_rowOf⟩, mv_X1_rowOf⟩
theorem si_X1_87 : slMath RX1 87 Lib.Math.abs.name Lib.Math.abs.code 1 := ⟨lw_in3 _ (List.mem_of_getElem? (i := 58) (by decide +kernel)), lw_in3 _ (List.mem_of_getElem? (i := 59) (by decide +kernel)), lw_in1 _ (List.mem_of_getElem? (i := 18) (by decide +kernel)), lw_in3 _ (List.mem_of_getElem? (i := 60) (by decide +kernel))⟩
theorem si_X1_92 : slMath RX1 92 Lib.Math.max.name Lib.Math.max.code 2 := ⟨lw_in3 _ (List.mem_of_getElem? (i := 61) (by decide +kernel)), lw_in3 _ (List.mem_of_getElem? (i := 62) (by decide +kernel)), lw_in1 _ (List.mem_of_getElem? (i := 18) (by decide +kernel)), lw_in3 _ (List.mem_of_getElem? (i := 63) (by decide +kernel))⟩
theorem si_X1_95 : slSiteS RX1 95 mX1_isBetween 4 := ⟨⟨lw_in3 _ (List.mem_of_getElem? (i := 52) (by decide +kernel)), ms_X1_isBetween⟩, mt_X1_isBetween⟩
theorem si_X1_99 : slSiteS RX1 99 mX1_isWithin 2 := ⟨⟨lw_in3 _ (List.mem_of_getElem? (i := 55) (by decide +kernel)), ms_X1_isWithin⟩, mt_X1_isWithin⟩
theorem si_X1_103 : slSiteV RX1 103 1 mX1_flashesFrom 4 := ⟨⟨lw_in6 _ (List.mem_of_getElem? (i := 50) (by decide +kernel)), ms_X1_flashesFrom⟩, mv_X1_flashesFrom⟩
theorem si_X2_27 : slSiteV RX2 27 3 mX3_sightsOf 2 := ⟨⟨lw_in6 _ (List.mem_of_getElem? (i := 19) (by decide +kernel)), ms_X3_sightsOf⟩, mv_X3_sightsOf⟩
theorem si_X2_33 : slSiteV RX2 33 2 mX2_gatherFrom 2 := ⟨⟨lw_in6 _ (List.mem_of_getElem? (i := 20) (by decide +kernel)), ms_X2_gatherFrom⟩, mv_X2_gatherFrom⟩
theorem si_X2_37 : slSiteV RX2 37 2 mX2_isPeaceful 2 := ⟨⟨lw_in6 _ (List.mem_of_getElem? (i := 28) (by decide +kernel)), ms_X2_isPeaceful⟩, mv_X2_isPeaceful⟩
theorem si_X2_41 : slMath RX2 41 Lib.Math.min.name Lib.Math.min.code 2 := ⟨lw_in6 _ (List.mem_of_getElem? (i := 32) (by decide +kernel)), lw_in4 _ (List.mem_of_getElem? (i := 45) (by decide +kernel)), lw_in1 _ (List.mem_of_getElem? (i := 18) (by decide +kernel)), lw_in4 _ (List.mem_of_getElem? (i := 46) (by decide +kernel))⟩
theorem si_X3_37 : slSiteV RX3 37 3 mX3_go 3 := ⟨⟨lw_in3 _ (List.mem_of_getElem? (i := 98) (by decide +kernel)), ms_X3_go⟩, mv_X3_go⟩
theorem si_X3_41 : slSiteV RX3 41 1 mX1_stepOf 2 := ⟨⟨lw_in3 _ (List.mem_of_getElem? (i := 102) (by decide +kernel)), ms_X1_stepOf⟩, mv_X1_stepOf⟩
theorem si_X3_45 : slSiteV RX3 45 1 mX1_cellBehind 2 := ⟨⟨lw_in3 _ (List.mem_of_getElem? (i := 109) (by decide +kernel)), ms_X1_cellBehind⟩, mv_X1_cellBehind⟩
theorem si_X3_48 : slSiteV RX3 48 1 mX1_isOpen 1 := ⟨⟨lw_in3 _ (List.mem_of_getElem? (i := 113) (by decide +kernel)), ms_X1_isOpen⟩, mv_X1_isOpen⟩
theorem si_X3_52 : slSiteV RX3 52 1 mX1_fogIn 1 := ⟨⟨lw_in3 _ (List.mem_of_getElem? (i := 122) (by decide +kernel)), ms_X1_fogIn⟩, mv_X1_fogIn⟩
theorem si_X3_56 : slSiteV RX3 56 3 mX3_lookInNight 5 := ⟨⟨lw_in3 _ (List.mem_of_getElem? (i := 126) (by decide +kernel)), ms_X3_lookInNight⟩, mv_X3_lookInNight⟩
theorem si_X3_66 : slSiteN RX3 66 mX11_isLit "SailingLights" 2 := ⟨lw_in3 _ (List.mem_of_getElem? (i := 130) (by decide +kernel)), ms_X11_isLit.1, ms_X11_isLit.2.1, ms_X11_isLit.2.2.1, ms_X11_isLit.2.2.2, mt_X11_isLit⟩
theorem si_X3_70 : slSiteV RX3 70 3 mX3_show 5 := ⟨⟨lw_in3 _ (List.mem_of_getElem? (i := 131) (by decide +kernel)), ms_X3_show⟩, mv_X3_show⟩
theorem si_X3_77 : slSiteV RX3 77 3 mX3_hoursBy 3 := ⟨⟨lw_in3 _ (List.mem_of_getElem? (i := 143) (by decide +kernel)), ms_X3_hoursBy⟩, mv_X3_hoursBy⟩
theorem si_X3_84 : slSiteV RX3 84 3 mX3_lightsIn 2 := ⟨⟨lw_in5 _ (List.mem_of_getElem? (i := 120) (by decide +kernel)), ms_X3_lightsIn⟩, mv_X3_lightsIn⟩
theorem si_X3_87 : slMath RX3 87 Lib.Math.max.name Lib.Math.max.code 2 := ⟨lw_in5 _ (List.mem_of_getElem? (i := 128) (by decide +kernel)), lw_in3 _ (List.mem_of_getElem? (i := 62) (by decide +kernel)), lw_in1 _ (List.mem_of_getElem? (i := 18) (by decide +kernel)), lw_in3 _ (List.mem_of_getElem? (i := 63) (by decide +kernel))⟩
theorem si_X3_92 : slSiteV RX3 92 3 mX3_cellOf 2 := ⟨⟨lw_in6 _ (List.mem_of_getElem? (i := 239) (by decide +kernel)), ms_X3_cellOf⟩, mv_X3_cellOf⟩
theorem si_X4_28 : slSiteS RX4 28 mX4_join 3 := ⟨⟨lw_in3 _ (List.mem_of_getElem? (i := 84) (by decide +kernel)), ms_X4_join⟩, mt_X4_join⟩
theorem si_X4_32 : slSiteN RX4 32 mX11_quotient "SailingLights" 2 := ⟨lw_in3 _ (List.mem_of_getElem? (i := 87) (by decide +kernel)), ms_X11_quotient.1, ms_X11_quotient.2.1, ms_X11_quotient.2.2.1, ms_X11_quotient.2.2.2, mt_X11_quotient⟩
theorem si_X5_28 : slSiteV RX5 28 3 mX3_sightsOf 2 := ⟨⟨lw_in3 _ (List.mem_of_getElem? (i := 159) (by decide +kernel)), ms_X3_sightsOf⟩, mv_X3_sightsOf⟩
theorem si_X5_34 : slSiteC RX5 34 := ⟨lw_in3 _ (List.mem_of_getElem? (i := 188) (by decide +kernel)), lw_in3 _ (List.mem_of_getElem? (i := 14) (by decide +kernel)), lw_in3 _ (List.mem_of_getElem? (i := 13) (by decide +kernel)), lw_in1 _ (List.mem_of_getElem? (i := 25) (by decide +kernel))⟩
theorem si_X6_41 : slSiteV RX6 41 3 mX3_cellOf 2 := ⟨⟨lw_in6 _ (List.mem_of_getElem? (i := 65) (by decide +kernel)), ms_X3_cellOf⟩, mv_X3_cellOf⟩
theorem si_X6_52 : slSiteV RX6 52 1 mX1_farBetween 2 := ⟨⟨lw_in6 _ (List.mem_of_getElem? (i := 66) (by decide +kernel)), ms_X1_farBetween⟩, mv_X1_farBetween⟩
theorem si_X6_55 : slSiteV RX6 55 6 mX6_nearerShips 2 := ⟨⟨lw_in6 _ (List.mem_of_getElem? (i := 67) (by decide +kernel)), ms_X6_nearerShips⟩, mv_X6_nearerShips⟩
theorem si_X6_58 : slSiteV RX6 58 6 mX6_brighterLights 3 := ⟨⟨lw_in6 _ (List.mem_of_getElem? (i := 71) (by decide +kernel)), ms_X6_brighterLights⟩, mv_X6_brighterLights⟩
theorem si_X6_65 : slSiteV RX6 65 6 mX6_ask 1 := ⟨⟨lw_in6 _ (List.mem_of_getElem? (i := 118) (by decide +kernel)), ms_X6_ask⟩, mv_X6_ask⟩
theorem si_X6_69 : slSiteV RX6 69 6 mX6_wouldRather 3 := ⟨⟨lw_in6 _ (List.mem_of_getElem? (i := 99) (by decide +kernel)), ms_X6_wouldRather⟩, mv_X6_wouldRather⟩
theorem si_X6_73 : slSiteV RX6 73 6 mX6_stableFrom 1 := ⟨⟨lw_in6 _ (List.mem_of_getElem? (i := 79) (by decide +kernel)), ms_X6_stableFrom⟩, mv_X6_stableFrom⟩
theorem si_X6_77 : slSiteV RX6 77 6 mX6_isNoShipLeftLonging 0 := ⟨⟨lw_in6 _ (List.mem_of_getElem? (i := 83) (by decide +kernel)), ms_X6_isNoShipLeftLonging⟩, mv_X6_isNoShipLeftLonging⟩
theorem si_X6_81 : slSiteV RX6 81 6 mX6_isQuietBelow 1 := ⟨⟨lw_in6 _ (List.mem_of_getElem? (i := 91) (by decide +kernel)), ms_X6_isQuietBelow⟩, mv_X6_isQuietBelow⟩
theorem si_X6_85 : slSiteV RX6 85 6 mX6_stableWith 2 := ⟨⟨lw_in6 _ (List.mem_of_getElem? (i := 103) (by decide +kernel)), ms_X6_stableWith⟩, mv_X6_stableWith⟩
theorem si_X6_88 : slSiteV RX6 88 6 mX6_wantsShipOf 2 := ⟨⟨lw_in6 _ (List.mem_of_getElem? (i := 95) (by decide +kernel)), ms_X6_wantsShipOf⟩, mv_X6_wantsShipOf⟩
theorem si_X6_92 : slSiteV RX6 92 6 mX6_lightWouldRather 3 := ⟨⟨lw_in6 _ (List.mem_of_getElem? (i := 87) (by decide +kernel)), ms_X6_lightWouldRather⟩, mv_X6_lightWouldRather⟩
theorem si_X7_47 : slSiteV RX7 47 1 mX1_clear 0 := ⟨⟨lw_in4 _ (List.mem_of_getElem? (i := 32) (by decide +kernel)), ms_X1_clear⟩, mv_X1_clear⟩
theorem si_X7_66 : slSiteV RX7 66 9 mX9_begin 2 := ⟨⟨lw_in4 _ (List.mem_of_getElem? (i := 40) (by decide +kernel)), ms_X9_begin⟩, mv_X9_begin⟩
theorem si_X7_72 : slSiteV RX7 72 9 mX9_isWord 1 := ⟨⟨lw_in4 _ (List.mem_of_getElem? (i := 141) (by decide +kernel)), ms_X9_isWord⟩, mv_X9_isWord⟩
theorem si_X7_76 : slSiteV RX7 76 7 mX7_readSea 0 := ⟨⟨lw_in4 _ (List.mem_of_getElem? (i := 166) (by decide +kernel)), ms_X7_readSea⟩, mv_X7_readSea⟩
theorem si_X7_83 : slSiteV RX7 83 7 mX7_readLine 0 := ⟨⟨lw_in4 _ (List.mem_of_getElem? (i := 187) (by decide +kernel)), ms_X7_readLine⟩, mv_X7_readLine⟩
theorem si_X7_101 : slSiteV RX7 101 7 mX7_readCape 0 := ⟨⟨lw_in4 _ (List.mem_of_getElem? (i := 192) (by decide +kernel)), ms_X7_readCape⟩, mv_X7_readCape⟩
theorem si_X7_106 : slSiteV RX7 106 7 mX7_readLight 0 := ⟨⟨lw_in4 _ (List.mem_of_getElem? (i := 203) (by decide +kernel)), ms_X7_readLight⟩, mv_X7_readLight⟩
theorem si_X7_111 : slSiteV RX7 111 7 mX7_readShip 0 := ⟨⟨lw_in4 _ (List.mem_of_getElem? (i := 231) (by decide +kernel)), ms_X7_readShip⟩, mv_X7_readShip⟩
theorem si_X7_116 : slSiteV RX7 116 7 mX7_readFog 0 := ⟨⟨lw_in4 _ (List.mem_of_getElem? (i := 236) (by decide +kernel)), ms_X7_readFog⟩, mv_X7_readFog⟩
theorem si_X7_121 : slSiteV RX7 121 7 mX7_readLaw 0 := ⟨⟨lw_in5 _ (List.mem_of_getElem? (i := 1) (by decide +kernel)), ms_X7_readLaw⟩, mv_X7_readLaw⟩
theorem si_X7_124 : slSiteV RX7 124 7 mX7_refuse 1 := ⟨⟨lw_in4 _ (List.mem_of_getElem? (i := 179) (by decide +kernel)), ms_X7_refuse⟩, mv_X7_refuse⟩
theorem si_X7_128 : slSiteV RX7 128 9 mX9_next 0 := ⟨⟨lw_in4 _ (List.mem_of_getElem? (i := 170) (by decide +kernel)), ms_X9_next⟩, mv_X9_next⟩
theorem si_X7_131 : slSiteV RX7 131 7 mX7_readNumber 2 := ⟨⟨lw_in4 _ (List.mem_of_getElem? (i := 171) (by decide +kernel)), ms_X7_readNumber⟩, mv_X7_readNumber⟩
theorem si_X7_141 : slSiteV RX7 141 7 mX7_readSign 1 := ⟨⟨lw_in4 _ (List.mem_of_getElem? (i := 183) (by decide +kernel)), ms_X7_readSign⟩, mv_X7_readSign⟩
theorem si_X7_147 : slSiteV RX7 147 7 mX7_readCell 2 := ⟨⟨lw_in4 _ (List.mem_of_getElem? (i := 196) (by decide +kernel)), ms_X7_readCell⟩, mv_X7_readCell⟩
theorem si_X7_157 : slSiteV RX7 157 1 mX1_columnOf 1 := ⟨⟨lw_in4 _ (List.mem_of_getElem? (i := 200) (by decide +kernel)), ms_X1_columnOf⟩, mv_X1_columnOf⟩
theorem si_X7_164 : slSiteV RX7 164 1 mX1_rowOf 1 := ⟨⟨lw_in4 _ (List.mem_of_getElem? (i := 201) (by decide +kernel)), ms_X1_rowOf⟩, mv_X1_rowOf⟩
theorem si_X7_182 : slSiteV RX7 182 7 mX7_readWay 1 := ⟨⟨lw_in4 _ (List.mem_of_getElem? (i := 207) (by decide +kernel)), ms_X7_readWay⟩, mv_X7_readWay⟩
theorem si_X7_185 : slSiteV RX7 185 7 mX7_readFlashes 1 := ⟨⟨lw_in4 _ (List.mem_of_getElem? (i := 225) (by decide +kernel)), ms_X7_readFlashes⟩, mv_X7_readFlashes⟩
theorem si_X7_202 : slSiteV RX7 202 7 mX7_readExpr 1 := ⟨⟨lw_in5 _ (List.mem_of_getElem? (i := 5) (by decide +kernel)), ms_X7_readExpr⟩, mv_X7_readExpr⟩
theorem si_X7_205 : slSiteV RX7 205 4 mX4_close 0 := ⟨⟨lw_in5 _ (List.mem_of_getElem? (i := 57) (by decide +kernel)), ms_X4_close⟩, mv_X4_close⟩
theorem si_X7_211 : slSiteV RX7 211 7 mX7_numberHere 2 := ⟨⟨lw_in4 _ (List.mem_of_getElem? (i := 175) (by decide +kernel)), ms_X7_numberHere⟩, mv_X7_numberHere⟩
theorem si_X7_214 : slSiteV RX7 214 9 mX9_letters 0 := ⟨⟨lw_in4 _ (List.mem_of_getElem? (i := 216) (by decide +kernel)), ms_X9_letters⟩, mv_X9_letters⟩
theorem si_X7_218 : slSiteV RX7 218 9 mX9_letterAt 1 := ⟨⟨lw_in4 _ (List.mem_of_getElem? (i := 220) (by decide +kernel)), ms_X9_letterAt⟩, mv_X9_letterAt⟩
theorem si_X7_222 : slSiteT RX7 222 mJ0_indexOf_0f7a4 1 := ⟨⟨lw_in4 _ (List.mem_of_getElem? (i := 224) (by decide +kernel)), ms_J0_indexOf_0f7a4⟩, mv_J0_indexOf_0f7a4⟩
theorem si_X7_229 : slSiteV RX7 229 7 mX7_isWordOf 2 := ⟨⟨lw_in4 _ (List.mem_of_getElem? (i := 212) (by decide +kernel)), ms_X7_isWordOf⟩, mv_X7_isWordOf⟩
theorem si_X7_247 : slSiteV RX7 247 7 mX7_canBeginExpr 0 := ⟨⟨lw_in5 _ (List.mem_of_getElem? (i := 9) (by decide +kernel)), ms_X7_canBeginExpr⟩, mv_X7_canBeginExpr⟩
theorem si_X7_250 : slSiteV RX7 250 7 mX7_readAnd 1 := ⟨⟨lw_in5 _ (List.mem_of_getElem? (i := 13) (by decide +kernel)), ms_X7_readAnd⟩, mv_X7_readAnd⟩
theorem si_X7_255 : slSiteV RX7 255 4 mX4_put 1 := ⟨⟨lw_in5 _ (List.mem_of_getElem? (i := 51) (by decide +kernel)), ms_X4_put⟩, mv_X4_put⟩
theorem si_X7_259 : slSiteV RX7 259 7 mX7_readNot 1 := ⟨⟨lw_in5 _ (List.mem_of_getElem? (i := 17) (by decide +kernel)), ms_X7_readNot⟩, mv_X7_readNot⟩
theorem si_X7_266 : slSiteV RX7 266 7 mX7_readTest 1 := ⟨⟨lw_in5 _ (List.mem_of_getElem? (i := 22) (by decide +kernel)), ms_X7_readTest⟩, mv_X7_readTest⟩
theorem si_X7_269 : slSiteV RX7 269 7 mX7_readSum 1 := ⟨⟨lw_in5 _ (List.mem_of_getElem? (i := 26) (by decide +kernel)), ms_X7_readSum⟩, mv_X7_readSum⟩
theorem si_X7_272 : slSiteV RX7 272 7 mX7_readProduct 1 := ⟨⟨lw_in5 _ (List.mem_of_getElem? (i := 30) (by decide +kernel)), ms_X7_readProduct⟩, mv_X7_readProduct⟩
theorem si_X7_275 : slSiteV RX7 275 7 mX7_readPart 1 := ⟨⟨lw_in5 _ (List.mem_of_getElem? (i := 34) (by decide +kernel)), ms_X7_readPart⟩, mv_X7_readPart⟩
theorem si_X7_278 : slSiteV RX7 278 7 mX7_readValue 0 := ⟨⟨lw_in5 _ (List.mem_of_getElem? (i := 38) (by decide +kernel)), ms_X7_readValue⟩, mv_X7_readValue⟩
theorem si_X7_281 : slSiteV RX7 281 7 mX7_valueHere 0 := ⟨⟨lw_in5 _ (List.mem_of_getElem? (i := 42) (by decide +kernel)), ms_X7_valueHere⟩, mv_X7_valueHere⟩
theorem si_X8_42 : slSiteC RX8 42 := ⟨lw_in3 _ (List.mem_of_getElem? (i := 179) (by decide +kernel)), lw_in3 _ (List.mem_of_getElem? (i := 14) (by decide +kernel)), lw_in3 _ (List.mem_of_getElem? (i := 13) (by decide +kernel)), lw_in1 _ (List.mem_of_getElem? (i := 25) (by decide +kernel))⟩
theorem si_X8_48 : slSiteV RX8 48 0 mX0_take 1 := ⟨⟨lw_in3 _ (List.mem_of_getElem? (i := 180) (by decide +kernel)), ms_X0_take⟩, mv_X0_take⟩
theorem si_X8_52 : slSiteV RX8 52 5 mX5_take 1 := ⟨⟨lw_in3 _ (List.mem_of_getElem? (i := 184) (by decide +kernel)), ms_X5_take⟩, mv_X5_take⟩
theorem si_X8_67 : slSiteV RX8 67 8 mX8_change 3 := ⟨⟨lw_in3 _ (List.mem_of_getElem? (i := 23) (by decide +kernel)), ms_X8_change⟩, mv_X8_change⟩
theorem si_X9_29 : slMath RX9 29 Lib.Math.min.name Lib.Math.min.code 2 := ⟨lw_in4 _ (List.mem_of_getElem? (i := 44) (by decide +kernel)), lw_in4 _ (List.mem_of_getElem? (i := 45) (by decide +kernel)), lw_in1 _ (List.mem_of_getElem? (i := 18) (by decide +kernel)), lw_in4 _ (List.mem_of_getElem? (i := 46) (by decide +kernel))⟩
theorem si_X9_35 : slSiteV RX9 35 9 mX9_next 0 := ⟨⟨lw_in4 _ (List.mem_of_getElem? (i := 47) (by decide +kernel)), ms_X9_next⟩, mv_X9_next⟩
theorem si_X9_38 : slSiteS RX9 38 mX9_isLetter 1 := ⟨⟨lw_in4 _ (List.mem_of_getElem? (i := 51) (by decide +kernel)), ms_X9_isLetter⟩, mt_X9_isLetter⟩
theorem si_X9_42 : slSiteS RX9 42 mX9_isDigit 1 := ⟨⟨lw_in4 _ (List.mem_of_getElem? (i := 54) (by decide +kernel)), ms_X9_isDigit⟩, mt_X9_isDigit⟩
theorem si_X9_47 : slSiteT RX9 47 mJ0_indexOf_0f7a4 1 := ⟨⟨lw_in4 _ (List.mem_of_getElem? (i := 58) (by decide +kernel)), ms_J0_indexOf_0f7a4⟩, mv_J0_indexOf_0f7a4⟩
theorem si_X9_53 : slSiteT RX9 53 mJ0_length_8abf5 0 := ⟨⟨lw_in4 _ (List.mem_of_getElem? (i := 145) (by decide +kernel)), ms_J0_length_8abf5⟩, mv_J0_length_8abf5⟩
theorem si_X9_56 : slSiteT RX9 56 mJ0_charAt_5068e 1 := ⟨⟨lw_in4 _ (List.mem_of_getElem? (i := 146) (by decide +kernel)), ms_J0_charAt_5068e⟩, mv_J0_charAt_5068e⟩
theorem si_X10_34 : slSiteV RX10 34 10 mX10_weigh 4 := ⟨⟨lw_in3 _ (List.mem_of_getElem? (i := 68) (by decide +kernel)), ms_X10_weigh⟩, mv_X10_weigh⟩
theorem si_X10_38 : slSiteV RX10 38 10 mX10_arrange 1 := ⟨⟨lw_in3 _ (List.mem_of_getElem? (i := 90) (by decide +kernel)), ms_X10_arrange⟩, mv_X10_arrange⟩
theorem si_X10_48 : slSiteN RX10 48 mX11_oilIn "SailingLights" 2 := ⟨lw_in3 _ (List.mem_of_getElem? (i := 72) (by decide +kernel)), ms_X11_oilIn.1, ms_X11_oilIn.2.1, ms_X11_oilIn.2.2.1, ms_X11_oilIn.2.2.2, mt_X11_oilIn⟩
theorem si_X10_52 : slSiteN RX10 52 mX11_isLit "SailingLights" 2 := ⟨lw_in3 _ (List.mem_of_getElem? (i := 76) (by decide +kernel)), ms_X11_isLit.1, ms_X11_isLit.2.1, ms_X11_isLit.2.2.1, ms_X11_isLit.2.2.2, mt_X11_isLit⟩
theorem si_X10_60 : slSiteV RX10 60 4 mX4_give 2 := ⟨⟨lw_in3 _ (List.mem_of_getElem? (i := 80) (by decide +kernel)), ms_X4_give⟩, mv_X4_give⟩
theorem si_L_7 : slSiteV RL 7 11 mX11_coast 1 := ⟨⟨lw_in3 _ (List.mem_of_getElem? (i := 197) (by decide +kernel)), ms_X11_coast⟩, mv_X11_coast⟩
theorem si_L_15 : slSiteV RL 15 11 mX11_count 1 := ⟨⟨lw_in5 _ (List.mem_of_getElem? (i := 69) (by decide +kernel)), ms_X11_count⟩, mv_X11_count⟩
theorem si_L_20 : slSiteV RL 20 11 mX11_light 2 := ⟨⟨lw_in5 _ (List.mem_of_getElem? (i := 92) (by decide +kernel)), ms_X11_light⟩, mv_X11_light⟩
theorem si_L_24 : slSiteV RL 24 11 mX11_ship 2 := ⟨⟨lw_in5 _ (List.mem_of_getElem? (i := 104) (by decide +kernel)), ms_X11_ship⟩, mv_X11_ship⟩
theorem si_L_27 : slSiteV RL 27 11 mX11_where 2 := ⟨⟨lw_in5 _ (List.mem_of_getElem? (i := 132) (by decide +kernel)), ms_X11_where⟩, mv_X11_where⟩
theorem si_L_30 : slSiteV RL 30 11 mX11_lamp 3 := ⟨⟨lw_in5 _ (List.mem_of_getElem? (i := 147) (by decide +kernel)), ms_X11_lamp⟩, mv_X11_lamp⟩
theorem si_L_34 : slSiteV RL 34 11 mX11_seen 2 := ⟨⟨lw_in5 _ (List.mem_of_getElem? (i := 155) (by decide +kernel)), ms_X11_seen⟩, mv_X11_seen⟩
theorem si_L_37 : slSiteV RL 37 11 mX11_watch 2 := ⟨⟨lw_in5 _ (List.mem_of_getElem? (i := 163) (by decide +kernel)), ms_X11_watch⟩, mv_X11_watch⟩
theorem si_L_40 : slSiteV RL 40 11 mX11_content 1 := ⟨⟨lw_in5 _ (List.mem_of_getElem? (i := 175) (by decide +kernel)), ms_X11_content⟩, mv_X11_content⟩
theorem si_L_43 : slSiteV RL 43 11 mX11_met 2 := ⟨⟨lw_in5 _ (List.mem_of_getElem? (i := 186) (by decide +kernel)), ms_X11_met⟩, mv_X11_met⟩
theorem si_L_46 : slSiteV RL 46 11 mX11_fill 2 := ⟨⟨lw_in5 _ (List.mem_of_getElem? (i := 201) (by decide +kernel)), ms_X11_fill⟩, mv_X11_fill⟩
theorem si_L_49 : slSiteV RL 49 11 mX11_moor 2 := ⟨⟨lw_in5 _ (List.mem_of_getElem? (i := 208) (by decide +kernel)), ms_X11_moor⟩, mv_X11_moor⟩
theorem si_L_52 : slSiteV RL 52 11 mX11_push 2 := ⟨⟨lw_in5 _ (List.mem_of_getElem? (i := 220) (by decide +kernel)), ms_X11_push⟩, mv_X11_push⟩
theorem si_L_55 : slSiteV RL 55 11 mX11_want 2 := ⟨⟨lw_in5 _ (List.mem_of_getElem? (i := 231) (by decide +kernel)), ms_X11_want⟩, mv_X11_want⟩
theorem si_L_58 : slSiteV RL 58 11 mX11_lamps 1 := ⟨⟨lw_in5 _ (List.mem_of_getElem? (i := 238) (by decide +kernel)), ms_X11_lamps⟩, mv_X11_lamps⟩
theorem si_L_61 : slSiteV RL 61 11 mX11_signs 2 := ⟨⟨lw_in6 _ (List.mem_of_getElem? (i := 11) (by decide +kernel)), ms_X11_signs⟩, mv_X11_signs⟩
theorem si_L_64 : slSiteV RL 64 11 mX11_who 2 := ⟨⟨lw_in6 _ (List.mem_of_getElem? (i := 40) (by decide +kernel)), ms_X11_who⟩, mv_X11_who⟩
theorem si_L_67 : slSiteV RL 67 11 mX11_visits 1 := ⟨⟨lw_in6 _ (List.mem_of_getElem? (i := 57) (by decide +kernel)), ms_X11_visits⟩, mv_X11_visits⟩
theorem si_L_70 : slSiteV RL 70 11 mX11_visit 2 := ⟨⟨lw_in6 _ (List.mem_of_getElem? (i := 110) (by decide +kernel)), ms_X11_visit⟩, mv_X11_visit⟩
theorem si_L_73 : slSiteV RL 73 11 mX11_compared 1 := ⟨⟨lw_in6 _ (List.mem_of_getElem? (i := 125) (by decide +kernel)), ms_X11_compared⟩, mv_X11_compared⟩
theorem si_L_76 : slSiteV RL 76 11 mX11_mooring 3 := ⟨⟨lw_in6 _ (List.mem_of_getElem? (i := 137) (by decide +kernel)), ms_X11_mooring⟩, mv_X11_mooring⟩
theorem si_L_79 : slSiteV RL 79 11 mX11_log 4 := ⟨⟨lw_in6 _ (List.mem_of_getElem? (i := 153) (by decide +kernel)), ms_X11_log⟩, mv_X11_log⟩
theorem si_L_83 : slSiteV RL 83 11 mX11_begun 2 := ⟨⟨lw_in6 _ (List.mem_of_getElem? (i := 164) (by decide +kernel)), ms_X11_begun⟩, mv_X11_begun⟩
theorem si_L_86 : slSiteV RL 86 11 mX11_game 5 := ⟨⟨lw_in6 _ (List.mem_of_getElem? (i := 176) (by decide +kernel)), ms_X11_game⟩, mv_X11_game⟩
theorem si_L_90 : slSiteV RL 90 11 mX11_years 3 := ⟨⟨lw_in6 _ (List.mem_of_getElem? (i := 200) (by decide +kernel)), ms_X11_years⟩, mv_X11_years⟩
theorem si_L_93 : slSiteV RL 93 11 mX11_father 2 := ⟨⟨lw_in6 _ (List.mem_of_getElem? (i := 224) (by decide +kernel)), ms_X11_father⟩, mv_X11_father⟩
theorem si_L_96 : slSiteV RL 96 11 mX11_journey 2 := ⟨⟨lw_in6 _ (List.mem_of_getElem? (i := 231) (by decide +kernel)), ms_X11_journey⟩, mv_X11_journey⟩
theorem si_L_99 : slSiteV RL 99 11 mX11_sparing 1 := ⟨⟨lw_in7 _ (List.mem_of_getElem? (i := 7) (by decide +kernel)), ms_X11_sparing⟩, mv_X11_sparing⟩
theorem si_L_102 : slSiteV RL 102 11 mX11_start 2 := ⟨⟨lw_in7 _ (List.mem_of_getElem? (i := 16) (by decide +kernel)), ms_X11_start⟩, mv_X11_start⟩
theorem si_L_105 : slSiteV RL 105 11 mX11_alone 1 := ⟨⟨lw_in7 _ (List.mem_of_getElem? (i := 23) (by decide +kernel)), ms_X11_alone⟩, mv_X11_alone⟩
theorem si_L_108 : slSiteV RL 108 11 mX11_quarrels 1 := ⟨⟨lw_in7 _ (List.mem_of_getElem? (i := 31) (by decide +kernel)), ms_X11_quarrels⟩, mv_X11_quarrels⟩
theorem si_L_115 : slSiteV RL 115 11 mX11_feed 5 := ⟨⟨lw_in2 _ (List.mem_of_getElem? (i := 216) (by decide +kernel)), ms_X11_feed⟩, mv_X11_feed⟩
theorem si_L_118 : slSiteV RL 118 12 mX12_feed 5 := ⟨⟨lw_in8 _ (List.mem_of_getElem? (i := 52) (by decide +kernel)), ms_X12_feed⟩, mv_X12_feed⟩
theorem si_L_124 : slSiteV RL 124 12 mX12_coast 1 := ⟨⟨lw_in8 _ (List.mem_of_getElem? (i := 60) (by decide +kernel)), ms_X12_coast⟩, mv_X12_coast⟩
theorem si_L_125 : slSiteV RL 125 12 mX12_thrown 0 := ⟨⟨lw_in8 _ (List.mem_of_getElem? (i := 48) (by decide +kernel)), ms_X12_thrown⟩, mv_X12_thrown⟩
theorem si_L_129 : slSiteV RL 129 11 mX11_fault 0 := ⟨⟨lw_in2 _ (List.mem_of_getElem? (i := 224) (by decide +kernel)), ms_X11_fault⟩, mv_X11_fault⟩
theorem si_L_132 : slSiteV RL 132 12 mX12_fault 0 := ⟨⟨lw_in8 _ (List.mem_of_getElem? (i := 189) (by decide +kernel)), ms_X12_fault⟩, mv_X12_fault⟩
theorem si_L_135 : slSiteV RL 135 12 mX12_count 1 := ⟨⟨lw_in8 _ (List.mem_of_getElem? (i := 197) (by decide +kernel)), ms_X12_count⟩, mv_X12_count⟩
theorem si_L_139 : slSiteV RL 139 12 mX12_light 2 := ⟨⟨lw_in8 _ (List.mem_of_getElem? (i := 204) (by decide +kernel)), ms_X12_light⟩, mv_X12_light⟩
theorem si_L_142 : slSiteV RL 142 12 mX12_ship 2 := ⟨⟨lw_in8 _ (List.mem_of_getElem? (i := 216) (by decide +kernel)), ms_X12_ship⟩, mv_X12_ship⟩
theorem si_L_145 : slSiteV RL 145 12 mX12_where 2 := ⟨⟨lw_in9 _ (List.mem_of_getElem? (i := 62) (by decide +kernel)), ms_X12_where⟩, mv_X12_where⟩
theorem si_L_149 : slSiteV RL 149 12 mX12_lamp 3 := ⟨⟨lw_in9 _ (List.mem_of_getElem? (i := 70) (by decide +kernel)), ms_X12_lamp⟩, mv_X12_lamp⟩
theorem si_L_152 : slSiteV RL 152 12 mX12_seen 2 := ⟨⟨lw_in9 _ (List.mem_of_getElem? (i := 74) (by decide +kernel)), ms_X12_seen⟩, mv_X12_seen⟩
theorem si_L_155 : slSiteV RL 155 12 mX12_watch 2 := ⟨⟨lw_in9 _ (List.mem_of_getElem? (i := 78) (by decide +kernel)), ms_X12_watch⟩, mv_X12_watch⟩
theorem si_L_158 : slSiteV RL 158 12 mX12_content 1 := ⟨⟨lw_in9 _ (List.mem_of_getElem? (i := 86) (by decide +kernel)), ms_X12_content⟩, mv_X12_content⟩
theorem si_L_161 : slSiteV RL 161 12 mX12_met 2 := ⟨⟨lw_in9 _ (List.mem_of_getElem? (i := 94) (by decide +kernel)), ms_X12_met⟩, mv_X12_met⟩
theorem si_L_164 : slSiteV RL 164 12 mX12_fill 2 := ⟨⟨lw_in9 _ (List.mem_of_getElem? (i := 98) (by decide +kernel)), ms_X12_fill⟩, mv_X12_fill⟩
theorem si_L_167 : slSiteV RL 167 12 mX12_moor 2 := ⟨⟨lw_in9 _ (List.mem_of_getElem? (i := 110) (by decide +kernel)), ms_X12_moor⟩, mv_X12_moor⟩
theorem si_L_170 : slSiteV RL 170 12 mX12_push 2 := ⟨⟨lw_in9 _ (List.mem_of_getElem? (i := 122) (by decide +kernel)), ms_X12_push⟩, mv_X12_push⟩
theorem si_L_171 : slSiteV RL 171 11 mX11_obey 1 := ⟨⟨lw_in2 _ (List.mem_of_getElem? (i := 228) (by decide +kernel)), ms_X11_obey⟩, mv_X11_obey⟩
theorem si_L_175 : slSiteV RL 175 12 mX12_obey 1 := ⟨⟨lw_in9 _ (List.mem_of_getElem? (i := 126) (by decide +kernel)), ms_X12_obey⟩, mv_X12_obey⟩
theorem si_L_178 : slSiteV RL 178 12 mX12_want 2 := ⟨⟨lw_in9 _ (List.mem_of_getElem? (i := 130) (by decide +kernel)), ms_X12_want⟩, mv_X12_want⟩
theorem si_L_179 : slSiteV RL 179 11 mX11_undo 0 := ⟨⟨lw_in3 _ (List.mem_of_getElem? (i := 15) (by decide +kernel)), ms_X11_undo⟩, mv_X11_undo⟩
theorem si_L_182 : slSiteV RL 182 12 mX12_undo 0 := ⟨⟨lw_in8 _ (List.mem_of_getElem? (i := 193) (by decide +kernel)), ms_X12_undo⟩, mv_X12_undo⟩
theorem si_L_185 : slSiteV RL 185 12 mX12_lamps 1 := ⟨⟨lw_in9 _ (List.mem_of_getElem? (i := 134) (by decide +kernel)), ms_X12_lamps⟩, mv_X12_lamps⟩
theorem si_L_188 : slSiteV RL 188 12 mX12_signs 2 := ⟨⟨lw_in9 _ (List.mem_of_getElem? (i := 141) (by decide +kernel)), ms_X12_signs⟩, mv_X12_signs⟩
theorem si_L_191 : slSiteV RL 191 12 mX12_who 2 := ⟨⟨lw_in9 _ (List.mem_of_getElem? (i := 157) (by decide +kernel)), ms_X12_who⟩, mv_X12_who⟩
theorem si_L_194 : slSiteV RL 194 12 mX12_visits 1 := ⟨⟨lw_in9 _ (List.mem_of_getElem? (i := 165) (by decide +kernel)), ms_X12_visits⟩, mv_X12_visits⟩
theorem si_L_197 : slSiteV RL 197 12 mX12_visit 2 := ⟨⟨lw_in9 _ (List.mem_of_getElem? (i := 189) (by decide +kernel)), ms_X12_visit⟩, mv_X12_visit⟩
theorem si_L_200 : slSiteV RL 200 12 mX12_compared 1 := ⟨⟨lw_in9 _ (List.mem_of_getElem? (i := 197) (by decide +kernel)), ms_X12_compared⟩, mv_X12_compared⟩
theorem si_L_201 : slSiteV RL 201 11 mX11_best 0 := ⟨⟨lw_in3 _ (List.mem_of_getElem? (i := 24) (by decide +kernel)), ms_X11_best⟩, mv_X11_best⟩
theorem si_L_204 : slSiteV RL 204 12 mX12_best 0 := ⟨⟨lw_in9 _ (List.mem_of_getElem? (i := 213) (by decide +kernel)), ms_X12_best⟩, mv_X12_best⟩
theorem si_L_207 : slSiteV RL 207 12 mX12_mooring 3 := ⟨⟨lw_in9 _ (List.mem_of_getElem? (i := 221) (by decide +kernel)), ms_X12_mooring⟩, mv_X12_mooring⟩
theorem si_L_211 : slSiteV RL 211 12 mX12_log 4 := ⟨⟨lw_in9 _ (List.mem_of_getElem? (i := 225) (by decide +kernel)), ms_X12_log⟩, mv_X12_log⟩
theorem si_L_212 : slSiteV RL 212 11 mX11_forget 0 := ⟨⟨lw_in3 _ (List.mem_of_getElem? (i := 147) (by decide +kernel)), ms_X11_forget⟩, mv_X11_forget⟩
theorem si_L_215 : slSiteV RL 215 12 mX12_forget 0 := ⟨⟨lw_in9 _ (List.mem_of_getElem? (i := 229) (by decide +kernel)), ms_X12_forget⟩, mv_X12_forget⟩
theorem si_L_216 : slSiteV RL 216 11 mX11_falsely 0 := ⟨⟨lw_in3 _ (List.mem_of_getElem? (i := 151) (by decide +kernel)), ms_X11_falsely⟩, mv_X11_falsely⟩
theorem si_L_219 : slSiteV RL 219 12 mX12_falsely 0 := ⟨⟨lw_in9 _ (List.mem_of_getElem? (i := 233) (by decide +kernel)), ms_X12_falsely⟩, mv_X12_falsely⟩
theorem si_L_222 : slSiteV RL 222 12 mX12_begun 2 := ⟨⟨lw_in10 _ (List.mem_of_getElem? (i := 1) (by decide +kernel)), ms_X12_begun⟩, mv_X12_begun⟩
theorem si_L_226 : slSiteV RL 226 12 mX12_game 5 := ⟨⟨lw_in10 _ (List.mem_of_getElem? (i := 5) (by decide +kernel)), ms_X12_game⟩, mv_X12_game⟩
theorem si_L_229 : slSiteV RL 229 12 mX12_years 3 := ⟨⟨lw_in10 _ (List.mem_of_getElem? (i := 13) (by decide +kernel)), ms_X12_years⟩, mv_X12_years⟩
theorem si_L_232 : slSiteV RL 232 12 mX12_father 2 := ⟨⟨lw_in10 _ (List.mem_of_getElem? (i := 22) (by decide +kernel)), ms_X12_father⟩, mv_X12_father⟩
theorem si_L_235 : slSiteV RL 235 12 mX12_journey 2 := ⟨⟨lw_in10 _ (List.mem_of_getElem? (i := 26) (by decide +kernel)), ms_X12_journey⟩, mv_X12_journey⟩
theorem si_L_236 : slSiteV RL 236 11 mX11_brightest 0 := ⟨⟨lw_in3 _ (List.mem_of_getElem? (i := 163) (by decide +kernel)), ms_X11_brightest⟩, mv_X11_brightest⟩
theorem si_L_239 : slSiteV RL 239 12 mX12_brightest 0 := ⟨⟨lw_in10 _ (List.mem_of_getElem? (i := 34) (by decide +kernel)), ms_X12_brightest⟩, mv_X12_brightest⟩
theorem si_L_242 : slSiteV RL 242 12 mX12_sparing 1 := ⟨⟨lw_in10 _ (List.mem_of_getElem? (i := 38) (by decide +kernel)), ms_X12_sparing⟩, mv_X12_sparing⟩
theorem si_L_245 : slSiteV RL 245 12 mX12_start 2 := ⟨⟨lw_in10 _ (List.mem_of_getElem? (i := 42) (by decide +kernel)), ms_X12_start⟩, mv_X12_start⟩
theorem si_L_248 : slSiteV RL 248 12 mX12_alone 1 := ⟨⟨lw_in10 _ (List.mem_of_getElem? (i := 46) (by decide +kernel)), ms_X12_alone⟩, mv_X12_alone⟩
theorem si_L_251 : slSiteV RL 251 12 mX12_quarrels 1 := ⟨⟨lw_in9 _ (List.mem_of_getElem? (i := 217) (by decide +kernel)), ms_X12_quarrels⟩, mv_X12_quarrels⟩
theorem si_L_252 : slSiteV RL 252 11 mX11_image 0 := ⟨⟨lw_in3 _ (List.mem_of_getElem? (i := 171) (by decide +kernel)), ms_X11_image⟩, mv_X11_image⟩
theorem si_L_255 : slSiteV RL 255 12 mX12_image 0 := ⟨⟨lw_in10 _ (List.mem_of_getElem? (i := 50) (by decide +kernel)), ms_X12_image⟩, mv_X12_image⟩
theorem si_L_256 : slSiteV RL 256 11 mX11_restore 0 := ⟨⟨lw_in3 _ (List.mem_of_getElem? (i := 189) (by decide +kernel)), ms_X11_restore⟩, mv_X11_restore⟩
theorem si_L_260 : slSiteV RL 260 12 mX12_restore 0 := ⟨⟨lw_in10 _ (List.mem_of_getElem? (i := 54) (by decide +kernel)), ms_X12_restore⟩, mv_X12_restore⟩
theorem si_X12_165 : slSiteV RX12 165 12 mX12_lays 1 := ⟨⟨lw_in8 _ (List.mem_of_getElem? (i := 56) (by decide +kernel)), ms_X12_lays⟩, mv_X12_lays⟩
theorem si_X12_175 : slSiteV RX12 175 12 mX12_byteAt 1 := ⟨⟨lw_in8 _ (List.mem_of_getElem? (i := 72) (by decide +kernel)), ms_X12_byteAt⟩, mv_X12_byteAt⟩
theorem si_X12_195 : slSiteS RX12 195 mX12_isLetter 1 := ⟨⟨lw_in8 _ (List.mem_of_getElem? (i := 76) (by decide +kernel)), ms_X12_isLetter⟩, mt_X12_isLetter⟩
theorem si_X12_199 : slSiteS RX12 199 mX12_isDigit 1 := ⟨⟨lw_in8 _ (List.mem_of_getElem? (i := 79) (by decide +kernel)), ms_X12_isDigit⟩, mt_X12_isDigit⟩
theorem si_X12_207 : slSiteS RX12 207 mX12_spelled 6 := ⟨⟨lw_in8 _ (List.mem_of_getElem? (i := 89) (by decide +kernel)), ms_X12_spelled⟩, mt_X12_spelled⟩
theorem si_X12_211 : slSiteS RX12 211 mX12_letters 1 := ⟨⟨lw_in8 _ (List.mem_of_getElem? (i := 86) (by decide +kernel)), ms_X12_letters⟩, mt_X12_letters⟩
theorem si_X12_218 : slSiteV RX12 218 12 mX12_isGood 0 := ⟨⟨lw_in8 _ (List.mem_of_getElem? (i := 101) (by decide +kernel)), ms_X12_isGood⟩, mv_X12_isGood⟩
theorem si_X12_222 : slSiteV RX12 222 12 mX12_goes 0 := ⟨⟨lw_in8 _ (List.mem_of_getElem? (i := 68) (by decide +kernel)), ms_X12_goes⟩, mv_X12_goes⟩
theorem si_X12_225 : slSiteV RX12 225 12 mX12_wrong 1 := ⟨⟨lw_in8 _ (List.mem_of_getElem? (i := 105) (by decide +kernel)), ms_X12_wrong⟩, mv_X12_wrong⟩
theorem si_X12_228 : slSiteV RX12 228 12 mX12_numberHere 2 := ⟨⟨lw_in8 _ (List.mem_of_getElem? (i := 97) (by decide +kernel)), ms_X12_numberHere⟩, mv_X12_numberHere⟩
theorem si_X12_238 : slSiteS RX12 238 mX12_isOpen 1 := ⟨⟨lw_in8 _ (List.mem_of_getElem? (i := 171) (by decide +kernel)), ms_X12_isOpen⟩, mt_X12_isOpen⟩
theorem si_X12_241 : slSiteS RX12 241 mX12_strength 1 := ⟨⟨lw_in8 _ (List.mem_of_getElem? (i := 174) (by decide +kernel)), ms_X12_strength⟩, mt_X12_strength⟩
theorem si_X12_244 : slSiteV RX12 244 12 mX12_puts 1 := ⟨⟨lw_in8 _ (List.mem_of_getElem? (i := 163) (by decide +kernel)), ms_X12_puts⟩, mv_X12_puts⟩
theorem si_X12_247 : slSiteV RX12 247 12 mX12_knownWord 0 := ⟨⟨lw_in8 _ (List.mem_of_getElem? (i := 82) (by decide +kernel)), ms_X12_knownWord⟩, mv_X12_knownWord⟩
theorem si_X12_254 : slSiteV RX12 254 12 mX12_isSign 1 := ⟨⟨lw_in8 _ (List.mem_of_getElem? (i := 109) (by decide +kernel)), ms_X12_isSign⟩, mv_X12_isSign⟩
theorem si_X12_257 : slSiteV RX12 257 12 mX12_waitsFor 1 := ⟨⟨lw_in8 _ (List.mem_of_getElem? (i := 155) (by decide +kernel)), ms_X12_waitsFor⟩, mv_X12_waitsFor⟩
theorem si_X12_260 : slSiteV RX12 260 12 mX12_deeper 0 := ⟨⟨lw_in8 _ (List.mem_of_getElem? (i := 147) (by decide +kernel)), ms_X12_deeper⟩, mv_X12_deeper⟩
theorem si_X12_263 : slSiteV RX12 263 12 mX12_part 0 := ⟨⟨lw_in8 _ (List.mem_of_getElem? (i := 159) (by decide +kernel)), ms_X12_part⟩, mv_X12_part⟩
theorem si_X12_266 : slSiteV RX12 266 12 mX12_drops 1 := ⟨⟨lw_in8 _ (List.mem_of_getElem? (i := 167) (by decide +kernel)), ms_X12_drops⟩, mv_X12_drops⟩
theorem si_X12_269 : slSiteV RX12 269 12 mX12_operand 1 := ⟨⟨lw_in8 _ (List.mem_of_getElem? (i := 151) (by decide +kernel)), ms_X12_operand⟩, mv_X12_operand⟩
theorem si_X12_273 : slSiteV RX12 273 12 mX12_isOpened 0 := ⟨⟨lw_in8 _ (List.mem_of_getElem? (i := 177) (by decide +kernel)), ms_X12_isOpened⟩, mv_X12_isOpened⟩
theorem si_X12_276 : slSiteV RX12 276 12 mX12_closes 0 := ⟨⟨lw_in8 _ (List.mem_of_getElem? (i := 181) (by decide +kernel)), ms_X12_closes⟩, mv_X12_closes⟩
theorem si_X12_282 : slSiteV RX12 282 12 mX12_number 2 := ⟨⟨lw_in8 _ (List.mem_of_getElem? (i := 93) (by decide +kernel)), ms_X12_number⟩, mv_X12_number⟩
theorem si_X12_289 : slSiteS RX12 289 mX12_stepOf 1 := ⟨⟨lw_in8 _ (List.mem_of_getElem? (i := 133) (by decide +kernel)), ms_X12_stepOf⟩, mt_X12_stepOf⟩
theorem si_X12_292 : slSiteS RX12 292 mX12_flashOf 1 := ⟨⟨lw_in8 _ (List.mem_of_getElem? (i := 136) (by decide +kernel)), ms_X12_flashOf⟩, mt_X12_flashOf⟩
theorem si_X12_298 : slSiteV RX12 298 12 mX12_cellNext 1 := ⟨⟨lw_in8 _ (List.mem_of_getElem? (i := 121) (by decide +kernel)), ms_X12_cellNext⟩, mv_X12_cellNext⟩
theorem si_X12_301 : slSiteV RX12 301 12 mX12_rowNext 4 := ⟨⟨lw_in8 _ (List.mem_of_getElem? (i := 129) (by decide +kernel)), ms_X12_rowNext⟩, mv_X12_rowNext⟩
theorem si_X12_311 : slSiteV RX12 311 12 mX12_readsLight 0 := ⟨⟨lw_in8 _ (List.mem_of_getElem? (i := 125) (by decide +kernel)), ms_X12_readsLight⟩, mv_X12_readsLight⟩
theorem si_X12_317 : slSiteV RX12 317 12 mX12_readsFogs 0 := ⟨⟨lw_in8 _ (List.mem_of_getElem? (i := 139) (by decide +kernel)), ms_X12_readsFogs⟩, mv_X12_readsFogs⟩
theorem si_X12_323 : slSiteV RX12 323 12 mX12_expression 0 := ⟨⟨lw_in8 _ (List.mem_of_getElem? (i := 143) (by decide +kernel)), ms_X12_expression⟩, mv_X12_expression⟩
theorem si_X12_326 : slSiteV RX12 326 12 mX12_need 1 := ⟨⟨lw_in8 _ (List.mem_of_getElem? (i := 113) (by decide +kernel)), ms_X12_need⟩, mv_X12_need⟩
theorem si_X12_329 : slSiteV RX12 329 12 mX12_right 2 := ⟨⟨lw_in8 _ (List.mem_of_getElem? (i := 64) (by decide +kernel)), ms_X12_right⟩, mv_X12_right⟩
theorem si_X12_333 : slSiteV RX12 333 12 mX12_line 0 := ⟨⟨lw_in8 _ (List.mem_of_getElem? (i := 117) (by decide +kernel)), ms_X12_line⟩, mv_X12_line⟩
theorem si_X12_351 : slSiteV RX12 351 12 mX12_copies 2 := ⟨⟨lw_in8 _ (List.mem_of_getElem? (i := 185) (by decide +kernel)), ms_X12_copies⟩, mv_X12_copies⟩
theorem si_X12_365 : slSiteS RX12 365 mX12_works 3 := ⟨⟨lw_in9 _ (List.mem_of_getElem? (i := 8) (by decide +kernel)), ms_X12_works⟩, mt_X12_works⟩
theorem si_X12_369 : slSiteV RX12 369 12 mX12_isLitIn 2 := ⟨⟨lw_in8 _ (List.mem_of_getElem? (i := 232) (by decide +kernel)), ms_X12_isLitIn⟩, mv_X12_isLitIn⟩
theorem si_X12_372 : slSiteV RX12 372 12 mX12_reckons 1 := ⟨⟨lw_in9 _ (List.mem_of_getElem? (i := 4) (by decide +kernel)), ms_X12_reckons⟩, mv_X12_reckons⟩
theorem si_X12_375 : slSiteV RX12 375 12 mX12_leads 2 := ⟨⟨lw_in9 _ (List.mem_of_getElem? (i := 15) (by decide +kernel)), ms_X12_leads⟩, mv_X12_leads⟩
theorem si_X12_381 : slSiteV RX12 381 12 mX12_yieldsBy 3 := ⟨⟨lw_in9 _ (List.mem_of_getElem? (i := 0) (by decide +kernel)), ms_X12_yieldsBy⟩, mv_X12_yieldsBy⟩
theorem si_X12_384 : slSiteV RX12 384 12 mX12_steps 2 := ⟨⟨lw_in9 _ (List.mem_of_getElem? (i := 11) (by decide +kernel)), ms_X12_steps⟩, mv_X12_steps⟩
theorem si_X12_388 : slSiteV RX12 388 12 mX12_allStep 2 := ⟨⟨lw_in8 _ (List.mem_of_getElem? (i := 236) (by decide +kernel)), ms_X12_allStep⟩, mv_X12_allStep⟩
theorem si_X12_391 : slSiteV RX12 391 12 mX12_sails 2 := ⟨⟨lw_in8 _ (List.mem_of_getElem? (i := 228) (by decide +kernel)), ms_X12_sails⟩, mv_X12_sails⟩
theorem si_X12_394 : slSiteS RX12 394 mX12_off 2 := ⟨⟨lw_in9 _ (List.mem_of_getElem? (i := 47) (by decide +kernel)), ms_X12_off⟩, mt_X12_off⟩
theorem si_X12_397 : slSiteV RX12 397 12 mX12_farOf 2 := ⟨⟨lw_in9 _ (List.mem_of_getElem? (i := 43) (by decide +kernel)), ms_X12_farOf⟩, mv_X12_farOf⟩
theorem si_X12_400 : slSiteV RX12 400 12 mX12_isHidden 2 := ⟨⟨lw_in9 _ (List.mem_of_getElem? (i := 50) (by decide +kernel)), ms_X12_isHidden⟩, mv_X12_isHidden⟩
theorem si_X12_403 : slSiteV RX12 403 12 mX12_isInSight 4 := ⟨⟨lw_in9 _ (List.mem_of_getElem? (i := 39) (by decide +kernel)), ms_X12_isInSight⟩, mv_X12_isInSight⟩
theorem si_X12_407 : slSiteV RX12 407 12 mX12_fogIn 1 := ⟨⟨lw_in9 _ (List.mem_of_getElem? (i := 27) (by decide +kernel)), ms_X12_fogIn⟩, mv_X12_fogIn⟩
theorem si_X12_410 : slSiteV RX12 410 12 mX12_seenFrom 3 := ⟨⟨lw_in9 _ (List.mem_of_getElem? (i := 35) (by decide +kernel)), ms_X12_seenFrom⟩, mv_X12_seenFrom⟩
theorem si_X12_413 : slSiteV RX12 413 12 mX12_watchFrom 4 := ⟨⟨lw_in9 _ (List.mem_of_getElem? (i := 31) (by decide +kernel)), ms_X12_watchFrom⟩, mv_X12_watchFrom⟩
theorem si_X12_417 : slSiteV RX12 417 12 mX12_watchOf 2 := ⟨⟨lw_in9 _ (List.mem_of_getElem? (i := 23) (by decide +kernel)), ms_X12_watchOf⟩, mv_X12_watchOf⟩
theorem si_X12_420 : slSiteS RX12 420 mX12_within 3 := ⟨⟨lw_in8 _ (List.mem_of_getElem? (i := 201) (by decide +kernel)), ms_X12_within⟩, mt_X12_within⟩
theorem si_X12_424 : slSiteV RX12 424 12 mX12_isLight 1 := ⟨⟨lw_in8 _ (List.mem_of_getElem? (i := 208) (by decide +kernel)), ms_X12_isLight⟩, mv_X12_isLight⟩
theorem si_X12_427 : slSiteV RX12 427 12 mX12_isWhat 2 := ⟨⟨lw_in8 _ (List.mem_of_getElem? (i := 212) (by decide +kernel)), ms_X12_isWhat⟩, mv_X12_isWhat⟩
theorem si_X12_430 : slSiteV RX12 430 12 mX12_seenNow 2 := ⟨⟨lw_in9 _ (List.mem_of_getElem? (i := 58) (by decide +kernel)), ms_X12_seenNow⟩, mv_X12_seenNow⟩
theorem si_X12_433 : slSiteV RX12 433 12 mX12_isShip 1 := ⟨⟨lw_in8 _ (List.mem_of_getElem? (i := 220) (by decide +kernel)), ms_X12_isShip⟩, mv_X12_isShip⟩
theorem si_X12_436 : slSiteV RX12 436 12 mX12_sailsNow 0 := ⟨⟨lw_in8 _ (List.mem_of_getElem? (i := 224) (by decide +kernel)), ms_X12_sailsNow⟩, mv_X12_sailsNow⟩
theorem si_X12_439 : slSiteV RX12 439 12 mX12_unseen 1 := ⟨⟨lw_in9 _ (List.mem_of_getElem? (i := 19) (by decide +kernel)), ms_X12_unseen⟩, mv_X12_unseen⟩
theorem si_X12_442 : slSiteV RX12 442 12 mX12_longestDark 1 := ⟨⟨lw_in9 _ (List.mem_of_getElem? (i := 54) (by decide +kernel)), ms_X12_longestDark⟩, mv_X12_longestDark⟩
theorem si_X12_445 : slSiteV RX12 445 12 mX12_isHour 1 := ⟨⟨lw_in9 _ (List.mem_of_getElem? (i := 66) (by decide +kernel)), ms_X12_isHour⟩, mv_X12_isHour⟩
theorem si_X12_448 : slSiteV RX12 448 12 mX12_isNight 1 := ⟨⟨lw_in9 _ (List.mem_of_getElem? (i := 82) (by decide +kernel)), ms_X12_isNight⟩, mv_X12_isNight⟩
theorem si_X12_451 : slSiteV RX12 451 12 mX12_contentBy 3 := ⟨⟨lw_in9 _ (List.mem_of_getElem? (i := 90) (by decide +kernel)), ms_X12_contentBy⟩, mv_X12_contentBy⟩
theorem si_X12_454 : slSiteV RX12 454 12 mX12_becomes 2 := ⟨⟨lw_in9 _ (List.mem_of_getElem? (i := 102) (by decide +kernel)), ms_X12_becomes⟩, mv_X12_becomes⟩
theorem si_X12_457 : slSiteV RX12 457 12 mX12_refuses 1 := ⟨⟨lw_in9 _ (List.mem_of_getElem? (i := 106) (by decide +kernel)), ms_X12_refuses⟩, mv_X12_refuses⟩
theorem si_X12_460 : slSiteV RX12 460 12 mX12_cells 0 := ⟨⟨lw_in9 _ (List.mem_of_getElem? (i := 118) (by decide +kernel)), ms_X12_cells⟩, mv_X12_cells⟩
theorem si_X12_463 : slSiteV RX12 463 12 mX12_isFree 4 := ⟨⟨lw_in9 _ (List.mem_of_getElem? (i := 114) (by decide +kernel)), ms_X12_isFree⟩, mv_X12_isFree⟩
theorem si_X12_466 : slSiteS RX12 466 mX12_bits 1 := ⟨⟨lw_in9 _ (List.mem_of_getElem? (i := 138) (by decide +kernel)), ms_X12_bits⟩, mt_X12_bits⟩
theorem si_X12_469 : slSiteV RX12 469 12 mX12_findsDiffers 1 := ⟨⟨lw_in9 _ (List.mem_of_getElem? (i := 145) (by decide +kernel)), ms_X12_findsDiffers⟩, mv_X12_findsDiffers⟩
theorem si_X12_472 : slSiteV RX12 472 12 mX12_areAlike 2 := ⟨⟨lw_in9 _ (List.mem_of_getElem? (i := 149) (by decide +kernel)), ms_X12_areAlike⟩, mv_X12_areAlike⟩
theorem si_X12_475 : slSiteV RX12 475 12 mX12_isEnough 1 := ⟨⟨lw_in9 _ (List.mem_of_getElem? (i := 153) (by decide +kernel)), ms_X12_isEnough⟩, mv_X12_isEnough⟩
theorem si_X12_478 : slSiteV RX12 478 12 mX12_isHis 4 := ⟨⟨lw_in9 _ (List.mem_of_getElem? (i := 161) (by decide +kernel)), ms_X12_isHis⟩, mv_X12_isHis⟩
theorem si_X12_481 : slSiteV RX12 481 12 mX12_wouldRather 3 := ⟨⟨lw_in9 _ (List.mem_of_getElem? (i := 181) (by decide +kernel)), ms_X12_wouldRather⟩, mv_X12_wouldRather⟩
theorem si_X12_484 : slSiteV RX12 484 12 mX12_shipRather 3 := ⟨⟨lw_in9 _ (List.mem_of_getElem? (i := 185) (by decide +kernel)), ms_X12_shipRather⟩, mv_X12_shipRather⟩
theorem si_X12_487 : slSiteV RX12 487 12 mX12_laysApart 1 := ⟨⟨lw_in9 _ (List.mem_of_getElem? (i := 169) (by decide +kernel)), ms_X12_laysApart⟩, mv_X12_laysApart⟩
theorem si_X12_490 : slSiteV RX12 490 12 mX12_laysMatching 1 := ⟨⟨lw_in9 _ (List.mem_of_getElem? (i := 173) (by decide +kernel)), ms_X12_laysMatching⟩, mv_X12_laysMatching⟩
theorem si_X12_493 : slSiteV RX12 493 12 mX12_isStable 0 := ⟨⟨lw_in9 _ (List.mem_of_getElem? (i := 177) (by decide +kernel)), ms_X12_isStable⟩, mv_X12_isStable⟩
theorem si_X12_496 : slSiteV RX12 496 12 mX12_asks 1 := ⟨⟨lw_in9 _ (List.mem_of_getElem? (i := 193) (by decide +kernel)), ms_X12_asks⟩, mv_X12_asks⟩
theorem si_X12_499 : slSiteV RX12 499 12 mX12_sumOf 0 := ⟨⟨lw_in9 _ (List.mem_of_getElem? (i := 209) (by decide +kernel)), ms_X12_sumOf⟩, mv_X12_sumOf⟩
theorem si_X12_502 : slSiteV RX12 502 12 mX12_isLaw 1 := ⟨⟨lw_in9 _ (List.mem_of_getElem? (i := 201) (by decide +kernel)), ms_X12_isLaw⟩, mv_X12_isLaw⟩
theorem si_X12_505 : slSiteV RX12 505 12 mX12_sumBy 1 := ⟨⟨lw_in9 _ (List.mem_of_getElem? (i := 205) (by decide +kernel)), ms_X12_sumBy⟩, mv_X12_sumBy⟩
theorem si_X12_508 : slSiteV RX12 508 12 mX12_falseNow 0 := ⟨⟨lw_in9 _ (List.mem_of_getElem? (i := 237) (by decide +kernel)), ms_X12_falseNow⟩, mv_X12_falseNow⟩
theorem si_X12_511 : slSiteV RX12 511 12 mX12_gains 6 := ⟨⟨lw_in10 _ (List.mem_of_getElem? (i := 9) (by decide +kernel)), ms_X12_gains⟩, mv_X12_gains⟩
theorem si_X12_519 : slSiteV RX12 519 12 mX12_draw 1 := ⟨⟨lw_in10 _ (List.mem_of_getElem? (i := 17) (by decide +kernel)), ms_X12_draw⟩, mv_X12_draw⟩
theorem si_X12_522 : slSiteV RX12 522 12 mX12_shows 1 := ⟨⟨lw_in10 _ (List.mem_of_getElem? (i := 30) (by decide +kernel)), ms_X12_shows⟩, mv_X12_shows⟩
theorem si_J0_335 : slSiteT RJ0 335 mJ0_coder_7d493 0 := ⟨⟨lw_in4 _ (List.mem_of_getElem? (i := 76) (by decide +kernel)), ms_J0_coder_7d493⟩, mv_J0_coder_7d493⟩
theorem si_J0_492 : slSiteT RJ0 492 mJ0_isLatin1_aae02 0 := ⟨⟨lw_in4 _ (List.mem_of_getElem? (i := 66) (by decide +kernel)), ms_J0_isLatin1_aae02⟩, mv_J0_isLatin1_aae02⟩
theorem si_J0_495 : slSiteS RJ0 495 mJ1_charAt_3b067 2 := ⟨⟨lw_in4 _ (List.mem_of_getElem? (i := 150) (by decide +kernel)), ms_J1_charAt_3b067⟩, mt_J1_charAt_3b067⟩
theorem si_J0_505 : slSiteT RJ0 505 mJ0_length_8abf5 0 := ⟨⟨lw_in4 _ (List.mem_of_getElem? (i := 72) (by decide +kernel)), ms_J0_length_8abf5⟩, mv_J0_length_8abf5⟩
theorem si_J0_633 : slSiteT RJ0 633 mJ0_indexOf_7cf53 2 := ⟨⟨lw_in4 _ (List.mem_of_getElem? (i := 62) (by decide +kernel)), ms_J0_indexOf_7cf53⟩, mv_J0_indexOf_7cf53⟩
theorem si_J0_637 : slSiteS RJ0 637 mJ1_indexOf_4cfef 4 := ⟨⟨lw_in4 _ (List.mem_of_getElem? (i := 80) (by decide +kernel)), ms_J1_indexOf_4cfef⟩, mt_J1_indexOf_4cfef⟩
theorem si_J1_9 : slSiteS RJ1 9 mJ0_checkIndex_df160 2 := ⟨⟨lw_in4 _ (List.mem_of_getElem? (i := 153) (by decide +kernel)), ms_J0_checkIndex_df160⟩, mt_J0_checkIndex_df160⟩
theorem si_J1_38 : slMath RJ1 38 Lib.Math.min.name Lib.Math.min.code 2 := ⟨lw_in4 _ (List.mem_of_getElem? (i := 87) (by decide +kernel)), lw_in4 _ (List.mem_of_getElem? (i := 45) (by decide +kernel)), lw_in1 _ (List.mem_of_getElem? (i := 18) (by decide +kernel)), lw_in4 _ (List.mem_of_getElem? (i := 46) (by decide +kernel))⟩
theorem si_J1_88 : slSiteS RJ1 88 mJ1_canEncode_9a6ad 1 := ⟨⟨lw_in4 _ (List.mem_of_getElem? (i := 83) (by decide +kernel)), ms_J1_canEncode_9a6ad⟩, mt_J1_canEncode_9a6ad⟩
theorem si_J1_92 : slMath RJ1 92 Lib.Math.max.name Lib.Math.max.code 2 := ⟨lw_in4 _ (List.mem_of_getElem? (i := 86) (by decide +kernel)), lw_in3 _ (List.mem_of_getElem? (i := 62) (by decide +kernel)), lw_in1 _ (List.mem_of_getElem? (i := 18) (by decide +kernel)), lw_in3 _ (List.mem_of_getElem? (i := 63) (by decide +kernel))⟩
theorem si_J1_95 : slSiteS RJ1 95 mJ1_indexOfChar_4cfef 4 := ⟨⟨lw_in4 _ (List.mem_of_getElem? (i := 88) (by decide +kernel)), ms_J1_indexOfChar_4cfef⟩, mt_J1_indexOfChar_4cfef⟩
theorem fs_value : Cond.fieldLink "java/lang/String" 9 "java/lang/String" "value" "[B" ∈ lw_tbl := lw_in10 _ (List.mem_of_getElem? (i := 78) (by decide +kernel))
theorem fs_coder : Cond.fieldLink "java/lang/String" 15 "java/lang/String" "coder" "B" ∈ lw_tbl := lw_in10 _ (List.mem_of_getElem? (i := 77) (by decide +kernel))
theorem fs_compact : Cond.fieldLink "java/lang/String" 38 "java/lang/String" "COMPACT_STRINGS" "Z" ∈ lw_tbl := lw_in4 _ (List.mem_of_getElem? (i := 70) (by decide +kernel))
