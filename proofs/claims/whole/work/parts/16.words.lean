theorem wq_127 : Cond.fieldLink RX3 15 "PermitOffice$Reader" "length" "I" ∈ po_TB := List.mem_filter.mpr ⟨List.mem_of_getElem? (i := 127) (by decide +kernel), by decide +kernel⟩
theorem fl_X3_15 : po_FL RX3 15 3 1 := ⟨_, rfl, by decide, rfl, Or.inl wq_127⟩
theorem wq_126 : Cond.fieldLink RX3 9 "PermitOffice$Reader" "text" "[C" ∈ po_TB := List.mem_filter.mpr ⟨List.mem_of_getElem? (i := 126) (by decide +kernel), by decide +kernel⟩
theorem fl_X3_9 : po_FL RX3 9 3 0 := ⟨_, rfl, by decide, rfl, Or.inl wq_126⟩
theorem wq_386 : Cond.fieldLink RX7 10 "PermitOffice" "reader" "LPermitOffice$Reader;" ∈ po_TB := List.mem_filter.mpr ⟨List.mem_of_getElem? (i := 386) (by decide +kernel), by decide +kernel⟩
theorem fl_X7_10 : po_FL RX7 10 7 0 := ⟨_, rfl, by decide, rfl, Or.inl wq_386⟩
theorem wn_39 : Cond.fieldLinkNest RX7 55 "PermitOffice$Reader" "length" "I" "PermitOffice" ∈ po_NW := List.mem_filter.mpr ⟨List.mem_of_getElem? (i := 39) (by decide +kernel), by decide +kernel⟩
theorem fl_X7_55 : po_FL RX7 55 3 1 := ⟨_, rfl, by decide, rfl, Or.inr ⟨_, wn_39⟩⟩
theorem wq_544 : Cond.code yX3_addCharacter cX3_addCharacter 2 none ∈ po_TB := List.mem_filter.mpr ⟨List.mem_of_getElem? (i := 544) (by decide +kernel), by decide +kernel⟩
theorem wq_542 : Cond.instanceMethod yX3_addCharacter ∈ po_TB := List.mem_filter.mpr ⟨List.mem_of_getElem? (i := 542) (by decide +kernel), by decide +kernel⟩
theorem wq_91 : Cond.initialized RX3 ∈ po_TB := List.mem_filter.mpr ⟨List.mem_of_getElem? (i := 91) (by decide +kernel), by decide +kernel⟩
theorem mv_X3_addCharacter : po_MV yX3_addCharacter cX3_addCharacter 2 none 1 := ⟨wq_544, wq_542, wq_91, by decide +kernel⟩
theorem wq_541 : Cond.methodLink RX7 63 yX3_addCharacter ∈ po_TB := List.mem_filter.mpr ⟨List.mem_of_getElem? (i := 541) (by decide +kernel), by decide +kernel⟩
theorem wq_543 : Cond.selects RX3 yX3_addCharacter yX3_addCharacter ∈ po_TB := List.mem_filter.mpr ⟨List.mem_of_getElem? (i := 543) (by decide +kernel), by decide +kernel⟩
theorem ws_X3_addCharacter : Cond.selects yX3_addCharacter.cls yX3_addCharacter yX3_addCharacter ∈ po_TB := wq_543
theorem wq_454 : Cond.classLink RX7 48 "java/lang/IllegalArgumentException" ∈ po_TB := List.mem_filter.mpr ⟨List.mem_of_getElem? (i := 454) (by decide +kernel), by decide +kernel⟩
theorem wq_102 : Cond.initialized "java/lang/IllegalArgumentException" ∈ po_TB := List.mem_filter.mpr ⟨List.mem_of_getElem? (i := 102) (by decide +kernel), by decide +kernel⟩
set_option maxRecDepth 20000 in
theorem ta_X7_52 : (∀ w ∈ vx_atS RX7 52 "java/lang/IllegalArgumentException" ["java/lang/RuntimeException", "java/lang/Exception"], w ∈ po_TB ∨ w ∈ po_NW) ∧ (∀ w ∈ vx_atS RX7 52 "java/lang/IllegalArgumentException" ["java/lang/RuntimeException", "java/lang/Exception"], vx_ot w = true) := by decide +kernel
theorem tw_X7_50_52 : po_TW RX7 "java/lang/IllegalArgumentException" "a byte is no character of a text" ["java/lang/RuntimeException", "java/lang/Exception"] 48 50 52 := ⟨by decide +kernel, by decide +kernel, wq_454, wq_102, List.mem_of_getElem? (i := 0) (by decide +kernel), ta_X7_52.1, fun w hw => by
  rcases List.mem_cons.mp hw with rfl | hw
  · decide +kernel
  · rcases List.mem_cons.mp hw with rfl | hw
    · decide +kernel
    · exact ta_X7_52.2 w hw⟩
theorem wq_525 : Cond.classLink RX7 58 "java/lang/IllegalStateException" ∈ po_TB := List.mem_filter.mpr ⟨List.mem_of_getElem? (i := 525) (by decide +kernel), by decide +kernel⟩
theorem wq_103 : Cond.initialized "java/lang/IllegalStateException" ∈ po_TB := List.mem_filter.mpr ⟨List.mem_of_getElem? (i := 103) (by decide +kernel), by decide +kernel⟩
set_option maxRecDepth 20000 in
theorem ta_X7_62 : (∀ w ∈ vx_atS RX7 62 "java/lang/IllegalStateException" ["java/lang/RuntimeException", "java/lang/Exception"], w ∈ po_TB ∨ w ∈ po_NW) ∧ (∀ w ∈ vx_atS RX7 62 "java/lang/IllegalStateException" ["java/lang/RuntimeException", "java/lang/Exception"], vx_ot w = true) := by decide +kernel
theorem tw_X7_60_62 : po_TW RX7 "java/lang/IllegalStateException" "there would be too many characters" ["java/lang/RuntimeException", "java/lang/Exception"] 58 60 62 := ⟨by decide +kernel, by decide +kernel, wq_525, wq_103, List.mem_of_getElem? (i := 1) (by decide +kernel), ta_X7_62.1, fun w hw => by
  rcases List.mem_cons.mp hw with rfl | hw
  · decide +kernel
  · rcases List.mem_cons.mp hw with rfl | hw
    · decide +kernel
    · exact ta_X7_62.2 w hw⟩
theorem wq_154 : Cond.fieldLink RX0 9 "PermitOffice$Area" "rows" "[I" ∈ po_TB := List.mem_filter.mpr ⟨List.mem_of_getElem? (i := 154) (by decide +kernel), by decide +kernel⟩
theorem fl_X0_9 : po_FL RX0 9 0 0 := ⟨_, rfl, by decide, rfl, Or.inl wq_154⟩
theorem wq_434 : Cond.methodLink RX0 15 arraycopyName ∈ po_TB := List.mem_filter.mpr ⟨List.mem_of_getElem? (i := 434) (by decide +kernel), by decide +kernel⟩
theorem wq_425 : Cond.native arraycopyName ∈ po_TB := List.mem_filter.mpr ⟨List.mem_of_getElem? (i := 425) (by decide +kernel), by decide +kernel⟩
theorem wq_424 : Cond.static arraycopyName ∈ po_TB := List.mem_filter.mpr ⟨List.mem_of_getElem? (i := 424) (by decide +kernel), by decide +kernel⟩
theorem wq_104 : Cond.initialized "java/lang/System" ∈ po_TB := List.mem_filter.mpr ⟨List.mem_of_getElem? (i := 104) (by decide +kernel), by decide +kernel⟩
theorem wq_187 : Cond.fieldLink RX1 16 "PermitOffice$Lot" "zone" "I" ∈ po_TB := List.mem_filter.mpr ⟨List.mem_of_getElem? (i := 187) (by decide +kernel), by decide +kernel⟩
theorem fl_X1_16 : po_FL RX1 16 1 0 := ⟨_, rfl, by decide, rfl, Or.inl wq_187⟩
theorem wq_191 : Cond.fieldLink RX1 20 "PermitOffice$Lot" "front" "I" ∈ po_TB := List.mem_filter.mpr ⟨List.mem_of_getElem? (i := 191) (by decide +kernel), by decide +kernel⟩
theorem fl_X1_20 : po_FL RX1 20 1 1 := ⟨_, rfl, by decide, rfl, Or.inl wq_191⟩
theorem wq_195 : Cond.fieldLink RX1 10 "PermitOffice$Lot" "area" "LPermitOffice$Area;" ∈ po_TB := List.mem_filter.mpr ⟨List.mem_of_getElem? (i := 195) (by decide +kernel), by decide +kernel⟩
theorem fl_X1_10 : po_FL RX1 10 1 2 := ⟨_, rfl, by decide, rfl, Or.inl wq_195⟩
theorem wq_433 : Cond.code yX0_copyFrom cX0_copyFrom 2 none ∈ po_TB := List.mem_filter.mpr ⟨List.mem_of_getElem? (i := 433) (by decide +kernel), by decide +kernel⟩
theorem wq_431 : Cond.instanceMethod yX0_copyFrom ∈ po_TB := List.mem_filter.mpr ⟨List.mem_of_getElem? (i := 431) (by decide +kernel), by decide +kernel⟩
theorem wq_93 : Cond.initialized RX0 ∈ po_TB := List.mem_filter.mpr ⟨List.mem_of_getElem? (i := 93) (by decide +kernel), by decide +kernel⟩
theorem mv_X0_copyFrom : po_MV yX0_copyFrom cX0_copyFrom 2 none 1 := ⟨wq_433, wq_431, wq_93, by decide +kernel⟩
theorem wq_430 : Cond.methodLink RX1 23 yX0_copyFrom ∈ po_TB := List.mem_filter.mpr ⟨List.mem_of_getElem? (i := 430) (by decide +kernel), by decide +kernel⟩
theorem wq_432 : Cond.selects RX0 yX0_copyFrom yX0_copyFrom ∈ po_TB := List.mem_filter.mpr ⟨List.mem_of_getElem? (i := 432) (by decide +kernel), by decide +kernel⟩
theorem ws_X0_copyFrom : Cond.selects yX0_copyFrom.cls yX0_copyFrom yX0_copyFrom ∈ po_TB := wq_432
theorem wq_200 : Cond.fieldLink RX1 27 "PermitOffice$Lot" "cells" "I" ∈ po_TB := List.mem_filter.mpr ⟨List.mem_of_getElem? (i := 200) (by decide +kernel), by decide +kernel⟩
theorem fl_X1_27 : po_FL RX1 27 1 3 := ⟨_, rfl, by decide, rfl, Or.inl wq_200⟩
theorem wq_221 : Cond.fieldLink RX2 25 "PermitOffice$Permit" "lot" "I" ∈ po_TB := List.mem_filter.mpr ⟨List.mem_of_getElem? (i := 221) (by decide +kernel), by decide +kernel⟩
theorem fl_X2_25 : po_FL RX2 25 2 0 := ⟨_, rfl, by decide, rfl, Or.inl wq_221⟩
theorem wq_226 : Cond.fieldLink RX2 29 "PermitOffice$Permit" "use" "I" ∈ po_TB := List.mem_filter.mpr ⟨List.mem_of_getElem? (i := 226) (by decide +kernel), by decide +kernel⟩
theorem fl_X2_29 : po_FL RX2 29 2 1 := ⟨_, rfl, by decide, rfl, Or.inl wq_226⟩
theorem wq_230 : Cond.fieldLink RX2 32 "PermitOffice$Permit" "floors" "I" ∈ po_TB := List.mem_filter.mpr ⟨List.mem_of_getElem? (i := 230) (by decide +kernel), by decide +kernel⟩
theorem fl_X2_32 : po_FL RX2 32 2 2 := ⟨_, rfl, by decide, rfl, Or.inl wq_230⟩
theorem wq_234 : Cond.fieldLink RX2 35 "PermitOffice$Permit" "parking" "I" ∈ po_TB := List.mem_filter.mpr ⟨List.mem_of_getElem? (i := 234) (by decide +kernel), by decide +kernel⟩
theorem fl_X2_35 : po_FL RX2 35 2 3 := ⟨_, rfl, by decide, rfl, Or.inl wq_234⟩
theorem wq_238 : Cond.fieldLink RX2 12 "PermitOffice$Permit" "building" "LPermitOffice$Area;" ∈ po_TB := List.mem_filter.mpr ⟨List.mem_of_getElem? (i := 238) (by decide +kernel), by decide +kernel⟩
theorem fl_X2_12 : po_FL RX2 12 2 4 := ⟨_, rfl, by decide, rfl, Or.inl wq_238⟩
theorem wq_439 : Cond.methodLink RX2 78 yX0_copyFrom ∈ po_TB := List.mem_filter.mpr ⟨List.mem_of_getElem? (i := 439) (by decide +kernel), by decide +kernel⟩
theorem wq_242 : Cond.fieldLink RX2 41 "PermitOffice$Permit" "cells" "I" ∈ po_TB := List.mem_filter.mpr ⟨List.mem_of_getElem? (i := 242) (by decide +kernel), by decide +kernel⟩
theorem fl_X2_41 : po_FL RX2 41 2 5 := ⟨_, rfl, by decide, rfl, Or.inl wq_242⟩
theorem wq_245 : Cond.fieldLink RX2 44 "PermitOffice$Permit" "status" "I" ∈ po_TB := List.mem_filter.mpr ⟨List.mem_of_getElem? (i := 245) (by decide +kernel), by decide +kernel⟩
theorem fl_X2_44 : po_FL RX2 44 2 6 := ⟨_, rfl, by decide, rfl, Or.inl wq_245⟩
theorem wq_248 : Cond.fieldLink RX2 47 "PermitOffice$Permit" "refusedFor" "I" ∈ po_TB := List.mem_filter.mpr ⟨List.mem_of_getElem? (i := 248) (by decide +kernel), by decide +kernel⟩
theorem fl_X2_47 : po_FL RX2 47 2 7 := ⟨_, rfl, by decide, rfl, Or.inl wq_248⟩
theorem wq_250 : Cond.fieldLink RX2 50 "PermitOffice$Permit" "phase" "I" ∈ po_TB := List.mem_filter.mpr ⟨List.mem_of_getElem? (i := 250) (by decide +kernel), by decide +kernel⟩
theorem fl_X2_50 : po_FL RX2 50 2 8 := ⟨_, rfl, by decide, rfl, Or.inl wq_250⟩
theorem wq_252 : Cond.fieldLink RX2 53 "PermitOffice$Permit" "failures" "I" ∈ po_TB := List.mem_filter.mpr ⟨List.mem_of_getElem? (i := 252) (by decide +kernel), by decide +kernel⟩
theorem fl_X2_53 : po_FL RX2 53 2 9 := ⟨_, rfl, by decide, rfl, Or.inl wq_252⟩
theorem wq_254 : Cond.fieldLink RX2 56 "PermitOffice$Permit" "limit" "I" ∈ po_TB := List.mem_filter.mpr ⟨List.mem_of_getElem? (i := 254) (by decide +kernel), by decide +kernel⟩
theorem fl_X2_56 : po_FL RX2 56 2 10 := ⟨_, rfl, by decide, rfl, Or.inl wq_254⟩
theorem wq_256 : Cond.fieldLink RX2 59 "PermitOffice$Permit" "wasExtended" "Z" ∈ po_TB := List.mem_filter.mpr ⟨List.mem_of_getElem? (i := 256) (by decide +kernel), by decide +kernel⟩
theorem fl_X2_59 : po_FL RX2 59 2 11 := ⟨_, rfl, by decide, rfl, Or.inl wq_256⟩
theorem wq_258 : Cond.fieldLink RX2 63 "PermitOffice$Permit" "named" "I" ∈ po_TB := List.mem_filter.mpr ⟨List.mem_of_getElem? (i := 258) (by decide +kernel), by decide +kernel⟩
theorem fl_X2_63 : po_FL RX2 63 2 12 := ⟨_, rfl, by decide, rfl, Or.inl wq_258⟩
theorem wq_261 : Cond.fieldLink RX2 66 "PermitOffice$Permit" "paid" "I" ∈ po_TB := List.mem_filter.mpr ⟨List.mem_of_getElem? (i := 261) (by decide +kernel), by decide +kernel⟩
theorem fl_X2_66 : po_FL RX2 66 2 13 := ⟨_, rfl, by decide, rfl, Or.inl wq_261⟩
theorem wq_264 : Cond.fieldLink RX2 69 "PermitOffice$Permit" "givenBack" "I" ∈ po_TB := List.mem_filter.mpr ⟨List.mem_of_getElem? (i := 264) (by decide +kernel), by decide +kernel⟩
theorem fl_X2_69 : po_FL RX2 69 2 14 := ⟨_, rfl, by decide, rfl, Or.inl wq_264⟩
theorem wq_266 : Cond.fieldLink RX2 72 "PermitOffice$Permit" "conditions" "I" ∈ po_TB := List.mem_filter.mpr ⟨List.mem_of_getElem? (i := 266) (by decide +kernel), by decide +kernel⟩
theorem fl_X2_72 : po_FL RX2 72 2 15 := ⟨_, rfl, by decide, rfl, Or.inl wq_266⟩
theorem wq_269 : Cond.fieldLink RX2 75 "PermitOffice$Permit" "openSet" "I" ∈ po_TB := List.mem_filter.mpr ⟨List.mem_of_getElem? (i := 269) (by decide +kernel), by decide +kernel⟩
theorem fl_X2_75 : po_FL RX2 75 2 16 := ⟨_, rfl, by decide, rfl, Or.inl wq_269⟩
theorem wq_271 : Cond.fieldLink RX2 18 "PermitOffice$Permit" "phases" "[I" ∈ po_TB := List.mem_filter.mpr ⟨List.mem_of_getElem? (i := 271) (by decide +kernel), by decide +kernel⟩
theorem fl_X2_18 : po_FL RX2 18 2 17 := ⟨_, rfl, by decide, rfl, Or.inl wq_271⟩
theorem wq_440 : Cond.methodLink RX2 82 arraycopyName ∈ po_TB := List.mem_filter.mpr ⟨List.mem_of_getElem? (i := 440) (by decide +kernel), by decide +kernel⟩
theorem wq_273 : Cond.fieldLink RX2 22 "PermitOffice$Permit" "letters" "[I" ∈ po_TB := List.mem_filter.mpr ⟨List.mem_of_getElem? (i := 273) (by decide +kernel), by decide +kernel⟩
theorem fl_X2_22 : po_FL RX2 22 2 18 := ⟨_, rfl, by decide, rfl, Or.inl wq_273⟩
theorem wq_319 : Cond.fieldLink RX6 7 "PermitOffice$Variance" "lot" "I" ∈ po_TB := List.mem_filter.mpr ⟨List.mem_of_getElem? (i := 319) (by decide +kernel), by decide +kernel⟩
theorem fl_X6_7 : po_FL RX6 7 6 0 := ⟨_, rfl, by decide, rfl, Or.inl wq_319⟩
theorem wq_323 : Cond.fieldLink RX6 13 "PermitOffice$Variance" "kind" "I" ∈ po_TB := List.mem_filter.mpr ⟨List.mem_of_getElem? (i := 323) (by decide +kernel), by decide +kernel⟩
theorem fl_X6_13 : po_FL RX6 13 6 1 := ⟨_, rfl, by decide, rfl, Or.inl wq_323⟩
theorem wq_327 : Cond.fieldLink RX6 16 "PermitOffice$Variance" "amount" "I" ∈ po_TB := List.mem_filter.mpr ⟨List.mem_of_getElem? (i := 327) (by decide +kernel), by decide +kernel⟩
theorem fl_X6_16 : po_FL RX6 16 6 2 := ⟨_, rfl, by decide, rfl, Or.inl wq_327⟩
theorem wq_331 : Cond.fieldLink RX6 19 "PermitOffice$Variance" "lastDay" "I" ∈ po_TB := List.mem_filter.mpr ⟨List.mem_of_getElem? (i := 331) (by decide +kernel), by decide +kernel⟩
theorem fl_X6_19 : po_FL RX6 19 6 3 := ⟨_, rfl, by decide, rfl, Or.inl wq_331⟩
theorem wq_364 : Cond.fieldLink RX5 43 "PermitOffice$Town" "varianceCount" "I" ∈ po_TB := List.mem_filter.mpr ⟨List.mem_of_getElem? (i := 364) (by decide +kernel), by decide +kernel⟩
theorem fl_X5_43 : po_FL RX5 43 5 7 := ⟨_, rfl, by decide, rfl, Or.inl wq_364⟩
theorem wq_360 : Cond.fieldLink RX5 39 "PermitOffice$Town" "variances" "[LPermitOffice$Variance;" ∈ po_TB := List.mem_filter.mpr ⟨List.mem_of_getElem? (i := 360) (by decide +kernel), by decide +kernel⟩
theorem fl_X5_39 : po_FL RX5 39 5 6 := ⟨_, rfl, by decide, rfl, Or.inl wq_360⟩
theorem wq_444 : Cond.code yX6_copyFrom cX6_copyFrom 2 none ∈ po_TB := List.mem_filter.mpr ⟨List.mem_of_getElem? (i := 444) (by decide +kernel), by decide +kernel⟩
theorem wq_442 : Cond.instanceMethod yX6_copyFrom ∈ po_TB := List.mem_filter.mpr ⟨List.mem_of_getElem? (i := 442) (by decide +kernel), by decide +kernel⟩
theorem wq_97 : Cond.initialized RX6 ∈ po_TB := List.mem_filter.mpr ⟨List.mem_of_getElem? (i := 97) (by decide +kernel), by decide +kernel⟩
theorem mv_X6_copyFrom : po_MV yX6_copyFrom cX6_copyFrom 2 none 1 := ⟨wq_444, wq_442, wq_97, by decide +kernel⟩
theorem wq_441 : Cond.methodLink RX5 65 yX6_copyFrom ∈ po_TB := List.mem_filter.mpr ⟨List.mem_of_getElem? (i := 441) (by decide +kernel), by decide +kernel⟩
theorem wq_443 : Cond.selects RX6 yX6_copyFrom yX6_copyFrom ∈ po_TB := List.mem_filter.mpr ⟨List.mem_of_getElem? (i := 443) (by decide +kernel), by decide +kernel⟩
theorem ws_X6_copyFrom : Cond.selects yX6_copyFrom.cls yX6_copyFrom yX6_copyFrom ∈ po_TB := wq_443
theorem wq_357 : Cond.fieldLink RX5 34 "PermitOffice$Town" "permitCount" "I" ∈ po_TB := List.mem_filter.mpr ⟨List.mem_of_getElem? (i := 357) (by decide +kernel), by decide +kernel⟩
theorem fl_X5_34 : po_FL RX5 34 5 5 := ⟨_, rfl, by decide, rfl, Or.inl wq_357⟩
theorem wq_354 : Cond.fieldLink RX5 30 "PermitOffice$Town" "permits" "[LPermitOffice$Permit;" ∈ po_TB := List.mem_filter.mpr ⟨List.mem_of_getElem? (i := 354) (by decide +kernel), by decide +kernel⟩
theorem fl_X5_30 : po_FL RX5 30 5 4 := ⟨_, rfl, by decide, rfl, Or.inl wq_354⟩
theorem wq_438 : Cond.code yX2_copyFrom cX2_copyFrom 2 none ∈ po_TB := List.mem_filter.mpr ⟨List.mem_of_getElem? (i := 438) (by decide +kernel), by decide +kernel⟩
theorem wq_436 : Cond.instanceMethod yX2_copyFrom ∈ po_TB := List.mem_filter.mpr ⟨List.mem_of_getElem? (i := 436) (by decide +kernel), by decide +kernel⟩
theorem wq_96 : Cond.initialized RX2 ∈ po_TB := List.mem_filter.mpr ⟨List.mem_of_getElem? (i := 96) (by decide +kernel), by decide +kernel⟩
theorem mv_X2_copyFrom : po_MV yX2_copyFrom cX2_copyFrom 2 none 1 := ⟨wq_438, wq_436, wq_96, by decide +kernel⟩
theorem wq_435 : Cond.methodLink RX5 62 yX2_copyFrom ∈ po_TB := List.mem_filter.mpr ⟨List.mem_of_getElem? (i := 435) (by decide +kernel), by decide +kernel⟩
theorem wq_437 : Cond.selects RX2 yX2_copyFrom yX2_copyFrom ∈ po_TB := List.mem_filter.mpr ⟨List.mem_of_getElem? (i := 437) (by decide +kernel), by decide +kernel⟩
theorem ws_X2_copyFrom : Cond.selects yX2_copyFrom.cls yX2_copyFrom yX2_copyFrom ∈ po_TB := wq_437
theorem wq_351 : Cond.fieldLink RX5 25 "PermitOffice$Town" "lotCount" "I" ∈ po_TB := List.mem_filter.mpr ⟨List.mem_of_getElem? (i := 351) (by decide +kernel), by decide +kernel⟩
theorem fl_X5_25 : po_FL RX5 25 5 3 := ⟨_, rfl, by decide, rfl, Or.inl wq_351⟩
theorem wq_348 : Cond.fieldLink RX5 21 "PermitOffice$Town" "lots" "[LPermitOffice$Lot;" ∈ po_TB := List.mem_filter.mpr ⟨List.mem_of_getElem? (i := 348) (by decide +kernel), by decide +kernel⟩
theorem fl_X5_21 : po_FL RX5 21 5 2 := ⟨_, rfl, by decide, rfl, Or.inl wq_348⟩
theorem wq_429 : Cond.code yX1_copyFrom cX1_copyFrom 2 none ∈ po_TB := List.mem_filter.mpr ⟨List.mem_of_getElem? (i := 429) (by decide +kernel), by decide +kernel⟩
theorem wq_427 : Cond.instanceMethod yX1_copyFrom ∈ po_TB := List.mem_filter.mpr ⟨List.mem_of_getElem? (i := 427) (by decide +kernel), by decide +kernel⟩
theorem wq_95 : Cond.initialized RX1 ∈ po_TB := List.mem_filter.mpr ⟨List.mem_of_getElem? (i := 95) (by decide +kernel), by decide +kernel⟩
theorem mv_X1_copyFrom : po_MV yX1_copyFrom cX1_copyFrom 2 none 1 := ⟨wq_429, wq_427, wq_95, by decide +kernel⟩
theorem wq_426 : Cond.methodLink RX5 58 yX1_copyFrom ∈ po_TB := List.mem_filter.mpr ⟨List.mem_of_getElem? (i := 426) (by decide +kernel), by decide +kernel⟩
theorem wq_428 : Cond.selects RX1 yX1_copyFrom yX1_copyFrom ∈ po_TB := List.mem_filter.mpr ⟨List.mem_of_getElem? (i := 428) (by decide +kernel), by decide +kernel⟩
theorem ws_X1_copyFrom : Cond.selects yX1_copyFrom.cls yX1_copyFrom yX1_copyFrom ∈ po_TB := wq_428
theorem wq_343 : Cond.fieldLink RX5 9 "PermitOffice$Town" "day" "I" ∈ po_TB := List.mem_filter.mpr ⟨List.mem_of_getElem? (i := 343) (by decide +kernel), by decide +kernel⟩
theorem fl_X5_9 : po_FL RX5 9 5 0 := ⟨_, rfl, by decide, rfl, Or.inl wq_343⟩
theorem wq_347 : Cond.fieldLink RX5 15 "PermitOffice$Town" "rules" "[I" ∈ po_TB := List.mem_filter.mpr ⟨List.mem_of_getElem? (i := 347) (by decide +kernel), by decide +kernel⟩
theorem fl_X5_15 : po_FL RX5 15 5 1 := ⟨_, rfl, by decide, rfl, Or.inl wq_347⟩
theorem wq_423 : Cond.methodLink RX5 52 arraycopyName ∈ po_TB := List.mem_filter.mpr ⟨List.mem_of_getElem? (i := 423) (by decide +kernel), by decide +kernel⟩
theorem wq_129 : Cond.fieldLink RX3 19 "PermitOffice$Reader" "position" "I" ∈ po_TB := List.mem_filter.mpr ⟨List.mem_of_getElem? (i := 129) (by decide +kernel), by decide +kernel⟩
theorem fl_X3_19 : po_FL RX3 19 3 2 := ⟨_, rfl, by decide, rfl, Or.inl wq_129⟩
theorem wq_130 : Cond.fieldLink RX3 22 "PermitOffice$Reader" "error" "I" ∈ po_TB := List.mem_filter.mpr ⟨List.mem_of_getElem? (i := 130) (by decide +kernel), by decide +kernel⟩
theorem fl_X3_22 : po_FL RX3 22 3 3 := ⟨_, rfl, by decide, rfl, Or.inl wq_130⟩
theorem wq_571 : Cond.code yX3_failAt cX3_failAt 2 (some .boolean) ∈ po_TB := List.mem_filter.mpr ⟨List.mem_of_getElem? (i := 571) (by decide +kernel), by decide +kernel⟩
theorem wq_570 : Cond.instanceMethod yX3_failAt ∈ po_TB := List.mem_filter.mpr ⟨List.mem_of_getElem? (i := 570) (by decide +kernel), by decide +kernel⟩
theorem mv_X3_failAt : po_MV yX3_failAt cX3_failAt 2 (some .boolean) 1 := ⟨wq_571, wq_570, wq_91, by decide +kernel⟩
theorem wq_568 : Cond.methodLink RX3 48 yX3_failAt ∈ po_TB := List.mem_filter.mpr ⟨List.mem_of_getElem? (i := 568) (by decide +kernel), by decide +kernel⟩
theorem wp_4 : Cond.selects RX3 yX3_failAt yX3_failAt ∈ po_TB := List.mem_filter.mpr ⟨List.mem_of_getElem? (i := 4) (by decide +kernel), by decide +kernel⟩
theorem ws_X3_failAt : Cond.selects yX3_failAt.cls yX3_failAt yX3_failAt ∈ po_TB := wp_4
theorem wq_563 : Cond.code yX3_next cX3_next 1 (some .int) ∈ po_TB := List.mem_filter.mpr ⟨List.mem_of_getElem? (i := 563) (by decide +kernel), by decide +kernel⟩
theorem wq_562 : Cond.instanceMethod yX3_next ∈ po_TB := List.mem_filter.mpr ⟨List.mem_of_getElem? (i := 562) (by decide +kernel), by decide +kernel⟩
theorem mv_X3_next : po_MV yX3_next cX3_next 1 (some .int) 0 := ⟨wq_563, wq_562, wq_91, by decide +kernel⟩
theorem wq_560 : Cond.methodLink RX3 29 yX3_next ∈ po_TB := List.mem_filter.mpr ⟨List.mem_of_getElem? (i := 560) (by decide +kernel), by decide +kernel⟩
theorem wp_2 : Cond.selects RX3 yX3_next yX3_next ∈ po_TB := List.mem_filter.mpr ⟨List.mem_of_getElem? (i := 2) (by decide +kernel), by decide +kernel⟩
theorem ws_X3_next : Cond.selects yX3_next.cls yX3_next yX3_next ∈ po_TB := wp_2
theorem wq_575 : Cond.code yX3_readValue cX3_readValue 5 (some .int) ∈ po_TB := List.mem_filter.mpr ⟨List.mem_of_getElem? (i := 575) (by decide +kernel), by decide +kernel⟩
theorem wq_574 : Cond.instanceMethod yX3_readValue ∈ po_TB := List.mem_filter.mpr ⟨List.mem_of_getElem? (i := 574) (by decide +kernel), by decide +kernel⟩
theorem mv_X3_readValue : po_MV yX3_readValue cX3_readValue 5 (some .int) 3 := ⟨wq_575, wq_574, wq_91, by decide +kernel⟩
theorem wq_572 : Cond.methodLink RX3 61 yX3_readValue ∈ po_TB := List.mem_filter.mpr ⟨List.mem_of_getElem? (i := 572) (by decide +kernel), by decide +kernel⟩
theorem wp_5 : Cond.selects RX3 yX3_readValue yX3_readValue ∈ po_TB := List.mem_filter.mpr ⟨List.mem_of_getElem? (i := 5) (by decide +kernel), by decide +kernel⟩
theorem ws_X3_readValue : Cond.selects yX3_readValue.cls yX3_readValue yX3_readValue ∈ po_TB := wp_5
theorem wq_595 : Cond.code yX0_addRectangle cX0_addRectangle 7 none ∈ po_TB := List.mem_filter.mpr ⟨List.mem_of_getElem? (i := 595) (by decide +kernel), by decide +kernel⟩
theorem wq_593 : Cond.instanceMethod yX0_addRectangle ∈ po_TB := List.mem_filter.mpr ⟨List.mem_of_getElem? (i := 593) (by decide +kernel), by decide +kernel⟩
theorem mv_X0_addRectangle : po_MV yX0_addRectangle cX0_addRectangle 7 none 4 := ⟨wq_595, wq_593, wq_93, by decide +kernel⟩
theorem wq_592 : Cond.methodLink RX3 181 yX0_addRectangle ∈ po_TB := List.mem_filter.mpr ⟨List.mem_of_getElem? (i := 592) (by decide +kernel), by decide +kernel⟩
theorem wq_594 : Cond.selects RX0 yX0_addRectangle yX0_addRectangle ∈ po_TB := List.mem_filter.mpr ⟨List.mem_of_getElem? (i := 594) (by decide +kernel), by decide +kernel⟩
theorem ws_X0_addRectangle : Cond.selects yX0_addRectangle.cls yX0_addRectangle yX0_addRectangle ∈ po_TB := wq_594
theorem wq_591 : Cond.code yX3_readRectangle cX3_readRectangle 7 (some .boolean) ∈ po_TB := List.mem_filter.mpr ⟨List.mem_of_getElem? (i := 591) (by decide +kernel), by decide +kernel⟩
theorem wq_590 : Cond.instanceMethod yX3_readRectangle ∈ po_TB := List.mem_filter.mpr ⟨List.mem_of_getElem? (i := 590) (by decide +kernel), by decide +kernel⟩
theorem mv_X3_readRectangle : po_MV yX3_readRectangle cX3_readRectangle 7 (some .boolean) 1 := ⟨wq_591, wq_590, wq_91, by decide +kernel⟩
theorem wq_588 : Cond.methodLink RX3 178 yX3_readRectangle ∈ po_TB := List.mem_filter.mpr ⟨List.mem_of_getElem? (i := 588) (by decide +kernel), by decide +kernel⟩
theorem wp_8 : Cond.selects RX3 yX3_readRectangle yX3_readRectangle ∈ po_TB := List.mem_filter.mpr ⟨List.mem_of_getElem? (i := 8) (by decide +kernel), by decide +kernel⟩
theorem ws_X3_readRectangle : Cond.selects yX3_readRectangle.cls yX3_readRectangle yX3_readRectangle ∈ po_TB := wp_8
theorem wq_587 : Cond.code yX0_clear cX0_clear 2 none ∈ po_TB := List.mem_filter.mpr ⟨List.mem_of_getElem? (i := 587) (by decide +kernel), by decide +kernel⟩
theorem wq_585 : Cond.instanceMethod yX0_clear ∈ po_TB := List.mem_filter.mpr ⟨List.mem_of_getElem? (i := 585) (by decide +kernel), by decide +kernel⟩
theorem mv_X0_clear : po_MV yX0_clear cX0_clear 2 none 0 := ⟨wq_587, wq_585, wq_93, by decide +kernel⟩
theorem wq_584 : Cond.methodLink RX3 177 yX0_clear ∈ po_TB := List.mem_filter.mpr ⟨List.mem_of_getElem? (i := 584) (by decide +kernel), by decide +kernel⟩
theorem wq_586 : Cond.selects RX0 yX0_clear yX0_clear ∈ po_TB := List.mem_filter.mpr ⟨List.mem_of_getElem? (i := 586) (by decide +kernel), by decide +kernel⟩
theorem ws_X0_clear : Cond.selects yX0_clear.cls yX0_clear yX0_clear ∈ po_TB := wq_586
theorem wq_607 : Cond.constant RJ6 265 1431655765 ∈ po_TB := List.mem_filter.mpr ⟨List.mem_of_getElem? (i := 607) (by decide +kernel), by decide +kernel⟩
theorem wq_608 : Cond.constant RJ6 266 858993459 ∈ po_TB := List.mem_filter.mpr ⟨List.mem_of_getElem? (i := 608) (by decide +kernel), by decide +kernel⟩
theorem wq_609 : Cond.constant RJ6 267 252645135 ∈ po_TB := List.mem_filter.mpr ⟨List.mem_of_getElem? (i := 609) (by decide +kernel), by decide +kernel⟩
theorem wq_606 : Cond.code yJ6_bitCount_0f7a4 cJ6_bitCount_0f7a4 1 (some .int) ∈ po_TB := List.mem_filter.mpr ⟨List.mem_of_getElem? (i := 606) (by decide +kernel), by decide +kernel⟩
theorem wq_605 : Cond.static yJ6_bitCount_0f7a4 ∈ po_TB := List.mem_filter.mpr ⟨List.mem_of_getElem? (i := 605) (by decide +kernel), by decide +kernel⟩
theorem wq_105 : Cond.initialized RJ6 ∈ po_TB := List.mem_filter.mpr ⟨List.mem_of_getElem? (i := 105) (by decide +kernel), by decide +kernel⟩
theorem mv_J6_bitCount_0f7a4 : po_MS yJ6_bitCount_0f7a4 cJ6_bitCount_0f7a4 1 (some .int) 1 := ⟨wq_606, wq_605, wq_105, by decide +kernel⟩
theorem wq_604 : Cond.methodLink RX0 29 yJ6_bitCount_0f7a4 ∈ po_TB := List.mem_filter.mpr ⟨List.mem_of_getElem? (i := 604) (by decide +kernel), by decide +kernel⟩
theorem wn_110 : Cond.fieldLinkNest RX5 79 "PermitOffice$Lot" "area" "LPermitOffice$Area;" "PermitOffice" ∈ po_NW := List.mem_filter.mpr ⟨List.mem_of_getElem? (i := 110) (by decide +kernel), by decide +kernel⟩
theorem fl_X5_79 : po_FL RX5 79 1 2 := ⟨_, rfl, by decide, rfl, Or.inr ⟨_, wn_110⟩⟩
theorem wq_603 : Cond.code yX0_cellsIn cX0_cellsIn 4 (some .int) ∈ po_TB := List.mem_filter.mpr ⟨List.mem_of_getElem? (i := 603) (by decide +kernel), by decide +kernel⟩
theorem wq_601 : Cond.instanceMethod yX0_cellsIn ∈ po_TB := List.mem_filter.mpr ⟨List.mem_of_getElem? (i := 601) (by decide +kernel), by decide +kernel⟩
theorem mv_X0_cellsIn : po_MV yX0_cellsIn cX0_cellsIn 4 (some .int) 1 := ⟨wq_603, wq_601, wq_93, by decide +kernel⟩
theorem wq_600 : Cond.methodLink RX5 96 yX0_cellsIn ∈ po_TB := List.mem_filter.mpr ⟨List.mem_of_getElem? (i := 600) (by decide +kernel), by decide +kernel⟩
theorem wq_602 : Cond.selects RX0 yX0_cellsIn yX0_cellsIn ∈ po_TB := List.mem_filter.mpr ⟨List.mem_of_getElem? (i := 602) (by decide +kernel), by decide +kernel⟩
theorem ws_X0_cellsIn : Cond.selects yX0_cellsIn.cls yX0_cellsIn yX0_cellsIn ∈ po_TB := wq_602
theorem wq_614 : Cond.methodLink RX0 25 yX0_cellsIn ∈ po_TB := List.mem_filter.mpr ⟨List.mem_of_getElem? (i := 614) (by decide +kernel), by decide +kernel⟩
theorem wn_108 : Cond.fieldLinkNest RX3 76 "PermitOffice$Lot" "area" "LPermitOffice$Area;" "PermitOffice" ∈ po_NW := List.mem_filter.mpr ⟨List.mem_of_getElem? (i := 108) (by decide +kernel), by decide +kernel⟩
theorem fl_X3_76 : po_FL RX3 76 1 2 := ⟨_, rfl, by decide, rfl, Or.inr ⟨_, wn_108⟩⟩
theorem wq_613 : Cond.code yX0_size cX0_size 1 (some .int) ∈ po_TB := List.mem_filter.mpr ⟨List.mem_of_getElem? (i := 613) (by decide +kernel), by decide +kernel⟩
theorem wq_611 : Cond.instanceMethod yX0_size ∈ po_TB := List.mem_filter.mpr ⟨List.mem_of_getElem? (i := 611) (by decide +kernel), by decide +kernel⟩
theorem mv_X0_size : po_MV yX0_size cX0_size 1 (some .int) 0 := ⟨wq_613, wq_611, wq_93, by decide +kernel⟩
theorem wq_610 : Cond.methodLink RX3 87 yX0_size ∈ po_TB := List.mem_filter.mpr ⟨List.mem_of_getElem? (i := 610) (by decide +kernel), by decide +kernel⟩
theorem wq_612 : Cond.selects RX0 yX0_size yX0_size ∈ po_TB := List.mem_filter.mpr ⟨List.mem_of_getElem? (i := 612) (by decide +kernel), by decide +kernel⟩
theorem ws_X0_size : Cond.selects yX0_size.cls yX0_size yX0_size ∈ po_TB := wq_612
theorem wn_112 : Cond.fieldLinkNest RX3 92 "PermitOffice$Lot" "cells" "I" "PermitOffice" ∈ po_NW := List.mem_filter.mpr ⟨List.mem_of_getElem? (i := 112) (by decide +kernel), by decide +kernel⟩
theorem fl_X3_92 : po_FL RX3 92 1 3 := ⟨_, rfl, by decide, rfl, Or.inr ⟨_, wn_112⟩⟩
theorem wn_263 : Cond.fieldLinkNest RX3 52 "PermitOffice$Town" "lotCount" "I" "PermitOffice" ∈ po_NW := List.mem_filter.mpr ⟨List.mem_of_getElem? (i := 263) (by decide +kernel), by decide +kernel⟩
theorem fl_X3_52 : po_FL RX3 52 5 3 := ⟨_, rfl, by decide, rfl, Or.inr ⟨_, wn_263⟩⟩
theorem wq_618 : Cond.code yX3_readSign cX3_readSign 2 (some .boolean) ∈ po_TB := List.mem_filter.mpr ⟨List.mem_of_getElem? (i := 618) (by decide +kernel), by decide +kernel⟩
theorem wq_617 : Cond.instanceMethod yX3_readSign ∈ po_TB := List.mem_filter.mpr ⟨List.mem_of_getElem? (i := 617) (by decide +kernel), by decide +kernel⟩
theorem mv_X3_readSign : po_MV yX3_readSign cX3_readSign 2 (some .boolean) 1 := ⟨wq_618, wq_617, wq_91, by decide +kernel⟩
theorem wq_615 : Cond.methodLink RX3 95 yX3_readSign ∈ po_TB := List.mem_filter.mpr ⟨List.mem_of_getElem? (i := 615) (by decide +kernel), by decide +kernel⟩
theorem wp_9 : Cond.selects RX3 yX3_readSign yX3_readSign ∈ po_TB := List.mem_filter.mpr ⟨List.mem_of_getElem? (i := 9) (by decide +kernel), by decide +kernel⟩
theorem ws_X3_readSign : Cond.selects yX3_readSign.cls yX3_readSign yX3_readSign ∈ po_TB := wp_9
theorem wn_260 : Cond.fieldLinkNest RX3 57 "PermitOffice$Town" "lots" "[LPermitOffice$Lot;" "PermitOffice" ∈ po_NW := List.mem_filter.mpr ⟨List.mem_of_getElem? (i := 260) (by decide +kernel), by decide +kernel⟩
theorem fl_X3_57 : po_FL RX3 57 5 2 := ⟨_, rfl, by decide, rfl, Or.inr ⟨_, wn_260⟩⟩
theorem wn_99 : Cond.fieldLinkNest RX3 65 "PermitOffice$Lot" "zone" "I" "PermitOffice" ∈ po_NW := List.mem_filter.mpr ⟨List.mem_of_getElem? (i := 99) (by decide +kernel), by decide +kernel⟩
theorem fl_X3_65 : po_FL RX3 65 1 0 := ⟨_, rfl, by decide, rfl, Or.inr ⟨_, wn_99⟩⟩
theorem wq_579 : Cond.code yX3_readFront cX3_readFront 2 (some .int) ∈ po_TB := List.mem_filter.mpr ⟨List.mem_of_getElem? (i := 579) (by decide +kernel), by decide +kernel⟩
theorem wq_578 : Cond.instanceMethod yX3_readFront ∈ po_TB := List.mem_filter.mpr ⟨List.mem_of_getElem? (i := 578) (by decide +kernel), by decide +kernel⟩
theorem mv_X3_readFront : po_MV yX3_readFront cX3_readFront 2 (some .int) 0 := ⟨wq_579, wq_578, wq_91, by decide +kernel⟩
theorem wq_576 : Cond.methodLink RX3 70 yX3_readFront ∈ po_TB := List.mem_filter.mpr ⟨List.mem_of_getElem? (i := 576) (by decide +kernel), by decide +kernel⟩
theorem wp_6 : Cond.selects RX3 yX3_readFront yX3_readFront ∈ po_TB := List.mem_filter.mpr ⟨List.mem_of_getElem? (i := 6) (by decide +kernel), by decide +kernel⟩
theorem ws_X3_readFront : Cond.selects yX3_readFront.cls yX3_readFront yX3_readFront ∈ po_TB := wp_6
theorem wn_104 : Cond.fieldLinkNest RX3 73 "PermitOffice$Lot" "front" "I" "PermitOffice" ∈ po_NW := List.mem_filter.mpr ⟨List.mem_of_getElem? (i := 104) (by decide +kernel), by decide +kernel⟩
theorem fl_X3_73 : po_FL RX3 73 1 1 := ⟨_, rfl, by decide, rfl, Or.inr ⟨_, wn_104⟩⟩
theorem wq_583 : Cond.code yX3_readArea cX3_readArea 3 (some .boolean) ∈ po_TB := List.mem_filter.mpr ⟨List.mem_of_getElem? (i := 583) (by decide +kernel), by decide +kernel⟩
theorem wq_582 : Cond.instanceMethod yX3_readArea ∈ po_TB := List.mem_filter.mpr ⟨List.mem_of_getElem? (i := 582) (by decide +kernel), by decide +kernel⟩
theorem mv_X3_readArea : po_MV yX3_readArea cX3_readArea 3 (some .boolean) 1 := ⟨wq_583, wq_582, wq_91, by decide +kernel⟩
theorem wq_580 : Cond.methodLink RX3 80 yX3_readArea ∈ po_TB := List.mem_filter.mpr ⟨List.mem_of_getElem? (i := 580) (by decide +kernel), by decide +kernel⟩
theorem wp_7 : Cond.selects RX3 yX3_readArea yX3_readArea ∈ po_TB := List.mem_filter.mpr ⟨List.mem_of_getElem? (i := 7) (by decide +kernel), by decide +kernel⟩
theorem ws_X3_readArea : Cond.selects yX3_readArea.cls yX3_readArea yX3_readArea ∈ po_TB := wp_7
theorem wq_599 : Cond.code yX5_hasLotCellIn cX5_hasLotCellIn 3 (some .boolean) ∈ po_TB := List.mem_filter.mpr ⟨List.mem_of_getElem? (i := 599) (by decide +kernel), by decide +kernel⟩
theorem wq_597 : Cond.instanceMethod yX5_hasLotCellIn ∈ po_TB := List.mem_filter.mpr ⟨List.mem_of_getElem? (i := 597) (by decide +kernel), by decide +kernel⟩
theorem wq_94 : Cond.initialized RX5 ∈ po_TB := List.mem_filter.mpr ⟨List.mem_of_getElem? (i := 94) (by decide +kernel), by decide +kernel⟩
theorem mv_X5_hasLotCellIn : po_MV yX5_hasLotCellIn cX5_hasLotCellIn 3 (some .boolean) 1 := ⟨wq_599, wq_597, wq_94, by decide +kernel⟩
theorem wq_596 : Cond.methodLink RX3 84 yX5_hasLotCellIn ∈ po_TB := List.mem_filter.mpr ⟨List.mem_of_getElem? (i := 596) (by decide +kernel), by decide +kernel⟩
theorem wq_598 : Cond.selects RX5 yX5_hasLotCellIn yX5_hasLotCellIn ∈ po_TB := List.mem_filter.mpr ⟨List.mem_of_getElem? (i := 598) (by decide +kernel), by decide +kernel⟩
theorem ws_X5_hasLotCellIn : Cond.selects yX5_hasLotCellIn.cls yX5_hasLotCellIn yX5_hasLotCellIn ∈ po_TB := wq_598
theorem wq_627 : Cond.methodLink RX2 38 yX0_clear ∈ po_TB := List.mem_filter.mpr ⟨List.mem_of_getElem? (i := 627) (by decide +kernel), by decide +kernel⟩
theorem wq_635 : Cond.code yX2_floorArea cX2_floorArea 1 (some .int) ∈ po_TB := List.mem_filter.mpr ⟨List.mem_of_getElem? (i := 635) (by decide +kernel), by decide +kernel⟩
theorem wq_633 : Cond.instanceMethod yX2_floorArea ∈ po_TB := List.mem_filter.mpr ⟨List.mem_of_getElem? (i := 633) (by decide +kernel), by decide +kernel⟩
theorem mv_X2_floorArea : po_MV yX2_floorArea cX2_floorArea 1 (some .int) 0 := ⟨wq_635, wq_633, wq_96, by decide +kernel⟩
theorem wq_632 : Cond.methodLink RX2 88 yX2_floorArea ∈ po_TB := List.mem_filter.mpr ⟨List.mem_of_getElem? (i := 632) (by decide +kernel), by decide +kernel⟩
theorem wq_634 : Cond.selects RX2 yX2_floorArea yX2_floorArea ∈ po_TB := List.mem_filter.mpr ⟨List.mem_of_getElem? (i := 634) (by decide +kernel), by decide +kernel⟩
theorem ws_X2_floorArea : Cond.selects yX2_floorArea.cls yX2_floorArea yX2_floorArea ∈ po_TB := wq_634
theorem wn_269 : Cond.fieldLinkNest RX3 99 "PermitOffice$Town" "permitCount" "I" "PermitOffice" ∈ po_NW := List.mem_filter.mpr ⟨List.mem_of_getElem? (i := 269) (by decide +kernel), by decide +kernel⟩
theorem fl_X3_99 : po_FL RX3 99 5 5 := ⟨_, rfl, by decide, rfl, Or.inr ⟨_, wn_269⟩⟩
theorem wn_266 : Cond.fieldLinkNest RX3 102 "PermitOffice$Town" "permits" "[LPermitOffice$Permit;" "PermitOffice" ∈ po_NW := List.mem_filter.mpr ⟨List.mem_of_getElem? (i := 266) (by decide +kernel), by decide +kernel⟩
theorem fl_X3_102 : po_FL RX3 102 5 4 := ⟨_, rfl, by decide, rfl, Or.inr ⟨_, wn_266⟩⟩
theorem wq_626 : Cond.code yX2_clear cX2_clear 1 none ∈ po_TB := List.mem_filter.mpr ⟨List.mem_of_getElem? (i := 626) (by decide +kernel), by decide +kernel⟩
theorem wq_624 : Cond.instanceMethod yX2_clear ∈ po_TB := List.mem_filter.mpr ⟨List.mem_of_getElem? (i := 624) (by decide +kernel), by decide +kernel⟩
theorem mv_X2_clear : po_MV yX2_clear cX2_clear 1 none 0 := ⟨wq_626, wq_624, wq_96, by decide +kernel⟩
theorem wq_623 : Cond.methodLink RX3 106 yX2_clear ∈ po_TB := List.mem_filter.mpr ⟨List.mem_of_getElem? (i := 623) (by decide +kernel), by decide +kernel⟩
theorem wq_625 : Cond.selects RX2 yX2_clear yX2_clear ∈ po_TB := List.mem_filter.mpr ⟨List.mem_of_getElem? (i := 625) (by decide +kernel), by decide +kernel⟩
theorem ws_X2_clear : Cond.selects yX2_clear.cls yX2_clear yX2_clear ∈ po_TB := wq_625
theorem wn_134 : Cond.fieldLinkNest RX3 111 "PermitOffice$Permit" "lot" "I" "PermitOffice" ∈ po_NW := List.mem_filter.mpr ⟨List.mem_of_getElem? (i := 134) (by decide +kernel), by decide +kernel⟩
theorem fl_X3_111 : po_FL RX3 111 2 0 := ⟨_, rfl, by decide, rfl, Or.inr ⟨_, wn_134⟩⟩
theorem wn_139 : Cond.fieldLinkNest RX3 114 "PermitOffice$Permit" "use" "I" "PermitOffice" ∈ po_NW := List.mem_filter.mpr ⟨List.mem_of_getElem? (i := 139) (by decide +kernel), by decide +kernel⟩
theorem fl_X3_114 : po_FL RX3 114 2 1 := ⟨_, rfl, by decide, rfl, Or.inr ⟨_, wn_139⟩⟩
theorem wn_143 : Cond.fieldLinkNest RX3 117 "PermitOffice$Permit" "floors" "I" "PermitOffice" ∈ po_NW := List.mem_filter.mpr ⟨List.mem_of_getElem? (i := 143) (by decide +kernel), by decide +kernel⟩
theorem fl_X3_117 : po_FL RX3 117 2 2 := ⟨_, rfl, by decide, rfl, Or.inr ⟨_, wn_143⟩⟩
theorem wn_147 : Cond.fieldLinkNest RX3 120 "PermitOffice$Permit" "parking" "I" "PermitOffice" ∈ po_NW := List.mem_filter.mpr ⟨List.mem_of_getElem? (i := 147) (by decide +kernel), by decide +kernel⟩
theorem fl_X3_120 : po_FL RX3 120 2 3 := ⟨_, rfl, by decide, rfl, Or.inr ⟨_, wn_147⟩⟩
theorem wn_151 : Cond.fieldLinkNest RX3 123 "PermitOffice$Permit" "building" "LPermitOffice$Area;" "PermitOffice" ∈ po_NW := List.mem_filter.mpr ⟨List.mem_of_getElem? (i := 151) (by decide +kernel), by decide +kernel⟩
theorem fl_X3_123 : po_FL RX3 123 2 4 := ⟨_, rfl, by decide, rfl, Or.inr ⟨_, wn_151⟩⟩
theorem wn_154 : Cond.fieldLinkNest RX3 126 "PermitOffice$Permit" "cells" "I" "PermitOffice" ∈ po_NW := List.mem_filter.mpr ⟨List.mem_of_getElem? (i := 154) (by decide +kernel), by decide +kernel⟩
theorem fl_X3_126 : po_FL RX3 126 2 5 := ⟨_, rfl, by decide, rfl, Or.inr ⟨_, wn_154⟩⟩
theorem wq_631 : Cond.code yX2_applyFee cX2_applyFee 1 (some .int) ∈ po_TB := List.mem_filter.mpr ⟨List.mem_of_getElem? (i := 631) (by decide +kernel), by decide +kernel⟩
theorem wq_629 : Cond.instanceMethod yX2_applyFee ∈ po_TB := List.mem_filter.mpr ⟨List.mem_of_getElem? (i := 629) (by decide +kernel), by decide +kernel⟩
theorem mv_X2_applyFee : po_MV yX2_applyFee cX2_applyFee 1 (some .int) 0 := ⟨wq_631, wq_629, wq_96, by decide +kernel⟩
theorem wq_628 : Cond.methodLink RX3 127 yX2_applyFee ∈ po_TB := List.mem_filter.mpr ⟨List.mem_of_getElem? (i := 628) (by decide +kernel), by decide +kernel⟩
theorem wq_630 : Cond.selects RX2 yX2_applyFee yX2_applyFee ∈ po_TB := List.mem_filter.mpr ⟨List.mem_of_getElem? (i := 630) (by decide +kernel), by decide +kernel⟩
theorem ws_X2_applyFee : Cond.selects yX2_applyFee.cls yX2_applyFee yX2_applyFee ∈ po_TB := wq_630
theorem wn_173 : Cond.fieldLinkNest RX3 130 "PermitOffice$Permit" "paid" "I" "PermitOffice" ∈ po_NW := List.mem_filter.mpr ⟨List.mem_of_getElem? (i := 173) (by decide +kernel), by decide +kernel⟩
theorem fl_X3_130 : po_FL RX3 130 2 13 := ⟨_, rfl, by decide, rfl, Or.inr ⟨_, wn_173⟩⟩
theorem wn_276 : Cond.fieldLinkNest RX3 133 "PermitOffice$Town" "varianceCount" "I" "PermitOffice" ∈ po_NW := List.mem_filter.mpr ⟨List.mem_of_getElem? (i := 276) (by decide +kernel), by decide +kernel⟩
theorem fl_X3_133 : po_FL RX3 133 5 7 := ⟨_, rfl, by decide, rfl, Or.inr ⟨_, wn_276⟩⟩
theorem wn_272 : Cond.fieldLinkNest RX3 136 "PermitOffice$Town" "variances" "[LPermitOffice$Variance;" "PermitOffice" ∈ po_NW := List.mem_filter.mpr ⟨List.mem_of_getElem? (i := 272) (by decide +kernel), by decide +kernel⟩
theorem fl_X3_136 : po_FL RX3 136 5 6 := ⟨_, rfl, by decide, rfl, Or.inr ⟨_, wn_272⟩⟩
theorem wn_231 : Cond.fieldLinkNest RX3 140 "PermitOffice$Variance" "lot" "I" "PermitOffice" ∈ po_NW := List.mem_filter.mpr ⟨List.mem_of_getElem? (i := 231) (by decide +kernel), by decide +kernel⟩
theorem fl_X3_140 : po_FL RX3 140 6 0 := ⟨_, rfl, by decide, rfl, Or.inr ⟨_, wn_231⟩⟩
theorem wn_235 : Cond.fieldLinkNest RX3 143 "PermitOffice$Variance" "kind" "I" "PermitOffice" ∈ po_NW := List.mem_filter.mpr ⟨List.mem_of_getElem? (i := 235) (by decide +kernel), by decide +kernel⟩
theorem fl_X3_143 : po_FL RX3 143 6 1 := ⟨_, rfl, by decide, rfl, Or.inr ⟨_, wn_235⟩⟩
theorem wq_643 : Cond.code yX3_readNumber cX3_readNumber 5 (some .int) ∈ po_TB := List.mem_filter.mpr ⟨List.mem_of_getElem? (i := 643) (by decide +kernel), by decide +kernel⟩
theorem wq_642 : Cond.instanceMethod yX3_readNumber ∈ po_TB := List.mem_filter.mpr ⟨List.mem_of_getElem? (i := 642) (by decide +kernel), by decide +kernel⟩
theorem mv_X3_readNumber : po_MV yX3_readNumber cX3_readNumber 5 (some .int) 2 := ⟨wq_643, wq_642, wq_91, by decide +kernel⟩
theorem wq_640 : Cond.methodLink RX3 146 yX3_readNumber ∈ po_TB := List.mem_filter.mpr ⟨List.mem_of_getElem? (i := 640) (by decide +kernel), by decide +kernel⟩
theorem wp_12 : Cond.selects RX3 yX3_readNumber yX3_readNumber ∈ po_TB := List.mem_filter.mpr ⟨List.mem_of_getElem? (i := 12) (by decide +kernel), by decide +kernel⟩
theorem ws_X3_readNumber : Cond.selects yX3_readNumber.cls yX3_readNumber yX3_readNumber ∈ po_TB := wp_12
theorem wn_239 : Cond.fieldLinkNest RX3 150 "PermitOffice$Variance" "amount" "I" "PermitOffice" ∈ po_NW := List.mem_filter.mpr ⟨List.mem_of_getElem? (i := 239) (by decide +kernel), by decide +kernel⟩
theorem fl_X3_150 : po_FL RX3 150 6 2 := ⟨_, rfl, by decide, rfl, Or.inr ⟨_, wn_239⟩⟩
theorem wn_255 : Cond.fieldLinkNest RX3 153 "PermitOffice$Town" "day" "I" "PermitOffice" ∈ po_NW := List.mem_filter.mpr ⟨List.mem_of_getElem? (i := 255) (by decide +kernel), by decide +kernel⟩
theorem fl_X3_153 : po_FL RX3 153 5 0 := ⟨_, rfl, by decide, rfl, Or.inr ⟨_, wn_255⟩⟩
theorem wn_243 : Cond.fieldLinkNest RX3 156 "PermitOffice$Variance" "lastDay" "I" "PermitOffice" ∈ po_NW := List.mem_filter.mpr ⟨List.mem_of_getElem? (i := 243) (by decide +kernel), by decide +kernel⟩
theorem fl_X3_156 : po_FL RX3 156 6 3 := ⟨_, rfl, by decide, rfl, Or.inr ⟨_, wn_243⟩⟩
theorem wn_178 : Cond.fieldLinkNest RX3 159 "PermitOffice$Permit" "conditions" "I" "PermitOffice" ∈ po_NW := List.mem_filter.mpr ⟨List.mem_of_getElem? (i := 178) (by decide +kernel), by decide +kernel⟩
theorem fl_X3_159 : po_FL RX3 159 2 15 := ⟨_, rfl, by decide, rfl, Or.inr ⟨_, wn_178⟩⟩
theorem wq_651 : Cond.code yX2_addCondition cX2_addCondition 3 none ∈ po_TB := List.mem_filter.mpr ⟨List.mem_of_getElem? (i := 651) (by decide +kernel), by decide +kernel⟩
theorem wq_649 : Cond.instanceMethod yX2_addCondition ∈ po_TB := List.mem_filter.mpr ⟨List.mem_of_getElem? (i := 649) (by decide +kernel), by decide +kernel⟩
theorem mv_X2_addCondition : po_MV yX2_addCondition cX2_addCondition 3 none 2 := ⟨wq_651, wq_649, wq_96, by decide +kernel⟩
theorem wq_648 : Cond.methodLink RX3 162 yX2_addCondition ∈ po_TB := List.mem_filter.mpr ⟨List.mem_of_getElem? (i := 648) (by decide +kernel), by decide +kernel⟩
theorem wq_650 : Cond.selects RX2 yX2_addCondition yX2_addCondition ∈ po_TB := List.mem_filter.mpr ⟨List.mem_of_getElem? (i := 650) (by decide +kernel), by decide +kernel⟩
theorem ws_X2_addCondition : Cond.selects yX2_addCondition.cls yX2_addCondition yX2_addCondition ∈ po_TB := wq_650
theorem wn_567 : Cond.fieldLinkNest RX3 166 "PermitOffice" "LEAST_RULES" "[I" "PermitOffice" ∈ po_NW := List.mem_filter.mpr ⟨List.mem_of_getElem? (i := 567) (by decide +kernel), by decide +kernel⟩
theorem wn_569 : Cond.fieldLinkNest RX3 170 "PermitOffice" "GREATEST_RULES" "[I" "PermitOffice" ∈ po_NW := List.mem_filter.mpr ⟨List.mem_of_getElem? (i := 569) (by decide +kernel), by decide +kernel⟩
theorem wq_663 : Cond.code yX5_setRule cX5_setRule 5 none ∈ po_TB := List.mem_filter.mpr ⟨List.mem_of_getElem? (i := 663) (by decide +kernel), by decide +kernel⟩
theorem wq_661 : Cond.instanceMethod yX5_setRule ∈ po_TB := List.mem_filter.mpr ⟨List.mem_of_getElem? (i := 661) (by decide +kernel), by decide +kernel⟩
theorem mv_X5_setRule : po_MV yX5_setRule cX5_setRule 5 none 3 := ⟨wq_663, wq_661, wq_94, by decide +kernel⟩
theorem wq_660 : Cond.methodLink RX3 173 yX5_setRule ∈ po_TB := List.mem_filter.mpr ⟨List.mem_of_getElem? (i := 660) (by decide +kernel), by decide +kernel⟩
theorem wq_662 : Cond.selects RX5 yX5_setRule yX5_setRule ∈ po_TB := List.mem_filter.mpr ⟨List.mem_of_getElem? (i := 662) (by decide +kernel), by decide +kernel⟩
theorem ws_X5_setRule : Cond.selects yX5_setRule.cls yX5_setRule yX5_setRule ∈ po_TB := wq_662
theorem wq_647 : Cond.code yX3_readCondition cX3_readCondition 6 (some .boolean) ∈ po_TB := List.mem_filter.mpr ⟨List.mem_of_getElem? (i := 647) (by decide +kernel), by decide +kernel⟩
theorem wq_646 : Cond.instanceMethod yX3_readCondition ∈ po_TB := List.mem_filter.mpr ⟨List.mem_of_getElem? (i := 646) (by decide +kernel), by decide +kernel⟩
theorem mv_X3_readCondition : po_MV yX3_readCondition cX3_readCondition 6 (some .boolean) 1 := ⟨wq_647, wq_646, wq_91, by decide +kernel⟩
theorem wq_644 : Cond.methodLink RX3 42 yX3_readCondition ∈ po_TB := List.mem_filter.mpr ⟨List.mem_of_getElem? (i := 644) (by decide +kernel), by decide +kernel⟩
theorem wp_13 : Cond.selects RX3 yX3_readCondition yX3_readCondition ∈ po_TB := List.mem_filter.mpr ⟨List.mem_of_getElem? (i := 13) (by decide +kernel), by decide +kernel⟩
theorem ws_X3_readCondition : Cond.selects yX3_readCondition.cls yX3_readCondition yX3_readCondition ∈ po_TB := wp_13
theorem wq_567 : Cond.code yX3_readLot cX3_readLot 3 (some .boolean) ∈ po_TB := List.mem_filter.mpr ⟨List.mem_of_getElem? (i := 567) (by decide +kernel), by decide +kernel⟩
theorem wq_566 : Cond.instanceMethod yX3_readLot ∈ po_TB := List.mem_filter.mpr ⟨List.mem_of_getElem? (i := 566) (by decide +kernel), by decide +kernel⟩
theorem mv_X3_readLot : po_MV yX3_readLot cX3_readLot 3 (some .boolean) 1 := ⟨wq_567, wq_566, wq_91, by decide +kernel⟩
theorem wq_564 : Cond.methodLink RX3 33 yX3_readLot ∈ po_TB := List.mem_filter.mpr ⟨List.mem_of_getElem? (i := 564) (by decide +kernel), by decide +kernel⟩
theorem wp_3 : Cond.selects RX3 yX3_readLot yX3_readLot ∈ po_TB := List.mem_filter.mpr ⟨List.mem_of_getElem? (i := 3) (by decide +kernel), by decide +kernel⟩
theorem ws_X3_readLot : Cond.selects yX3_readLot.cls yX3_readLot yX3_readLot ∈ po_TB := wp_3
theorem wq_622 : Cond.code yX3_readPermit cX3_readPermit 3 (some .boolean) ∈ po_TB := List.mem_filter.mpr ⟨List.mem_of_getElem? (i := 622) (by decide +kernel), by decide +kernel⟩
theorem wq_621 : Cond.instanceMethod yX3_readPermit ∈ po_TB := List.mem_filter.mpr ⟨List.mem_of_getElem? (i := 621) (by decide +kernel), by decide +kernel⟩
theorem mv_X3_readPermit : po_MV yX3_readPermit cX3_readPermit 3 (some .boolean) 1 := ⟨wq_622, wq_621, wq_91, by decide +kernel⟩
theorem wq_619 : Cond.methodLink RX3 36 yX3_readPermit ∈ po_TB := List.mem_filter.mpr ⟨List.mem_of_getElem? (i := 619) (by decide +kernel), by decide +kernel⟩
theorem wp_10 : Cond.selects RX3 yX3_readPermit yX3_readPermit ∈ po_TB := List.mem_filter.mpr ⟨List.mem_of_getElem? (i := 10) (by decide +kernel), by decide +kernel⟩
theorem ws_X3_readPermit : Cond.selects yX3_readPermit.cls yX3_readPermit yX3_readPermit ∈ po_TB := wp_10
theorem wq_639 : Cond.code yX3_readVariance cX3_readVariance 4 (some .boolean) ∈ po_TB := List.mem_filter.mpr ⟨List.mem_of_getElem? (i := 639) (by decide +kernel), by decide +kernel⟩
theorem wq_638 : Cond.instanceMethod yX3_readVariance ∈ po_TB := List.mem_filter.mpr ⟨List.mem_of_getElem? (i := 638) (by decide +kernel), by decide +kernel⟩
theorem mv_X3_readVariance : po_MV yX3_readVariance cX3_readVariance 4 (some .boolean) 1 := ⟨wq_639, wq_638, wq_91, by decide +kernel⟩
theorem wq_636 : Cond.methodLink RX3 39 yX3_readVariance ∈ po_TB := List.mem_filter.mpr ⟨List.mem_of_getElem? (i := 636) (by decide +kernel), by decide +kernel⟩
theorem wp_11 : Cond.selects RX3 yX3_readVariance yX3_readVariance ∈ po_TB := List.mem_filter.mpr ⟨List.mem_of_getElem? (i := 11) (by decide +kernel), by decide +kernel⟩
theorem ws_X3_readVariance : Cond.selects yX3_readVariance.cls yX3_readVariance yX3_readVariance ∈ po_TB := wp_11
theorem wq_655 : Cond.code yX3_readRule cX3_readRule 5 (some .boolean) ∈ po_TB := List.mem_filter.mpr ⟨List.mem_of_getElem? (i := 655) (by decide +kernel), by decide +kernel⟩
theorem wq_654 : Cond.instanceMethod yX3_readRule ∈ po_TB := List.mem_filter.mpr ⟨List.mem_of_getElem? (i := 654) (by decide +kernel), by decide +kernel⟩
theorem mv_X3_readRule : po_MV yX3_readRule cX3_readRule 5 (some .boolean) 1 := ⟨wq_655, wq_654, wq_91, by decide +kernel⟩
theorem wq_652 : Cond.methodLink RX3 45 yX3_readRule ∈ po_TB := List.mem_filter.mpr ⟨List.mem_of_getElem? (i := 652) (by decide +kernel), by decide +kernel⟩
theorem wp_14 : Cond.selects RX3 yX3_readRule yX3_readRule ∈ po_TB := List.mem_filter.mpr ⟨List.mem_of_getElem? (i := 14) (by decide +kernel), by decide +kernel⟩
theorem ws_X3_readRule : Cond.selects yX3_readRule.cls yX3_readRule yX3_readRule ∈ po_TB := wp_14
theorem wq_559 : Cond.code yX3_readCommand cX3_readCommand 2 (some .boolean) ∈ po_TB := List.mem_filter.mpr ⟨List.mem_of_getElem? (i := 559) (by decide +kernel), by decide +kernel⟩
theorem wq_558 : Cond.instanceMethod yX3_readCommand ∈ po_TB := List.mem_filter.mpr ⟨List.mem_of_getElem? (i := 558) (by decide +kernel), by decide +kernel⟩
theorem mv_X3_readCommand : po_MV yX3_readCommand cX3_readCommand 2 (some .boolean) 1 := ⟨wq_559, wq_558, wq_91, by decide +kernel⟩
theorem wq_556 : Cond.methodLink RX3 25 yX3_readCommand ∈ po_TB := List.mem_filter.mpr ⟨List.mem_of_getElem? (i := 556) (by decide +kernel), by decide +kernel⟩
theorem wp_1 : Cond.selects RX3 yX3_readCommand yX3_readCommand ∈ po_TB := List.mem_filter.mpr ⟨List.mem_of_getElem? (i := 1) (by decide +kernel), by decide +kernel⟩
theorem ws_X3_readCommand : Cond.selects yX3_readCommand.cls yX3_readCommand yX3_readCommand ∈ po_TB := wp_1
theorem wq_392 : Cond.fieldLink RX7 40 "PermitOffice" "past" "[LPermitOffice$Town;" ∈ po_TB := List.mem_filter.mpr ⟨List.mem_of_getElem? (i := 392) (by decide +kernel), by decide +kernel⟩
theorem fl_X7_40 : po_FL RX7 40 7 6 := ⟨_, rfl, by decide, rfl, Or.inl wq_392⟩
theorem wq_393 : Cond.fieldLink RX7 44 "PermitOffice" "undoable" "I" ∈ po_TB := List.mem_filter.mpr ⟨List.mem_of_getElem? (i := 393) (by decide +kernel), by decide +kernel⟩
theorem fl_X7_44 : po_FL RX7 44 7 7 := ⟨_, rfl, by decide, rfl, Or.inl wq_393⟩
theorem wq_388 : Cond.fieldLink RX7 26 "PermitOffice" "now" "LPermitOffice$Town;" ∈ po_TB := List.mem_filter.mpr ⟨List.mem_of_getElem? (i := 388) (by decide +kernel), by decide +kernel⟩
theorem fl_X7_26 : po_FL RX7 26 7 2 := ⟨_, rfl, by decide, rfl, Or.inl wq_388⟩
theorem wq_422 : Cond.code yX5_copyFrom cX5_copyFrom 3 none ∈ po_TB := List.mem_filter.mpr ⟨List.mem_of_getElem? (i := 422) (by decide +kernel), by decide +kernel⟩
theorem wq_420 : Cond.instanceMethod yX5_copyFrom ∈ po_TB := List.mem_filter.mpr ⟨List.mem_of_getElem? (i := 420) (by decide +kernel), by decide +kernel⟩
theorem mv_X5_copyFrom : po_MV yX5_copyFrom cX5_copyFrom 3 none 1 := ⟨wq_422, wq_420, wq_94, by decide +kernel⟩
theorem wq_419 : Cond.methodLink RX7 67 yX5_copyFrom ∈ po_TB := List.mem_filter.mpr ⟨List.mem_of_getElem? (i := 419) (by decide +kernel), by decide +kernel⟩
theorem wq_421 : Cond.selects RX5 yX5_copyFrom yX5_copyFrom ∈ po_TB := List.mem_filter.mpr ⟨List.mem_of_getElem? (i := 421) (by decide +kernel), by decide +kernel⟩
theorem ws_X5_copyFrom : Cond.selects yX5_copyFrom.cls yX5_copyFrom yX5_copyFrom ∈ po_TB := wq_421
theorem wq_389 : Cond.fieldLink RX7 30 "PermitOffice" "draft" "LPermitOffice$Town;" ∈ po_TB := List.mem_filter.mpr ⟨List.mem_of_getElem? (i := 389) (by decide +kernel), by decide +kernel⟩
theorem fl_X7_30 : po_FL RX7 30 7 3 := ⟨_, rfl, by decide, rfl, Or.inl wq_389⟩
theorem wq_555 : Cond.code yX3_readInto cX3_readInto 4 (some .int) ∈ po_TB := List.mem_filter.mpr ⟨List.mem_of_getElem? (i := 555) (by decide +kernel), by decide +kernel⟩
theorem wq_553 : Cond.instanceMethod yX3_readInto ∈ po_TB := List.mem_filter.mpr ⟨List.mem_of_getElem? (i := 553) (by decide +kernel), by decide +kernel⟩
theorem mv_X3_readInto : po_MV yX3_readInto cX3_readInto 4 (some .int) 1 := ⟨wq_555, wq_553, wq_91, by decide +kernel⟩
theorem wq_552 : Cond.methodLink RX7 71 yX3_readInto ∈ po_TB := List.mem_filter.mpr ⟨List.mem_of_getElem? (i := 552) (by decide +kernel), by decide +kernel⟩
theorem wq_554 : Cond.selects RX3 yX3_readInto yX3_readInto ∈ po_TB := List.mem_filter.mpr ⟨List.mem_of_getElem? (i := 554) (by decide +kernel), by decide +kernel⟩
theorem ws_X3_readInto : Cond.selects yX3_readInto.cls yX3_readInto yX3_readInto ∈ po_TB := wq_554
theorem wq_668 : Cond.code yX7_remember cX7_remember 3 none ∈ po_TB := List.mem_filter.mpr ⟨List.mem_of_getElem? (i := 668) (by decide +kernel), by decide +kernel⟩
theorem wq_667 : Cond.instanceMethod yX7_remember ∈ po_TB := List.mem_filter.mpr ⟨List.mem_of_getElem? (i := 667) (by decide +kernel), by decide +kernel⟩
theorem wq_90 : Cond.initialized RX7 ∈ po_TB := List.mem_filter.mpr ⟨List.mem_of_getElem? (i := 90) (by decide +kernel), by decide +kernel⟩
theorem mv_X7_remember : po_MV yX7_remember cX7_remember 3 none 0 := ⟨wq_668, wq_667, wq_90, by decide +kernel⟩
theorem wq_665 : Cond.methodLink RX7 77 yX7_remember ∈ po_TB := List.mem_filter.mpr ⟨List.mem_of_getElem? (i := 665) (by decide +kernel), by decide +kernel⟩
theorem wp_15 : Cond.selects RX7 yX7_remember yX7_remember ∈ po_TB := List.mem_filter.mpr ⟨List.mem_of_getElem? (i := 15) (by decide +kernel), by decide +kernel⟩
theorem ws_X7_remember : Cond.selects yX7_remember.cls yX7_remember yX7_remember ∈ po_TB := wp_15
theorem tw_X7_75_52 : po_TW RX7 "java/lang/IllegalArgumentException" "an error in the text" ["java/lang/RuntimeException", "java/lang/Exception"] 48 75 52 := ⟨by decide +kernel, by decide +kernel, wq_454, wq_102, List.mem_of_getElem? (i := 2) (by decide +kernel), ta_X7_52.1, fun w hw => by
  rcases List.mem_cons.mp hw with rfl | hw
  · decide +kernel
  · rcases List.mem_cons.mp hw with rfl | hw
    · decide +kernel
    · exact ta_X7_52.2 w hw⟩
theorem wn_42 : Cond.fieldLinkNest RX7 80 "PermitOffice$Reader" "error" "I" "PermitOffice" ∈ po_NW := List.mem_filter.mpr ⟨List.mem_of_getElem? (i := 42) (by decide +kernel), by decide +kernel⟩
theorem fl_X7_80 : po_FL RX7 80 3 3 := ⟨_, rfl, by decide, rfl, Or.inr ⟨_, wn_42⟩⟩
theorem wq_700 : Cond.classLink RX7 83 "java/lang/IndexOutOfBoundsException" ∈ po_TB := List.mem_filter.mpr ⟨List.mem_of_getElem? (i := 700) (by decide +kernel), by decide +kernel⟩
theorem wq_107 : Cond.initialized "java/lang/IndexOutOfBoundsException" ∈ po_TB := List.mem_filter.mpr ⟨List.mem_of_getElem? (i := 107) (by decide +kernel), by decide +kernel⟩
set_option maxRecDepth 20000 in
theorem ta_X7_87 : (∀ w ∈ vx_atS RX7 87 "java/lang/IndexOutOfBoundsException" ["java/lang/RuntimeException", "java/lang/Exception"], w ∈ po_TB ∨ w ∈ po_NW) ∧ (∀ w ∈ vx_atS RX7 87 "java/lang/IndexOutOfBoundsException" ["java/lang/RuntimeException", "java/lang/Exception"], vx_ot w = true) := by decide +kernel
theorem tw_X7_85_87 : po_TW RX7 "java/lang/IndexOutOfBoundsException" "no such zone" ["java/lang/RuntimeException", "java/lang/Exception"] 83 85 87 := ⟨by decide +kernel, by decide +kernel, wq_700, wq_107, List.mem_of_getElem? (i := 3) (by decide +kernel), ta_X7_87.1, fun w hw => by
  rcases List.mem_cons.mp hw with rfl | hw
  · decide +kernel
  · rcases List.mem_cons.mp hw with rfl | hw
    · decide +kernel
    · exact ta_X7_87.2 w hw⟩
theorem tw_X7_88_52 : po_TW RX7 "java/lang/IllegalArgumentException" "no such rule" ["java/lang/RuntimeException", "java/lang/Exception"] 48 88 52 := ⟨by decide +kernel, by decide +kernel, wq_454, wq_102, List.mem_of_getElem? (i := 4) (by decide +kernel), ta_X7_52.1, fun w hw => by
  rcases List.mem_cons.mp hw with rfl | hw
  · decide +kernel
  · rcases List.mem_cons.mp hw with rfl | hw
    · decide +kernel
    · exact ta_X7_52.2 w hw⟩
theorem wq_717 : Cond.code yX5_ruleOf cX5_ruleOf 4 (some .int) ∈ po_TB := List.mem_filter.mpr ⟨List.mem_of_getElem? (i := 717) (by decide +kernel), by decide +kernel⟩
theorem wq_715 : Cond.instanceMethod yX5_ruleOf ∈ po_TB := List.mem_filter.mpr ⟨List.mem_of_getElem? (i := 715) (by decide +kernel), by decide +kernel⟩
theorem mv_X5_ruleOf : po_MV yX5_ruleOf cX5_ruleOf 4 (some .int) 2 := ⟨wq_717, wq_715, wq_94, by decide +kernel⟩
theorem wq_714 : Cond.methodLink RX7 90 yX5_ruleOf ∈ po_TB := List.mem_filter.mpr ⟨List.mem_of_getElem? (i := 714) (by decide +kernel), by decide +kernel⟩
theorem wq_716 : Cond.selects RX5 yX5_ruleOf yX5_ruleOf ∈ po_TB := List.mem_filter.mpr ⟨List.mem_of_getElem? (i := 716) (by decide +kernel), by decide +kernel⟩
theorem ws_X5_ruleOf : Cond.selects yX5_ruleOf.cls yX5_ruleOf yX5_ruleOf ∈ po_TB := wq_716
theorem tw_X7_375_87 : po_TW RX7 "java/lang/IndexOutOfBoundsException" "no such lot" ["java/lang/RuntimeException", "java/lang/Exception"] 83 375 87 := ⟨by decide +kernel, by decide +kernel, wq_700, wq_107, List.mem_of_getElem? (i := 5) (by decide +kernel), ta_X7_87.1, fun w hw => by
  rcases List.mem_cons.mp hw with rfl | hw
  · decide +kernel
  · rcases List.mem_cons.mp hw with rfl | hw
    · decide +kernel
    · exact ta_X7_87.2 w hw⟩
theorem wn_264 : Cond.fieldLinkNest RX7 360 "PermitOffice$Town" "lotCount" "I" "PermitOffice" ∈ po_NW := List.mem_filter.mpr ⟨List.mem_of_getElem? (i := 264) (by decide +kernel), by decide +kernel⟩
theorem fl_X7_360 : po_FL RX7 360 5 3 := ⟨_, rfl, by decide, rfl, Or.inr ⟨_, wn_264⟩⟩
theorem wn_261 : Cond.fieldLinkNest RX7 377 "PermitOffice$Town" "lots" "[LPermitOffice$Lot;" "PermitOffice" ∈ po_NW := List.mem_filter.mpr ⟨List.mem_of_getElem? (i := 261) (by decide +kernel), by decide +kernel⟩
theorem fl_X7_377 : po_FL RX7 377 5 2 := ⟨_, rfl, by decide, rfl, Or.inr ⟨_, wn_261⟩⟩
theorem wn_136 : Cond.fieldLinkNest RX5 103 "PermitOffice$Permit" "lot" "I" "PermitOffice" ∈ po_NW := List.mem_filter.mpr ⟨List.mem_of_getElem? (i := 136) (by decide +kernel), by decide +kernel⟩
theorem fl_X5_103 : po_FL RX5 103 2 0 := ⟨_, rfl, by decide, rfl, Or.inr ⟨_, wn_136⟩⟩
theorem wq_745 : Cond.code yX2_stands cX2_stands 1 (some .boolean) ∈ po_TB := List.mem_filter.mpr ⟨List.mem_of_getElem? (i := 745) (by decide +kernel), by decide +kernel⟩
theorem wq_743 : Cond.instanceMethod yX2_stands ∈ po_TB := List.mem_filter.mpr ⟨List.mem_of_getElem? (i := 743) (by decide +kernel), by decide +kernel⟩
theorem mv_X2_stands : po_MV yX2_stands cX2_stands 1 (some .boolean) 0 := ⟨wq_745, wq_743, wq_96, by decide +kernel⟩
theorem wq_742 : Cond.methodLink RX5 89 yX2_stands ∈ po_TB := List.mem_filter.mpr ⟨List.mem_of_getElem? (i := 742) (by decide +kernel), by decide +kernel⟩
theorem wq_744 : Cond.selects RX2 yX2_stands yX2_stands ∈ po_TB := List.mem_filter.mpr ⟨List.mem_of_getElem? (i := 744) (by decide +kernel), by decide +kernel⟩
theorem ws_X2_stands : Cond.selects yX2_stands.cls yX2_stands yX2_stands ∈ po_TB := wq_744
theorem wq_741 : Cond.code yX5_countsFor cX5_countsFor 3 (some .boolean) ∈ po_TB := List.mem_filter.mpr ⟨List.mem_of_getElem? (i := 741) (by decide +kernel), by decide +kernel⟩
theorem wq_740 : Cond.static yX5_countsFor ∈ po_TB := List.mem_filter.mpr ⟨List.mem_of_getElem? (i := 740) (by decide +kernel), by decide +kernel⟩
theorem mv_X5_countsFor : po_MS yX5_countsFor cX5_countsFor 3 (some .boolean) 3 := ⟨wq_741, wq_740, wq_94, by decide +kernel⟩
theorem wq_739 : Cond.methodLink RX5 106 yX5_countsFor ∈ po_TB := List.mem_filter.mpr ⟨List.mem_of_getElem? (i := 739) (by decide +kernel), by decide +kernel⟩
theorem wn_152 : Cond.fieldLinkNest RX5 93 "PermitOffice$Permit" "building" "LPermitOffice$Area;" "PermitOffice" ∈ po_NW := List.mem_filter.mpr ⟨List.mem_of_getElem? (i := 152) (by decide +kernel), by decide +kernel⟩
theorem fl_X5_93 : po_FL RX5 93 2 4 := ⟨_, rfl, by decide, rfl, Or.inr ⟨_, wn_152⟩⟩
theorem wq_749 : Cond.code yX0_addAll cX0_addAll 3 none ∈ po_TB := List.mem_filter.mpr ⟨List.mem_of_getElem? (i := 749) (by decide +kernel), by decide +kernel⟩
theorem wq_747 : Cond.instanceMethod yX0_addAll ∈ po_TB := List.mem_filter.mpr ⟨List.mem_of_getElem? (i := 747) (by decide +kernel), by decide +kernel⟩
theorem mv_X0_addAll : po_MV yX0_addAll cX0_addAll 3 none 1 := ⟨wq_749, wq_747, wq_93, by decide +kernel⟩
theorem wq_746 : Cond.methodLink RX5 117 yX0_addAll ∈ po_TB := List.mem_filter.mpr ⟨List.mem_of_getElem? (i := 746) (by decide +kernel), by decide +kernel⟩
theorem wq_748 : Cond.selects RX0 yX0_addAll yX0_addAll ∈ po_TB := List.mem_filter.mpr ⟨List.mem_of_getElem? (i := 748) (by decide +kernel), by decide +kernel⟩
theorem ws_X0_addAll : Cond.selects yX0_addAll.cls yX0_addAll yX0_addAll ∈ po_TB := wq_748
theorem wq_738 : Cond.methodLink RX5 114 yX0_clear ∈ po_TB := List.mem_filter.mpr ⟨List.mem_of_getElem? (i := 738) (by decide +kernel), by decide +kernel⟩
theorem wq_159 : Cond.fieldLink RX4 12 "PermitOffice$Survey" "built" "LPermitOffice$Area;" ∈ po_TB := List.mem_filter.mpr ⟨List.mem_of_getElem? (i := 159) (by decide +kernel), by decide +kernel⟩
theorem fl_X4_12 : po_FL RX4 12 4 0 := ⟨_, rfl, by decide, rfl, Or.inl wq_159⟩
theorem wq_737 : Cond.code yX5_gatherBuildings cX5_gatherBuildings 5 none ∈ po_TB := List.mem_filter.mpr ⟨List.mem_of_getElem? (i := 737) (by decide +kernel), by decide +kernel⟩
theorem wq_735 : Cond.instanceMethod yX5_gatherBuildings ∈ po_TB := List.mem_filter.mpr ⟨List.mem_of_getElem? (i := 735) (by decide +kernel), by decide +kernel⟩
theorem mv_X5_gatherBuildings : po_MV yX5_gatherBuildings cX5_gatherBuildings 5 none 3 := ⟨wq_737, wq_735, wq_94, by decide +kernel⟩
theorem wq_734 : Cond.methodLink RX4 137 yX5_gatherBuildings ∈ po_TB := List.mem_filter.mpr ⟨List.mem_of_getElem? (i := 734) (by decide +kernel), by decide +kernel⟩
theorem wq_736 : Cond.selects RX5 yX5_gatherBuildings yX5_gatherBuildings ∈ po_TB := List.mem_filter.mpr ⟨List.mem_of_getElem? (i := 736) (by decide +kernel), by decide +kernel⟩
theorem ws_X5_gatherBuildings : Cond.selects yX5_gatherBuildings.cls yX5_gatherBuildings yX5_gatherBuildings ∈ po_TB := wq_736
theorem wq_753 : Cond.code yX5_lotAt cX5_lotAt 2 (some (.object "PermitOffice$Lot")) ∈ po_TB := List.mem_filter.mpr ⟨List.mem_of_getElem? (i := 753) (by decide +kernel), by decide +kernel⟩
theorem wq_751 : Cond.instanceMethod yX5_lotAt ∈ po_TB := List.mem_filter.mpr ⟨List.mem_of_getElem? (i := 751) (by decide +kernel), by decide +kernel⟩
theorem mv_X5_lotAt : po_MV yX5_lotAt cX5_lotAt 2 (some (.object "PermitOffice$Lot")) 1 := ⟨wq_753, wq_751, wq_94, by decide +kernel⟩
theorem wq_750 : Cond.methodLink RX4 27 yX5_lotAt ∈ po_TB := List.mem_filter.mpr ⟨List.mem_of_getElem? (i := 750) (by decide +kernel), by decide +kernel⟩
theorem wq_752 : Cond.selects RX5 yX5_lotAt yX5_lotAt ∈ po_TB := List.mem_filter.mpr ⟨List.mem_of_getElem? (i := 752) (by decide +kernel), by decide +kernel⟩
theorem ws_X5_lotAt : Cond.selects yX5_lotAt.cls yX5_lotAt yX5_lotAt ∈ po_TB := wq_752
theorem wn_107 : Cond.fieldLinkNest RX4 36 "PermitOffice$Lot" "area" "LPermitOffice$Area;" "PermitOffice" ∈ po_NW := List.mem_filter.mpr ⟨List.mem_of_getElem? (i := 107) (by decide +kernel), by decide +kernel⟩
theorem fl_X4_36 : po_FL RX4 36 1 2 := ⟨_, rfl, by decide, rfl, Or.inr ⟨_, wn_107⟩⟩
theorem wq_754 : Cond.methodLink RX4 141 yX0_cellsIn ∈ po_TB := List.mem_filter.mpr ⟨List.mem_of_getElem? (i := 754) (by decide +kernel), by decide +kernel⟩
theorem wq_759 : Cond.methodLink RX5 110 yX2_floorArea ∈ po_TB := List.mem_filter.mpr ⟨List.mem_of_getElem? (i := 759) (by decide +kernel), by decide +kernel⟩
theorem wq_767 : Cond.code yX0_rowOf cX0_rowOf 2 (some .int) ∈ po_TB := List.mem_filter.mpr ⟨List.mem_of_getElem? (i := 767) (by decide +kernel), by decide +kernel⟩
theorem wq_766 : Cond.instanceMethod yX0_rowOf ∈ po_TB := List.mem_filter.mpr ⟨List.mem_of_getElem? (i := 766) (by decide +kernel), by decide +kernel⟩
theorem mv_X0_rowOf : po_MV yX0_rowOf cX0_rowOf 2 (some .int) 1 := ⟨wq_767, wq_766, wq_93, by decide +kernel⟩
theorem wq_764 : Cond.methodLink RX0 21 yX0_rowOf ∈ po_TB := List.mem_filter.mpr ⟨List.mem_of_getElem? (i := 764) (by decide +kernel), by decide +kernel⟩
theorem wp_17 : Cond.selects RX0 yX0_rowOf yX0_rowOf ∈ po_TB := List.mem_filter.mpr ⟨List.mem_of_getElem? (i := 17) (by decide +kernel), by decide +kernel⟩
theorem ws_X0_rowOf : Cond.selects yX0_rowOf.cls yX0_rowOf yX0_rowOf ∈ po_TB := wp_17
theorem wq_728 : Cond.code yX7_lotOrThrow cX7_lotOrThrow 2 (some (.object "PermitOffice$Lot")) ∈ po_TB := List.mem_filter.mpr ⟨List.mem_of_getElem? (i := 728) (by decide +kernel), by decide +kernel⟩
theorem wq_727 : Cond.instanceMethod yX7_lotOrThrow ∈ po_TB := List.mem_filter.mpr ⟨List.mem_of_getElem? (i := 727) (by decide +kernel), by decide +kernel⟩
theorem mv_X7_lotOrThrow : po_MV yX7_lotOrThrow cX7_lotOrThrow 2 (some (.object "PermitOffice$Lot")) 1 := ⟨wq_728, wq_727, wq_90, by decide +kernel⟩
theorem wq_725 : Cond.methodLink RX7 94 yX7_lotOrThrow ∈ po_TB := List.mem_filter.mpr ⟨List.mem_of_getElem? (i := 725) (by decide +kernel), by decide +kernel⟩
theorem wp_16 : Cond.selects RX7 yX7_lotOrThrow yX7_lotOrThrow ∈ po_TB := List.mem_filter.mpr ⟨List.mem_of_getElem? (i := 16) (by decide +kernel), by decide +kernel⟩
theorem ws_X7_lotOrThrow : Cond.selects yX7_lotOrThrow.cls yX7_lotOrThrow yX7_lotOrThrow ∈ po_TB := wp_16
theorem wn_101 : Cond.fieldLinkNest RX7 98 "PermitOffice$Lot" "zone" "I" "PermitOffice" ∈ po_NW := List.mem_filter.mpr ⟨List.mem_of_getElem? (i := 101) (by decide +kernel), by decide +kernel⟩
theorem fl_X7_98 : po_FL RX7 98 1 0 := ⟨_, rfl, by decide, rfl, Or.inr ⟨_, wn_101⟩⟩
theorem wn_105 : Cond.fieldLinkNest RX7 103 "PermitOffice$Lot" "front" "I" "PermitOffice" ∈ po_NW := List.mem_filter.mpr ⟨List.mem_of_getElem? (i := 105) (by decide +kernel), by decide +kernel⟩
theorem fl_X7_103 : po_FL RX7 103 1 1 := ⟨_, rfl, by decide, rfl, Or.inr ⟨_, wn_105⟩⟩
theorem wn_113 : Cond.fieldLinkNest RX7 106 "PermitOffice$Lot" "cells" "I" "PermitOffice" ∈ po_NW := List.mem_filter.mpr ⟨List.mem_of_getElem? (i := 113) (by decide +kernel), by decide +kernel⟩
theorem fl_X7_106 : po_FL RX7 106 1 3 := ⟨_, rfl, by decide, rfl, Or.inr ⟨_, wn_113⟩⟩
theorem wq_387 : Cond.fieldLink RX7 19 "PermitOffice" "survey" "LPermitOffice$Survey;" ∈ po_TB := List.mem_filter.mpr ⟨List.mem_of_getElem? (i := 387) (by decide +kernel), by decide +kernel⟩
theorem fl_X7_19 : po_FL RX7 19 7 1 := ⟨_, rfl, by decide, rfl, Or.inl wq_387⟩
theorem wq_733 : Cond.code yX4_builtCells cX4_builtCells 3 (some .int) ∈ po_TB := List.mem_filter.mpr ⟨List.mem_of_getElem? (i := 733) (by decide +kernel), by decide +kernel⟩
theorem wq_731 : Cond.instanceMethod yX4_builtCells ∈ po_TB := List.mem_filter.mpr ⟨List.mem_of_getElem? (i := 731) (by decide +kernel), by decide +kernel⟩
theorem wq_92 : Cond.initialized RX4 ∈ po_TB := List.mem_filter.mpr ⟨List.mem_of_getElem? (i := 92) (by decide +kernel), by decide +kernel⟩
theorem mv_X4_builtCells : po_MV yX4_builtCells cX4_builtCells 3 (some .int) 2 := ⟨wq_733, wq_731, wq_92, by decide +kernel⟩
theorem wq_730 : Cond.methodLink RX7 109 yX4_builtCells ∈ po_TB := List.mem_filter.mpr ⟨List.mem_of_getElem? (i := 730) (by decide +kernel), by decide +kernel⟩
theorem wq_732 : Cond.selects RX4 yX4_builtCells yX4_builtCells ∈ po_TB := List.mem_filter.mpr ⟨List.mem_of_getElem? (i := 732) (by decide +kernel), by decide +kernel⟩
theorem ws_X4_builtCells : Cond.selects yX4_builtCells.cls yX4_builtCells yX4_builtCells ∈ po_TB := wq_732
theorem wq_758 : Cond.code yX5_standingFloorArea cX5_standingFloorArea 5 (some .int) ∈ po_TB := List.mem_filter.mpr ⟨List.mem_of_getElem? (i := 758) (by decide +kernel), by decide +kernel⟩
theorem wq_756 : Cond.instanceMethod yX5_standingFloorArea ∈ po_TB := List.mem_filter.mpr ⟨List.mem_of_getElem? (i := 756) (by decide +kernel), by decide +kernel⟩
theorem mv_X5_standingFloorArea : po_MV yX5_standingFloorArea cX5_standingFloorArea 5 (some .int) 2 := ⟨wq_758, wq_756, wq_94, by decide +kernel⟩
theorem wq_755 : Cond.methodLink RX7 113 yX5_standingFloorArea ∈ po_TB := List.mem_filter.mpr ⟨List.mem_of_getElem? (i := 755) (by decide +kernel), by decide +kernel⟩
theorem wq_757 : Cond.selects RX5 yX5_standingFloorArea yX5_standingFloorArea ∈ po_TB := List.mem_filter.mpr ⟨List.mem_of_getElem? (i := 757) (by decide +kernel), by decide +kernel⟩
theorem ws_X5_standingFloorArea : Cond.selects yX5_standingFloorArea.cls yX5_standingFloorArea yX5_standingFloorArea ∈ po_TB := wq_757
theorem wn_109 : Cond.fieldLinkNest RX7 117 "PermitOffice$Lot" "area" "LPermitOffice$Area;" "PermitOffice" ∈ po_NW := List.mem_filter.mpr ⟨List.mem_of_getElem? (i := 109) (by decide +kernel), by decide +kernel⟩
theorem fl_X7_117 : po_FL RX7 117 1 2 := ⟨_, rfl, by decide, rfl, Or.inr ⟨_, wn_109⟩⟩
theorem wq_763 : Cond.code yX0_untouchedSides cX0_untouchedSides 4 (some .int) ∈ po_TB := List.mem_filter.mpr ⟨List.mem_of_getElem? (i := 763) (by decide +kernel), by decide +kernel⟩
theorem wq_761 : Cond.instanceMethod yX0_untouchedSides ∈ po_TB := List.mem_filter.mpr ⟨List.mem_of_getElem? (i := 761) (by decide +kernel), by decide +kernel⟩
theorem mv_X0_untouchedSides : po_MV yX0_untouchedSides cX0_untouchedSides 4 (some .int) 0 := ⟨wq_763, wq_761, wq_93, by decide +kernel⟩
theorem wq_760 : Cond.methodLink RX7 121 yX0_untouchedSides ∈ po_TB := List.mem_filter.mpr ⟨List.mem_of_getElem? (i := 760) (by decide +kernel), by decide +kernel⟩
theorem wq_762 : Cond.selects RX0 yX0_untouchedSides yX0_untouchedSides ∈ po_TB := List.mem_filter.mpr ⟨List.mem_of_getElem? (i := 762) (by decide +kernel), by decide +kernel⟩
theorem ws_X0_untouchedSides : Cond.selects yX0_untouchedSides.cls yX0_untouchedSides yX0_untouchedSides ∈ po_TB := wq_762
theorem tw_X7_127_52 : po_TW RX7 "java/lang/IllegalArgumentException" "no such number about a lot" ["java/lang/RuntimeException", "java/lang/Exception"] 48 127 52 := ⟨by decide +kernel, by decide +kernel, wq_454, wq_102, List.mem_of_getElem? (i := 6) (by decide +kernel), ta_X7_52.1, fun w hw => by
  rcases List.mem_cons.mp hw with rfl | hw
  · decide +kernel
  · rcases List.mem_cons.mp hw with rfl | hw
    · decide +kernel
    · exact ta_X7_52.2 w hw⟩
theorem tw_X7_85_52 : po_TW RX7 "java/lang/IllegalArgumentException" "no such zone" ["java/lang/RuntimeException", "java/lang/Exception"] 48 85 52 := ⟨by decide +kernel, by decide +kernel, wq_454, wq_102, List.mem_of_getElem? (i := 3) (by decide +kernel), ta_X7_52.1, fun w hw => by
  rcases List.mem_cons.mp hw with rfl | hw
  · decide +kernel
  · rcases List.mem_cons.mp hw with rfl | hw
    · decide +kernel
    · exact ta_X7_52.2 w hw⟩
theorem wq_792 : Cond.code yX0_hasCell cX0_hasCell 3 (some .boolean) ∈ po_TB := List.mem_filter.mpr ⟨List.mem_of_getElem? (i := 792) (by decide +kernel), by decide +kernel⟩
theorem wq_790 : Cond.instanceMethod yX0_hasCell ∈ po_TB := List.mem_filter.mpr ⟨List.mem_of_getElem? (i := 790) (by decide +kernel), by decide +kernel⟩
theorem mv_X0_hasCell : po_MV yX0_hasCell cX0_hasCell 3 (some .boolean) 2 := ⟨wq_792, wq_790, wq_93, by decide +kernel⟩
theorem wq_789 : Cond.methodLink RX5 83 yX0_hasCell ∈ po_TB := List.mem_filter.mpr ⟨List.mem_of_getElem? (i := 789) (by decide +kernel), by decide +kernel⟩
theorem wq_791 : Cond.selects RX0 yX0_hasCell yX0_hasCell ∈ po_TB := List.mem_filter.mpr ⟨List.mem_of_getElem? (i := 791) (by decide +kernel), by decide +kernel⟩
theorem ws_X0_hasCell : Cond.selects yX0_hasCell.cls yX0_hasCell yX0_hasCell ∈ po_TB := wq_791
theorem wq_160 : Cond.fieldLink RX4 18 "PermitOffice$Survey" "deep" "LPermitOffice$Area;" ∈ po_TB := List.mem_filter.mpr ⟨List.mem_of_getElem? (i := 160) (by decide +kernel), by decide +kernel⟩
theorem fl_X4_18 : po_FL RX4 18 4 1 := ⟨_, rfl, by decide, rfl, Or.inl wq_160⟩
theorem wq_816 : Cond.code yX0_takeEdgeOff cX0_takeEdgeOff 7 none ∈ po_TB := List.mem_filter.mpr ⟨List.mem_of_getElem? (i := 816) (by decide +kernel), by decide +kernel⟩
theorem wq_814 : Cond.instanceMethod yX0_takeEdgeOff ∈ po_TB := List.mem_filter.mpr ⟨List.mem_of_getElem? (i := 814) (by decide +kernel), by decide +kernel⟩
theorem mv_X0_takeEdgeOff : po_MV yX0_takeEdgeOff cX0_takeEdgeOff 7 none 1 := ⟨wq_816, wq_814, wq_93, by decide +kernel⟩
theorem wq_813 : Cond.methodLink RX4 161 yX0_takeEdgeOff ∈ po_TB := List.mem_filter.mpr ⟨List.mem_of_getElem? (i := 813) (by decide +kernel), by decide +kernel⟩
theorem wq_815 : Cond.selects RX0 yX0_takeEdgeOff yX0_takeEdgeOff ∈ po_TB := List.mem_filter.mpr ⟨List.mem_of_getElem? (i := 815) (by decide +kernel), by decide +kernel⟩
theorem ws_X0_takeEdgeOff : Cond.selects yX0_takeEdgeOff.cls yX0_takeEdgeOff yX0_takeEdgeOff ∈ po_TB := wq_815
theorem wq_811 : Cond.code yX0_hasAll cX0_hasAll 3 (some .boolean) ∈ po_TB := List.mem_filter.mpr ⟨List.mem_of_getElem? (i := 811) (by decide +kernel), by decide +kernel⟩
theorem wq_809 : Cond.instanceMethod yX0_hasAll ∈ po_TB := List.mem_filter.mpr ⟨List.mem_of_getElem? (i := 809) (by decide +kernel), by decide +kernel⟩
theorem mv_X0_hasAll : po_MV yX0_hasAll cX0_hasAll 3 (some .boolean) 1 := ⟨wq_811, wq_809, wq_93, by decide +kernel⟩
theorem wq_808 : Cond.methodLink RX4 184 yX0_hasAll ∈ po_TB := List.mem_filter.mpr ⟨List.mem_of_getElem? (i := 808) (by decide +kernel), by decide +kernel⟩
theorem wq_810 : Cond.selects RX0 yX0_hasAll yX0_hasAll ∈ po_TB := List.mem_filter.mpr ⟨List.mem_of_getElem? (i := 810) (by decide +kernel), by decide +kernel⟩
theorem ws_X0_hasAll : Cond.selects yX0_hasAll.cls yX0_hasAll yX0_hasAll ∈ po_TB := wq_810
theorem wq_812 : Cond.methodLink RX4 154 yX0_copyFrom ∈ po_TB := List.mem_filter.mpr ⟨List.mem_of_getElem? (i := 812) (by decide +kernel), by decide +kernel⟩
theorem wq_788 : Cond.code yX5_lotWith cX5_lotWith 4 (some .int) ∈ po_TB := List.mem_filter.mpr ⟨List.mem_of_getElem? (i := 788) (by decide +kernel), by decide +kernel⟩
theorem wq_786 : Cond.instanceMethod yX5_lotWith ∈ po_TB := List.mem_filter.mpr ⟨List.mem_of_getElem? (i := 786) (by decide +kernel), by decide +kernel⟩
theorem mv_X5_lotWith : po_MV yX5_lotWith cX5_lotWith 4 (some .int) 2 := ⟨wq_788, wq_786, wq_94, by decide +kernel⟩
theorem wq_801 : Cond.methodLink RX4 144 yX5_lotWith ∈ po_TB := List.mem_filter.mpr ⟨List.mem_of_getElem? (i := 801) (by decide +kernel), by decide +kernel⟩
theorem wq_787 : Cond.selects RX5 yX5_lotWith yX5_lotWith ∈ po_TB := List.mem_filter.mpr ⟨List.mem_of_getElem? (i := 787) (by decide +kernel), by decide +kernel⟩
theorem ws_X5_lotWith : Cond.selects yX5_lotWith.cls yX5_lotWith yX5_lotWith ∈ po_TB := wq_787
theorem wq_802 : Cond.methodLink RX4 147 yX0_clear ∈ po_TB := List.mem_filter.mpr ⟨List.mem_of_getElem? (i := 802) (by decide +kernel), by decide +kernel⟩
theorem wq_803 : Cond.methodLink RX4 150 yX0_addRectangle ∈ po_TB := List.mem_filter.mpr ⟨List.mem_of_getElem? (i := 803) (by decide +kernel), by decide +kernel⟩
theorem wq_807 : Cond.code yX4_leastDistance cX4_leastDistance 5 (some .int) ∈ po_TB := List.mem_filter.mpr ⟨List.mem_of_getElem? (i := 807) (by decide +kernel), by decide +kernel⟩
theorem wq_806 : Cond.instanceMethod yX4_leastDistance ∈ po_TB := List.mem_filter.mpr ⟨List.mem_of_getElem? (i := 806) (by decide +kernel), by decide +kernel⟩
theorem mv_X4_leastDistance : po_MV yX4_leastDistance cX4_leastDistance 5 (some .int) 3 := ⟨wq_807, wq_806, wq_92, by decide +kernel⟩
theorem wq_804 : Cond.methodLink RX4 52 yX4_leastDistance ∈ po_TB := List.mem_filter.mpr ⟨List.mem_of_getElem? (i := 804) (by decide +kernel), by decide +kernel⟩
theorem wp_18 : Cond.selects RX4 yX4_leastDistance yX4_leastDistance ∈ po_TB := List.mem_filter.mpr ⟨List.mem_of_getElem? (i := 18) (by decide +kernel), by decide +kernel⟩
theorem ws_X4_leastDistance : Cond.selects yX4_leastDistance.cls yX4_leastDistance yX4_leastDistance ∈ po_TB := wp_18
theorem tw_X7_129_87 : po_TW RX7 "java/lang/IndexOutOfBoundsException" "no such cell" ["java/lang/RuntimeException", "java/lang/Exception"] 83 129 87 := ⟨by decide +kernel, by decide +kernel, wq_700, wq_107, List.mem_of_getElem? (i := 7) (by decide +kernel), ta_X7_87.1, fun w hw => by
  rcases List.mem_cons.mp hw with rfl | hw
  · decide +kernel
  · rcases List.mem_cons.mp hw with rfl | hw
    · decide +kernel
    · exact ta_X7_87.2 w hw⟩
theorem tw_X7_131_52 : po_TW RX7 "java/lang/IllegalArgumentException" "no such number about a cell" ["java/lang/RuntimeException", "java/lang/Exception"] 48 131 52 := ⟨by decide +kernel, by decide +kernel, wq_454, wq_102, List.mem_of_getElem? (i := 8) (by decide +kernel), ta_X7_52.1, fun w hw => by
  rcases List.mem_cons.mp hw with rfl | hw
  · decide +kernel
  · rcases List.mem_cons.mp hw with rfl | hw
    · decide +kernel
    · exact ta_X7_52.2 w hw⟩
theorem wq_800 : Cond.code yX4_distance cX4_distance 6 (some .int) ∈ po_TB := List.mem_filter.mpr ⟨List.mem_of_getElem? (i := 800) (by decide +kernel), by decide +kernel⟩
theorem wq_798 : Cond.instanceMethod yX4_distance ∈ po_TB := List.mem_filter.mpr ⟨List.mem_of_getElem? (i := 798) (by decide +kernel), by decide +kernel⟩
theorem mv_X4_distance : po_MV yX4_distance cX4_distance 6 (some .int) 4 := ⟨wq_800, wq_798, wq_92, by decide +kernel⟩
theorem wq_797 : Cond.methodLink RX7 139 yX4_distance ∈ po_TB := List.mem_filter.mpr ⟨List.mem_of_getElem? (i := 797) (by decide +kernel), by decide +kernel⟩
theorem wq_799 : Cond.selects RX4 yX4_distance yX4_distance ∈ po_TB := List.mem_filter.mpr ⟨List.mem_of_getElem? (i := 799) (by decide +kernel), by decide +kernel⟩
theorem ws_X4_distance : Cond.selects yX4_distance.cls yX4_distance yX4_distance ∈ po_TB := wq_799
theorem wq_796 : Cond.code yX5_standingPermitWith cX5_standingPermitWith 4 (some .int) ∈ po_TB := List.mem_filter.mpr ⟨List.mem_of_getElem? (i := 796) (by decide +kernel), by decide +kernel⟩
theorem wq_794 : Cond.instanceMethod yX5_standingPermitWith ∈ po_TB := List.mem_filter.mpr ⟨List.mem_of_getElem? (i := 794) (by decide +kernel), by decide +kernel⟩
theorem mv_X5_standingPermitWith : po_MV yX5_standingPermitWith cX5_standingPermitWith 4 (some .int) 2 := ⟨wq_796, wq_794, wq_94, by decide +kernel⟩
theorem wq_793 : Cond.methodLink RX7 136 yX5_standingPermitWith ∈ po_TB := List.mem_filter.mpr ⟨List.mem_of_getElem? (i := 793) (by decide +kernel), by decide +kernel⟩
theorem wq_795 : Cond.selects RX5 yX5_standingPermitWith yX5_standingPermitWith ∈ po_TB := List.mem_filter.mpr ⟨List.mem_of_getElem? (i := 795) (by decide +kernel), by decide +kernel⟩
theorem ws_X5_standingPermitWith : Cond.selects yX5_standingPermitWith.cls yX5_standingPermitWith yX5_standingPermitWith ∈ po_TB := wq_795
theorem wq_785 : Cond.methodLink RX7 133 yX5_lotWith ∈ po_TB := List.mem_filter.mpr ⟨List.mem_of_getElem? (i := 785) (by decide +kernel), by decide +kernel⟩
theorem wq_836 : Cond.methodLink RX5 68 yX5_lotAt ∈ po_TB := List.mem_filter.mpr ⟨List.mem_of_getElem? (i := 836) (by decide +kernel), by decide +kernel⟩
theorem wn_100 : Cond.fieldLinkNest RX5 72 "PermitOffice$Lot" "zone" "I" "PermitOffice" ∈ po_NW := List.mem_filter.mpr ⟨List.mem_of_getElem? (i := 100) (by decide +kernel), by decide +kernel⟩
theorem fl_X5_72 : po_FL RX5 72 1 0 := ⟨_, rfl, by decide, rfl, Or.inr ⟨_, wn_100⟩⟩
theorem wq_837 : Cond.methodLink RX5 75 yX5_ruleOf ∈ po_TB := List.mem_filter.mpr ⟨List.mem_of_getElem? (i := 837) (by decide +kernel), by decide +kernel⟩
theorem wq_848 : Cond.code yX0_longestRun cX0_longestRun 3 (some .int) ∈ po_TB := List.mem_filter.mpr ⟨List.mem_of_getElem? (i := 848) (by decide +kernel), by decide +kernel⟩
theorem wq_847 : Cond.static yX0_longestRun ∈ po_TB := List.mem_filter.mpr ⟨List.mem_of_getElem? (i := 847) (by decide +kernel), by decide +kernel⟩
theorem mv_X0_longestRun : po_MS yX0_longestRun cX0_longestRun 3 (some .int) 1 := ⟨wq_848, wq_847, wq_93, by decide +kernel⟩
theorem wq_846 : Cond.methodLink RX0 38 yX0_longestRun ∈ po_TB := List.mem_filter.mpr ⟨List.mem_of_getElem? (i := 846) (by decide +kernel), by decide +kernel⟩
theorem wq_849 : Cond.methodLink RX0 41 Lib.Math.max.name ∈ po_TB := List.mem_filter.mpr ⟨List.mem_of_getElem? (i := 849) (by decide +kernel), by decide +kernel⟩
theorem wq_850 : Cond.static Lib.Math.max.name ∈ po_TB := List.mem_filter.mpr ⟨List.mem_of_getElem? (i := 850) (by decide +kernel), by decide +kernel⟩
theorem wq_106 : Cond.initialized "java/lang/Math" ∈ po_TB := List.mem_filter.mpr ⟨List.mem_of_getElem? (i := 106) (by decide +kernel), by decide +kernel⟩
theorem wq_851 : Cond.code Lib.Math.max.name Lib.Math.max.code 2 (some .int) ∈ po_TB := List.mem_filter.mpr ⟨List.mem_of_getElem? (i := 851) (by decide +kernel), by decide +kernel⟩
theorem wq_841 : Cond.code yX0_keepAll cX0_keepAll 3 none ∈ po_TB := List.mem_filter.mpr ⟨List.mem_of_getElem? (i := 841) (by decide +kernel), by decide +kernel⟩
theorem wq_839 : Cond.instanceMethod yX0_keepAll ∈ po_TB := List.mem_filter.mpr ⟨List.mem_of_getElem? (i := 839) (by decide +kernel), by decide +kernel⟩
theorem mv_X0_keepAll : po_MV yX0_keepAll cX0_keepAll 3 none 1 := ⟨wq_841, wq_839, wq_93, by decide +kernel⟩
theorem wq_838 : Cond.methodLink RX4 165 yX0_keepAll ∈ po_TB := List.mem_filter.mpr ⟨List.mem_of_getElem? (i := 838) (by decide +kernel), by decide +kernel⟩
theorem wq_840 : Cond.selects RX0 yX0_keepAll yX0_keepAll ∈ po_TB := List.mem_filter.mpr ⟨List.mem_of_getElem? (i := 840) (by decide +kernel), by decide +kernel⟩
theorem ws_X0_keepAll : Cond.selects yX0_keepAll.cls yX0_keepAll yX0_keepAll ∈ po_TB := wq_840
theorem wq_835 : Cond.code yX5_ruleFor cX5_ruleFor 3 (some .int) ∈ po_TB := List.mem_filter.mpr ⟨List.mem_of_getElem? (i := 835) (by decide +kernel), by decide +kernel⟩
theorem wq_833 : Cond.instanceMethod yX5_ruleFor ∈ po_TB := List.mem_filter.mpr ⟨List.mem_of_getElem? (i := 833) (by decide +kernel), by decide +kernel⟩
theorem mv_X5_ruleFor : po_MV yX5_ruleFor cX5_ruleFor 3 (some .int) 2 := ⟨wq_835, wq_833, wq_94, by decide +kernel⟩
theorem wq_832 : Cond.methodLink RX4 76 yX5_ruleFor ∈ po_TB := List.mem_filter.mpr ⟨List.mem_of_getElem? (i := 832) (by decide +kernel), by decide +kernel⟩
theorem wq_834 : Cond.selects RX5 yX5_ruleFor yX5_ruleFor ∈ po_TB := List.mem_filter.mpr ⟨List.mem_of_getElem? (i := 834) (by decide +kernel), by decide +kernel⟩
theorem ws_X5_ruleFor : Cond.selects yX5_ruleFor.cls yX5_ruleFor yX5_ruleFor ∈ po_TB := wq_834
theorem wq_845 : Cond.code yX0_largestRectangle cX0_largestRectangle 5 (some .int) ∈ po_TB := List.mem_filter.mpr ⟨List.mem_of_getElem? (i := 845) (by decide +kernel), by decide +kernel⟩
theorem wq_843 : Cond.instanceMethod yX0_largestRectangle ∈ po_TB := List.mem_filter.mpr ⟨List.mem_of_getElem? (i := 843) (by decide +kernel), by decide +kernel⟩
theorem mv_X0_largestRectangle : po_MV yX0_largestRectangle cX0_largestRectangle 5 (some .int) 0 := ⟨wq_845, wq_843, wq_93, by decide +kernel⟩
theorem wq_842 : Cond.methodLink RX4 168 yX0_largestRectangle ∈ po_TB := List.mem_filter.mpr ⟨List.mem_of_getElem? (i := 842) (by decide +kernel), by decide +kernel⟩
theorem wq_844 : Cond.selects RX0 yX0_largestRectangle yX0_largestRectangle ∈ po_TB := List.mem_filter.mpr ⟨List.mem_of_getElem? (i := 844) (by decide +kernel), by decide +kernel⟩
theorem ws_X0_largestRectangle : Cond.selects yX0_largestRectangle.cls yX0_largestRectangle yX0_largestRectangle ∈ po_TB := wq_844
theorem wn_103 : Cond.fieldLinkNest RX4 49 "PermitOffice$Lot" "front" "I" "PermitOffice" ∈ po_NW := List.mem_filter.mpr ⟨List.mem_of_getElem? (i := 103) (by decide +kernel), by decide +kernel⟩
theorem fl_X4_49 : po_FL RX4 49 1 1 := ⟨_, rfl, by decide, rfl, Or.inr ⟨_, wn_103⟩⟩
theorem wq_831 : Cond.code yX0_removeAll cX0_removeAll 3 none ∈ po_TB := List.mem_filter.mpr ⟨List.mem_of_getElem? (i := 831) (by decide +kernel), by decide +kernel⟩
theorem wq_829 : Cond.instanceMethod yX0_removeAll ∈ po_TB := List.mem_filter.mpr ⟨List.mem_of_getElem? (i := 829) (by decide +kernel), by decide +kernel⟩
theorem mv_X0_removeAll : po_MV yX0_removeAll cX0_removeAll 3 none 1 := ⟨wq_831, wq_829, wq_93, by decide +kernel⟩
theorem wq_828 : Cond.methodLink RX4 158 yX0_removeAll ∈ po_TB := List.mem_filter.mpr ⟨List.mem_of_getElem? (i := 828) (by decide +kernel), by decide +kernel⟩
theorem wq_830 : Cond.selects RX0 yX0_removeAll yX0_removeAll ∈ po_TB := List.mem_filter.mpr ⟨List.mem_of_getElem? (i := 830) (by decide +kernel), by decide +kernel⟩
theorem ws_X0_removeAll : Cond.selects yX0_removeAll.cls yX0_removeAll yX0_removeAll ∈ po_TB := wq_830
theorem wq_827 : Cond.code yX4_largestBuilding cX4_largestBuilding 7 (some .int) ∈ po_TB := List.mem_filter.mpr ⟨List.mem_of_getElem? (i := 827) (by decide +kernel), by decide +kernel⟩
theorem wq_825 : Cond.instanceMethod yX4_largestBuilding ∈ po_TB := List.mem_filter.mpr ⟨List.mem_of_getElem? (i := 825) (by decide +kernel), by decide +kernel⟩
theorem mv_X4_largestBuilding : po_MV yX4_largestBuilding cX4_largestBuilding 7 (some .int) 2 := ⟨wq_827, wq_825, wq_92, by decide +kernel⟩
theorem wq_824 : Cond.methodLink RX7 143 yX4_largestBuilding ∈ po_TB := List.mem_filter.mpr ⟨List.mem_of_getElem? (i := 824) (by decide +kernel), by decide +kernel⟩
theorem wq_826 : Cond.selects RX4 yX4_largestBuilding yX4_largestBuilding ∈ po_TB := List.mem_filter.mpr ⟨List.mem_of_getElem? (i := 826) (by decide +kernel), by decide +kernel⟩
theorem ws_X4_largestBuilding : Cond.selects yX4_largestBuilding.cls yX4_largestBuilding yX4_largestBuilding ∈ po_TB := wq_826
theorem tw_X7_351_87 : po_TW RX7 "java/lang/IndexOutOfBoundsException" "no such permit" ["java/lang/RuntimeException", "java/lang/Exception"] 83 351 87 := ⟨by decide +kernel, by decide +kernel, wq_700, wq_107, List.mem_of_getElem? (i := 9) (by decide +kernel), ta_X7_87.1, fun w hw => by
  rcases List.mem_cons.mp hw with rfl | hw
  · decide +kernel
  · rcases List.mem_cons.mp hw with rfl | hw
    · decide +kernel
    · exact ta_X7_87.2 w hw⟩
theorem wn_270 : Cond.fieldLinkNest RX7 212 "PermitOffice$Town" "permitCount" "I" "PermitOffice" ∈ po_NW := List.mem_filter.mpr ⟨List.mem_of_getElem? (i := 270) (by decide +kernel), by decide +kernel⟩
theorem fl_X7_212 : po_FL RX7 212 5 5 := ⟨_, rfl, by decide, rfl, Or.inr ⟨_, wn_270⟩⟩
theorem wn_267 : Cond.fieldLinkNest RX7 215 "PermitOffice$Town" "permits" "[LPermitOffice$Permit;" "PermitOffice" ∈ po_NW := List.mem_filter.mpr ⟨List.mem_of_getElem? (i := 267) (by decide +kernel), by decide +kernel⟩
theorem fl_X7_215 : po_FL RX7 215 5 4 := ⟨_, rfl, by decide, rfl, Or.inr ⟨_, wn_267⟩⟩
theorem wq_869 : Cond.methodLink RX2 92 yJ6_bitCount_0f7a4 ∈ po_TB := List.mem_filter.mpr ⟨List.mem_of_getElem? (i := 869) (by decide +kernel), by decide +kernel⟩
theorem wq_862 : Cond.code yX7_permitOrThrow cX7_permitOrThrow 2 (some (.object "PermitOffice$Permit")) ∈ po_TB := List.mem_filter.mpr ⟨List.mem_of_getElem? (i := 862) (by decide +kernel), by decide +kernel⟩
theorem wq_861 : Cond.instanceMethod yX7_permitOrThrow ∈ po_TB := List.mem_filter.mpr ⟨List.mem_of_getElem? (i := 861) (by decide +kernel), by decide +kernel⟩
theorem mv_X7_permitOrThrow : po_MV yX7_permitOrThrow cX7_permitOrThrow 2 (some (.object "PermitOffice$Permit")) 1 := ⟨wq_862, wq_861, wq_90, by decide +kernel⟩
theorem wq_859 : Cond.methodLink RX7 146 yX7_permitOrThrow ∈ po_TB := List.mem_filter.mpr ⟨List.mem_of_getElem? (i := 859) (by decide +kernel), by decide +kernel⟩
theorem wp_19 : Cond.selects RX7 yX7_permitOrThrow yX7_permitOrThrow ∈ po_TB := List.mem_filter.mpr ⟨List.mem_of_getElem? (i := 19) (by decide +kernel), by decide +kernel⟩
theorem ws_X7_permitOrThrow : Cond.selects yX7_permitOrThrow.cls yX7_permitOrThrow yX7_permitOrThrow ∈ po_TB := wp_19
theorem wn_157 : Cond.fieldLinkNest RX7 150 "PermitOffice$Permit" "status" "I" "PermitOffice" ∈ po_NW := List.mem_filter.mpr ⟨List.mem_of_getElem? (i := 157) (by decide +kernel), by decide +kernel⟩
theorem fl_X7_150 : po_FL RX7 150 2 6 := ⟨_, rfl, by decide, rfl, Or.inr ⟨_, wn_157⟩⟩
theorem wn_135 : Cond.fieldLinkNest RX7 155 "PermitOffice$Permit" "lot" "I" "PermitOffice" ∈ po_NW := List.mem_filter.mpr ⟨List.mem_of_getElem? (i := 135) (by decide +kernel), by decide +kernel⟩
theorem fl_X7_155 : po_FL RX7 155 2 0 := ⟨_, rfl, by decide, rfl, Or.inr ⟨_, wn_135⟩⟩
theorem wn_140 : Cond.fieldLinkNest RX7 158 "PermitOffice$Permit" "use" "I" "PermitOffice" ∈ po_NW := List.mem_filter.mpr ⟨List.mem_of_getElem? (i := 140) (by decide +kernel), by decide +kernel⟩
theorem fl_X7_158 : po_FL RX7 158 2 1 := ⟨_, rfl, by decide, rfl, Or.inr ⟨_, wn_140⟩⟩
theorem wn_144 : Cond.fieldLinkNest RX7 161 "PermitOffice$Permit" "floors" "I" "PermitOffice" ∈ po_NW := List.mem_filter.mpr ⟨List.mem_of_getElem? (i := 144) (by decide +kernel), by decide +kernel⟩
theorem fl_X7_161 : po_FL RX7 161 2 2 := ⟨_, rfl, by decide, rfl, Or.inr ⟨_, wn_144⟩⟩
theorem wn_148 : Cond.fieldLinkNest RX7 164 "PermitOffice$Permit" "parking" "I" "PermitOffice" ∈ po_NW := List.mem_filter.mpr ⟨List.mem_of_getElem? (i := 148) (by decide +kernel), by decide +kernel⟩
theorem fl_X7_164 : po_FL RX7 164 2 3 := ⟨_, rfl, by decide, rfl, Or.inr ⟨_, wn_148⟩⟩
theorem wn_155 : Cond.fieldLinkNest RX7 167 "PermitOffice$Permit" "cells" "I" "PermitOffice" ∈ po_NW := List.mem_filter.mpr ⟨List.mem_of_getElem? (i := 155) (by decide +kernel), by decide +kernel⟩
theorem fl_X7_167 : po_FL RX7 167 2 5 := ⟨_, rfl, by decide, rfl, Or.inr ⟨_, wn_155⟩⟩
theorem wq_864 : Cond.methodLink RX7 168 yX2_floorArea ∈ po_TB := List.mem_filter.mpr ⟨List.mem_of_getElem? (i := 864) (by decide +kernel), by decide +kernel⟩
theorem wn_162 : Cond.fieldLinkNest RX7 171 "PermitOffice$Permit" "phase" "I" "PermitOffice" ∈ po_NW := List.mem_filter.mpr ⟨List.mem_of_getElem? (i := 162) (by decide +kernel), by decide +kernel⟩
theorem fl_X7_171 : po_FL RX7 171 2 8 := ⟨_, rfl, by decide, rfl, Or.inr ⟨_, wn_162⟩⟩
theorem wn_164 : Cond.fieldLinkNest RX7 174 "PermitOffice$Permit" "failures" "I" "PermitOffice" ∈ po_NW := List.mem_filter.mpr ⟨List.mem_of_getElem? (i := 164) (by decide +kernel), by decide +kernel⟩
theorem fl_X7_174 : po_FL RX7 174 2 9 := ⟨_, rfl, by decide, rfl, Or.inr ⟨_, wn_164⟩⟩
theorem wn_166 : Cond.fieldLinkNest RX7 177 "PermitOffice$Permit" "limit" "I" "PermitOffice" ∈ po_NW := List.mem_filter.mpr ⟨List.mem_of_getElem? (i := 166) (by decide +kernel), by decide +kernel⟩
theorem fl_X7_177 : po_FL RX7 177 2 10 := ⟨_, rfl, by decide, rfl, Or.inr ⟨_, wn_166⟩⟩
theorem wn_170 : Cond.fieldLinkNest RX7 180 "PermitOffice$Permit" "named" "I" "PermitOffice" ∈ po_NW := List.mem_filter.mpr ⟨List.mem_of_getElem? (i := 170) (by decide +kernel), by decide +kernel⟩
theorem fl_X7_180 : po_FL RX7 180 2 12 := ⟨_, rfl, by decide, rfl, Or.inr ⟨_, wn_170⟩⟩
theorem wq_868 : Cond.code yX2_openConditions cX2_openConditions 1 (some .int) ∈ po_TB := List.mem_filter.mpr ⟨List.mem_of_getElem? (i := 868) (by decide +kernel), by decide +kernel⟩
theorem wq_866 : Cond.instanceMethod yX2_openConditions ∈ po_TB := List.mem_filter.mpr ⟨List.mem_of_getElem? (i := 866) (by decide +kernel), by decide +kernel⟩
theorem mv_X2_openConditions : po_MV yX2_openConditions cX2_openConditions 1 (some .int) 0 := ⟨wq_868, wq_866, wq_96, by decide +kernel⟩
theorem wq_865 : Cond.methodLink RX7 183 yX2_openConditions ∈ po_TB := List.mem_filter.mpr ⟨List.mem_of_getElem? (i := 865) (by decide +kernel), by decide +kernel⟩
theorem wq_867 : Cond.selects RX2 yX2_openConditions yX2_openConditions ∈ po_TB := List.mem_filter.mpr ⟨List.mem_of_getElem? (i := 867) (by decide +kernel), by decide +kernel⟩
theorem ws_X2_openConditions : Cond.selects yX2_openConditions.cls yX2_openConditions yX2_openConditions ∈ po_TB := wq_867
theorem wn_179 : Cond.fieldLinkNest RX7 186 "PermitOffice$Permit" "conditions" "I" "PermitOffice" ∈ po_NW := List.mem_filter.mpr ⟨List.mem_of_getElem? (i := 179) (by decide +kernel), by decide +kernel⟩
theorem fl_X7_186 : po_FL RX7 186 2 15 := ⟨_, rfl, by decide, rfl, Or.inr ⟨_, wn_179⟩⟩
theorem tw_X7_189_52 : po_TW RX7 "java/lang/IllegalArgumentException" "no such number about a permit" ["java/lang/RuntimeException", "java/lang/Exception"] 48 189 52 := ⟨by decide +kernel, by decide +kernel, wq_454, wq_102, List.mem_of_getElem? (i := 10) (by decide +kernel), ta_X7_52.1, fun w hw => by
  rcases List.mem_cons.mp hw with rfl | hw
  · decide +kernel
  · rcases List.mem_cons.mp hw with rfl | hw
    · decide +kernel
    · exact ta_X7_52.2 w hw⟩
theorem wq_894 : Cond.methodLink RX0 34 yX0_size ∈ po_TB := List.mem_filter.mpr ⟨List.mem_of_getElem? (i := 894) (by decide +kernel), by decide +kernel⟩
theorem wn_133 : Cond.fieldLinkNest RX4 21 "PermitOffice$Permit" "lot" "I" "PermitOffice" ∈ po_NW := List.mem_filter.mpr ⟨List.mem_of_getElem? (i := 133) (by decide +kernel), by decide +kernel⟩
theorem fl_X4_21 : po_FL RX4 21 2 0 := ⟨_, rfl, by decide, rfl, Or.inr ⟨_, wn_133⟩⟩
theorem wn_150 : Cond.fieldLinkNest RX4 33 "PermitOffice$Permit" "building" "LPermitOffice$Area;" "PermitOffice" ∈ po_NW := List.mem_filter.mpr ⟨List.mem_of_getElem? (i := 150) (by decide +kernel), by decide +kernel⟩
theorem fl_X4_33 : po_FL RX4 33 2 4 := ⟨_, rfl, by decide, rfl, Or.inr ⟨_, wn_150⟩⟩
theorem wq_903 : Cond.methodLink RX4 181 Lib.Math.min.name ∈ po_TB := List.mem_filter.mpr ⟨List.mem_of_getElem? (i := 903) (by decide +kernel), by decide +kernel⟩
theorem wq_904 : Cond.static Lib.Math.min.name ∈ po_TB := List.mem_filter.mpr ⟨List.mem_of_getElem? (i := 904) (by decide +kernel), by decide +kernel⟩
theorem wq_905 : Cond.code Lib.Math.min.name Lib.Math.min.code 2 (some .int) ∈ po_TB := List.mem_filter.mpr ⟨List.mem_of_getElem? (i := 905) (by decide +kernel), by decide +kernel⟩
theorem wq_910 : Cond.methodLink RX4 171 yX0_addAll ∈ po_TB := List.mem_filter.mpr ⟨List.mem_of_getElem? (i := 910) (by decide +kernel), by decide +kernel⟩
theorem wn_115 : Cond.fieldLinkNest RX4 174 "PermitOffice$Lot" "cells" "I" "PermitOffice" ∈ po_NW := List.mem_filter.mpr ⟨List.mem_of_getElem? (i := 115) (by decide +kernel), by decide +kernel⟩
theorem fl_X4_174 : po_FL RX4 174 1 3 := ⟨_, rfl, by decide, rfl, Or.inr ⟨_, wn_115⟩⟩
theorem wq_913 : Cond.code yX4_dividedUp cX4_dividedUp 2 (some .int) ∈ po_TB := List.mem_filter.mpr ⟨List.mem_of_getElem? (i := 913) (by decide +kernel), by decide +kernel⟩
theorem wq_912 : Cond.static yX4_dividedUp ∈ po_TB := List.mem_filter.mpr ⟨List.mem_of_getElem? (i := 912) (by decide +kernel), by decide +kernel⟩
theorem mv_X4_dividedUp : po_MS yX4_dividedUp cX4_dividedUp 2 (some .int) 2 := ⟨wq_913, wq_912, wq_92, by decide +kernel⟩
theorem wq_911 : Cond.methodLink RX4 84 yX4_dividedUp ∈ po_TB := List.mem_filter.mpr ⟨List.mem_of_getElem? (i := 911) (by decide +kernel), by decide +kernel⟩
theorem wq_918 : Cond.methodLink RX4 80 yX2_floorArea ∈ po_TB := List.mem_filter.mpr ⟨List.mem_of_getElem? (i := 918) (by decide +kernel), by decide +kernel⟩
theorem wq_919 : Cond.methodLink RX4 177 yX5_standingFloorArea ∈ po_TB := List.mem_filter.mpr ⟨List.mem_of_getElem? (i := 919) (by decide +kernel), by decide +kernel⟩
theorem wq_893 : Cond.code yX0_cellsOutside cX0_cellsOutside 2 (some .int) ∈ po_TB := List.mem_filter.mpr ⟨List.mem_of_getElem? (i := 893) (by decide +kernel), by decide +kernel⟩
theorem wq_891 : Cond.instanceMethod yX0_cellsOutside ∈ po_TB := List.mem_filter.mpr ⟨List.mem_of_getElem? (i := 891) (by decide +kernel), by decide +kernel⟩
theorem mv_X0_cellsOutside : po_MV yX0_cellsOutside cX0_cellsOutside 2 (some .int) 1 := ⟨wq_893, wq_891, wq_93, by decide +kernel⟩
theorem wq_890 : Cond.methodLink RX4 41 yX0_cellsOutside ∈ po_TB := List.mem_filter.mpr ⟨List.mem_of_getElem? (i := 890) (by decide +kernel), by decide +kernel⟩
theorem wq_892 : Cond.selects RX0 yX0_cellsOutside yX0_cellsOutside ∈ po_TB := List.mem_filter.mpr ⟨List.mem_of_getElem? (i := 892) (by decide +kernel), by decide +kernel⟩
theorem ws_X0_cellsOutside : Cond.selects yX0_cellsOutside.cls yX0_cellsOutside yX0_cellsOutside ∈ po_TB := wq_892
theorem wq_898 : Cond.code yX4_overlap cX4_overlap 3 (some .int) ∈ po_TB := List.mem_filter.mpr ⟨List.mem_of_getElem? (i := 898) (by decide +kernel), by decide +kernel⟩
theorem wq_897 : Cond.instanceMethod yX4_overlap ∈ po_TB := List.mem_filter.mpr ⟨List.mem_of_getElem? (i := 897) (by decide +kernel), by decide +kernel⟩
theorem mv_X4_overlap : po_MV yX4_overlap cX4_overlap 3 (some .int) 2 := ⟨wq_898, wq_897, wq_92, by decide +kernel⟩
theorem wq_895 : Cond.methodLink RX4 45 yX4_overlap ∈ po_TB := List.mem_filter.mpr ⟨List.mem_of_getElem? (i := 895) (by decide +kernel), by decide +kernel⟩
theorem wp_20 : Cond.selects RX4 yX4_overlap yX4_overlap ∈ po_TB := List.mem_filter.mpr ⟨List.mem_of_getElem? (i := 20) (by decide +kernel), by decide +kernel⟩
theorem ws_X4_overlap : Cond.selects yX4_overlap.cls yX4_overlap yX4_overlap ∈ po_TB := wp_20
theorem wq_902 : Cond.code yX4_leastSideDistance cX4_leastSideDistance 5 (some .int) ∈ po_TB := List.mem_filter.mpr ⟨List.mem_of_getElem? (i := 902) (by decide +kernel), by decide +kernel⟩
theorem wq_901 : Cond.instanceMethod yX4_leastSideDistance ∈ po_TB := List.mem_filter.mpr ⟨List.mem_of_getElem? (i := 901) (by decide +kernel), by decide +kernel⟩
theorem mv_X4_leastSideDistance : po_MV yX4_leastSideDistance cX4_leastSideDistance 5 (some .int) 2 := ⟨wq_902, wq_901, wq_92, by decide +kernel⟩
theorem wq_899 : Cond.methodLink RX4 56 yX4_leastSideDistance ∈ po_TB := List.mem_filter.mpr ⟨List.mem_of_getElem? (i := 899) (by decide +kernel), by decide +kernel⟩
theorem wp_21 : Cond.selects RX4 yX4_leastSideDistance yX4_leastSideDistance ∈ po_TB := List.mem_filter.mpr ⟨List.mem_of_getElem? (i := 21) (by decide +kernel), by decide +kernel⟩
theorem ws_X4_leastSideDistance : Cond.selects yX4_leastSideDistance.cls yX4_leastSideDistance yX4_leastSideDistance ∈ po_TB := wp_21
theorem wq_909 : Cond.code yX4_coverage cX4_coverage 4 (some .int) ∈ po_TB := List.mem_filter.mpr ⟨List.mem_of_getElem? (i := 909) (by decide +kernel), by decide +kernel⟩
theorem wq_908 : Cond.instanceMethod yX4_coverage ∈ po_TB := List.mem_filter.mpr ⟨List.mem_of_getElem? (i := 908) (by decide +kernel), by decide +kernel⟩
theorem mv_X4_coverage : po_MV yX4_coverage cX4_coverage 4 (some .int) 3 := ⟨wq_909, wq_908, wq_92, by decide +kernel⟩
theorem wq_906 : Cond.methodLink RX4 60 yX4_coverage ∈ po_TB := List.mem_filter.mpr ⟨List.mem_of_getElem? (i := 906) (by decide +kernel), by decide +kernel⟩
theorem wp_22 : Cond.selects RX4 yX4_coverage yX4_coverage ∈ po_TB := List.mem_filter.mpr ⟨List.mem_of_getElem? (i := 22) (by decide +kernel), by decide +kernel⟩
theorem ws_X4_coverage : Cond.selects yX4_coverage.cls yX4_coverage yX4_coverage ∈ po_TB := wp_22
theorem wn_142 : Cond.fieldLinkNest RX4 64 "PermitOffice$Permit" "floors" "I" "PermitOffice" ∈ po_NW := List.mem_filter.mpr ⟨List.mem_of_getElem? (i := 142) (by decide +kernel), by decide +kernel⟩
theorem fl_X4_64 : po_FL RX4 64 2 2 := ⟨_, rfl, by decide, rfl, Or.inr ⟨_, wn_142⟩⟩
theorem wq_917 : Cond.code yX4_floorAreaShare cX4_floorAreaShare 5 (some .int) ∈ po_TB := List.mem_filter.mpr ⟨List.mem_of_getElem? (i := 917) (by decide +kernel), by decide +kernel⟩
theorem wq_916 : Cond.instanceMethod yX4_floorAreaShare ∈ po_TB := List.mem_filter.mpr ⟨List.mem_of_getElem? (i := 916) (by decide +kernel), by decide +kernel⟩
theorem mv_X4_floorAreaShare : po_MV yX4_floorAreaShare cX4_floorAreaShare 5 (some .int) 3 := ⟨wq_917, wq_916, wq_92, by decide +kernel⟩
theorem wq_914 : Cond.methodLink RX4 67 yX4_floorAreaShare ∈ po_TB := List.mem_filter.mpr ⟨List.mem_of_getElem? (i := 914) (by decide +kernel), by decide +kernel⟩
theorem wp_23 : Cond.selects RX4 yX4_floorAreaShare yX4_floorAreaShare ∈ po_TB := List.mem_filter.mpr ⟨List.mem_of_getElem? (i := 23) (by decide +kernel), by decide +kernel⟩
theorem ws_X4_floorAreaShare : Cond.selects yX4_floorAreaShare.cls yX4_floorAreaShare yX4_floorAreaShare ∈ po_TB := wp_23
theorem wn_138 : Cond.fieldLinkNest RX4 70 "PermitOffice$Permit" "use" "I" "PermitOffice" ∈ po_NW := List.mem_filter.mpr ⟨List.mem_of_getElem? (i := 138) (by decide +kernel), by decide +kernel⟩
theorem fl_X4_70 : po_FL RX4 70 2 1 := ⟨_, rfl, by decide, rfl, Or.inr ⟨_, wn_138⟩⟩
theorem wn_146 : Cond.fieldLinkNest RX4 73 "PermitOffice$Permit" "parking" "I" "PermitOffice" ∈ po_NW := List.mem_filter.mpr ⟨List.mem_of_getElem? (i := 146) (by decide +kernel), by decide +kernel⟩
theorem fl_X4_73 : po_FL RX4 73 2 3 := ⟨_, rfl, by decide, rfl, Or.inr ⟨_, wn_146⟩⟩
theorem wq_934 : Cond.methodLink RX4 188 Lib.Math.max.name ∈ po_TB := List.mem_filter.mpr ⟨List.mem_of_getElem? (i := 934) (by decide +kernel), by decide +kernel⟩
theorem wq_926 : Cond.code yX4_isFinding cX4_isFinding 3 (some .boolean) ∈ po_TB := List.mem_filter.mpr ⟨List.mem_of_getElem? (i := 926) (by decide +kernel), by decide +kernel⟩
theorem wq_925 : Cond.static yX4_isFinding ∈ po_TB := List.mem_filter.mpr ⟨List.mem_of_getElem? (i := 925) (by decide +kernel), by decide +kernel⟩
theorem mv_X4_isFinding : po_MS yX4_isFinding cX4_isFinding 3 (some .boolean) 3 := ⟨wq_926, wq_925, wq_92, by decide +kernel⟩
theorem wq_924 : Cond.methodLink RX4 94 yX4_isFinding ∈ po_TB := List.mem_filter.mpr ⟨List.mem_of_getElem? (i := 924) (by decide +kernel), by decide +kernel⟩
theorem wn_240 : Cond.fieldLinkNest RX4 124 "PermitOffice$Variance" "amount" "I" "PermitOffice" ∈ po_NW := List.mem_filter.mpr ⟨List.mem_of_getElem? (i := 240) (by decide +kernel), by decide +kernel⟩
theorem fl_X4_124 : po_FL RX4 124 6 2 := ⟨_, rfl, by decide, rfl, Or.inr ⟨_, wn_240⟩⟩
theorem wq_933 : Cond.code yX4_helps cX4_helps 4 (some .boolean) ∈ po_TB := List.mem_filter.mpr ⟨List.mem_of_getElem? (i := 933) (by decide +kernel), by decide +kernel⟩
theorem wq_932 : Cond.static yX4_helps ∈ po_TB := List.mem_filter.mpr ⟨List.mem_of_getElem? (i := 932) (by decide +kernel), by decide +kernel⟩
theorem mv_X4_helps : po_MS yX4_helps cX4_helps 4 (some .boolean) 4 := ⟨wq_933, wq_932, wq_92, by decide +kernel⟩
theorem wq_931 : Cond.methodLink RX4 127 yX4_helps ∈ po_TB := List.mem_filter.mpr ⟨List.mem_of_getElem? (i := 931) (by decide +kernel), by decide +kernel⟩
theorem wn_277 : Cond.fieldLinkNest RX4 104 "PermitOffice$Town" "varianceCount" "I" "PermitOffice" ∈ po_NW := List.mem_filter.mpr ⟨List.mem_of_getElem? (i := 277) (by decide +kernel), by decide +kernel⟩
theorem fl_X4_104 : po_FL RX4 104 5 7 := ⟨_, rfl, by decide, rfl, Or.inr ⟨_, wn_277⟩⟩
theorem wn_273 : Cond.fieldLinkNest RX4 107 "PermitOffice$Town" "variances" "[LPermitOffice$Variance;" "PermitOffice" ∈ po_NW := List.mem_filter.mpr ⟨List.mem_of_getElem? (i := 273) (by decide +kernel), by decide +kernel⟩
theorem fl_X4_107 : po_FL RX4 107 5 6 := ⟨_, rfl, by decide, rfl, Or.inr ⟨_, wn_273⟩⟩
theorem wn_232 : Cond.fieldLinkNest RX4 111 "PermitOffice$Variance" "lot" "I" "PermitOffice" ∈ po_NW := List.mem_filter.mpr ⟨List.mem_of_getElem? (i := 232) (by decide +kernel), by decide +kernel⟩
theorem fl_X4_111 : po_FL RX4 111 6 0 := ⟨_, rfl, by decide, rfl, Or.inr ⟨_, wn_232⟩⟩
theorem wn_236 : Cond.fieldLinkNest RX4 114 "PermitOffice$Variance" "kind" "I" "PermitOffice" ∈ po_NW := List.mem_filter.mpr ⟨List.mem_of_getElem? (i := 236) (by decide +kernel), by decide +kernel⟩
theorem fl_X4_114 : po_FL RX4 114 6 1 := ⟨_, rfl, by decide, rfl, Or.inr ⟨_, wn_236⟩⟩
theorem wn_256 : Cond.fieldLinkNest RX4 117 "PermitOffice$Town" "day" "I" "PermitOffice" ∈ po_NW := List.mem_filter.mpr ⟨List.mem_of_getElem? (i := 256) (by decide +kernel), by decide +kernel⟩
theorem fl_X4_117 : po_FL RX4 117 5 0 := ⟨_, rfl, by decide, rfl, Or.inr ⟨_, wn_256⟩⟩
theorem wq_930 : Cond.code yX6_isInForce cX6_isInForce 2 (some .boolean) ∈ po_TB := List.mem_filter.mpr ⟨List.mem_of_getElem? (i := 930) (by decide +kernel), by decide +kernel⟩
theorem wq_928 : Cond.instanceMethod yX6_isInForce ∈ po_TB := List.mem_filter.mpr ⟨List.mem_of_getElem? (i := 928) (by decide +kernel), by decide +kernel⟩
theorem mv_X6_isInForce : po_MV yX6_isInForce cX6_isInForce 2 (some .boolean) 1 := ⟨wq_930, wq_928, wq_97, by decide +kernel⟩
theorem wq_927 : Cond.methodLink RX4 120 yX6_isInForce ∈ po_TB := List.mem_filter.mpr ⟨List.mem_of_getElem? (i := 927) (by decide +kernel), by decide +kernel⟩
theorem wq_929 : Cond.selects RX6 yX6_isInForce yX6_isInForce ∈ po_TB := List.mem_filter.mpr ⟨List.mem_of_getElem? (i := 929) (by decide +kernel), by decide +kernel⟩
theorem ws_X6_isInForce : Cond.selects yX6_isInForce.cls yX6_isInForce yX6_isInForce ∈ po_TB := wq_929
theorem wq_889 : Cond.code yX4_measureOf cX4_measureOf 5 (some .int) ∈ po_TB := List.mem_filter.mpr ⟨List.mem_of_getElem? (i := 889) (by decide +kernel), by decide +kernel⟩
theorem wq_887 : Cond.instanceMethod yX4_measureOf ∈ po_TB := List.mem_filter.mpr ⟨List.mem_of_getElem? (i := 887) (by decide +kernel), by decide +kernel⟩
theorem mv_X4_measureOf : po_MV yX4_measureOf cX4_measureOf 5 (some .int) 3 := ⟨wq_889, wq_887, wq_92, by decide +kernel⟩
theorem wq_886 : Cond.methodLink RX4 87 yX4_measureOf ∈ po_TB := List.mem_filter.mpr ⟨List.mem_of_getElem? (i := 886) (by decide +kernel), by decide +kernel⟩
theorem wq_888 : Cond.selects RX4 yX4_measureOf yX4_measureOf ∈ po_TB := List.mem_filter.mpr ⟨List.mem_of_getElem? (i := 888) (by decide +kernel), by decide +kernel⟩
theorem ws_X4_measureOf : Cond.selects yX4_measureOf.cls yX4_measureOf yX4_measureOf ∈ po_TB := wq_888
theorem wq_923 : Cond.code yX4_limitOf cX4_limitOf 4 (some .int) ∈ po_TB := List.mem_filter.mpr ⟨List.mem_of_getElem? (i := 923) (by decide +kernel), by decide +kernel⟩
theorem wq_921 : Cond.instanceMethod yX4_limitOf ∈ po_TB := List.mem_filter.mpr ⟨List.mem_of_getElem? (i := 921) (by decide +kernel), by decide +kernel⟩
theorem mv_X4_limitOf : po_MV yX4_limitOf cX4_limitOf 4 (some .int) 3 := ⟨wq_923, wq_921, wq_92, by decide +kernel⟩
theorem wq_920 : Cond.methodLink RX4 91 yX4_limitOf ∈ po_TB := List.mem_filter.mpr ⟨List.mem_of_getElem? (i := 920) (by decide +kernel), by decide +kernel⟩
theorem wq_922 : Cond.selects RX4 yX4_limitOf yX4_limitOf ∈ po_TB := List.mem_filter.mpr ⟨List.mem_of_getElem? (i := 922) (by decide +kernel), by decide +kernel⟩
theorem ws_X4_limitOf : Cond.selects yX4_limitOf.cls yX4_limitOf yX4_limitOf ∈ po_TB := wq_922
theorem wq_885 : Cond.code yX4_usedVariance cX4_usedVariance 11 (some .int) ∈ po_TB := List.mem_filter.mpr ⟨List.mem_of_getElem? (i := 885) (by decide +kernel), by decide +kernel⟩
theorem wq_883 : Cond.instanceMethod yX4_usedVariance ∈ po_TB := List.mem_filter.mpr ⟨List.mem_of_getElem? (i := 883) (by decide +kernel), by decide +kernel⟩
theorem mv_X4_usedVariance : po_MV yX4_usedVariance cX4_usedVariance 11 (some .int) 3 := ⟨wq_885, wq_883, wq_92, by decide +kernel⟩
theorem wq_882 : Cond.methodLink RX4 98 yX4_usedVariance ∈ po_TB := List.mem_filter.mpr ⟨List.mem_of_getElem? (i := 882) (by decide +kernel), by decide +kernel⟩
theorem wq_884 : Cond.selects RX4 yX4_usedVariance yX4_usedVariance ∈ po_TB := List.mem_filter.mpr ⟨List.mem_of_getElem? (i := 884) (by decide +kernel), by decide +kernel⟩
theorem ws_X4_usedVariance : Cond.selects yX4_usedVariance.cls yX4_usedVariance yX4_usedVariance ∈ po_TB := wq_884
theorem wq_938 : Cond.code yX4_findingSet cX4_findingSet 5 (some .int) ∈ po_TB := List.mem_filter.mpr ⟨List.mem_of_getElem? (i := 938) (by decide +kernel), by decide +kernel⟩
theorem wq_936 : Cond.instanceMethod yX4_findingSet ∈ po_TB := List.mem_filter.mpr ⟨List.mem_of_getElem? (i := 936) (by decide +kernel), by decide +kernel⟩
theorem mv_X4_findingSet : po_MV yX4_findingSet cX4_findingSet 5 (some .int) 2 := ⟨wq_938, wq_936, wq_92, by decide +kernel⟩
theorem wq_935 : Cond.methodLink RX7 195 yX4_findingSet ∈ po_TB := List.mem_filter.mpr ⟨List.mem_of_getElem? (i := 935) (by decide +kernel), by decide +kernel⟩
theorem wq_937 : Cond.selects RX4 yX4_findingSet yX4_findingSet ∈ po_TB := List.mem_filter.mpr ⟨List.mem_of_getElem? (i := 937) (by decide +kernel), by decide +kernel⟩
theorem ws_X4_findingSet : Cond.selects yX4_findingSet.cls yX4_findingSet yX4_findingSet ∈ po_TB := wq_937
theorem wq_881 : Cond.code yX4_relievedSet cX4_relievedSet 5 (some .int) ∈ po_TB := List.mem_filter.mpr ⟨List.mem_of_getElem? (i := 881) (by decide +kernel), by decide +kernel⟩
theorem wq_879 : Cond.instanceMethod yX4_relievedSet ∈ po_TB := List.mem_filter.mpr ⟨List.mem_of_getElem? (i := 879) (by decide +kernel), by decide +kernel⟩
theorem mv_X4_relievedSet : po_MV yX4_relievedSet cX4_relievedSet 5 (some .int) 2 := ⟨wq_881, wq_879, wq_92, by decide +kernel⟩
theorem wq_878 : Cond.methodLink RX7 191 yX4_relievedSet ∈ po_TB := List.mem_filter.mpr ⟨List.mem_of_getElem? (i := 878) (by decide +kernel), by decide +kernel⟩
theorem wq_880 : Cond.selects RX4 yX4_relievedSet yX4_relievedSet ∈ po_TB := List.mem_filter.mpr ⟨List.mem_of_getElem? (i := 880) (by decide +kernel), by decide +kernel⟩
theorem ws_X4_relievedSet : Cond.selects yX4_relievedSet.cls yX4_relievedSet yX4_relievedSet ∈ po_TB := wq_880
theorem tw_X7_198_52 : po_TW RX7 "java/lang/IllegalArgumentException" "no such kind of findings" ["java/lang/RuntimeException", "java/lang/Exception"] 48 198 52 := ⟨by decide +kernel, by decide +kernel, wq_454, wq_102, List.mem_of_getElem? (i := 11) (by decide +kernel), ta_X7_52.1, fun w hw => by
  rcases List.mem_cons.mp hw with rfl | hw
  · decide +kernel
  · rcases List.mem_cons.mp hw with rfl | hw
    · decide +kernel
    · exact ta_X7_52.2 w hw⟩
theorem wq_947 : Cond.methodLink RX7 200 yX4_measureOf ∈ po_TB := List.mem_filter.mpr ⟨List.mem_of_getElem? (i := 947) (by decide +kernel), by decide +kernel⟩
theorem wq_948 : Cond.methodLink RX7 204 yX4_limitOf ∈ po_TB := List.mem_filter.mpr ⟨List.mem_of_getElem? (i := 948) (by decide +kernel), by decide +kernel⟩
theorem wq_949 : Cond.methodLink RX7 207 yX4_usedVariance ∈ po_TB := List.mem_filter.mpr ⟨List.mem_of_getElem? (i := 949) (by decide +kernel), by decide +kernel⟩
theorem tw_X7_210_52 : po_TW RX7 "java/lang/IllegalArgumentException" "no such number about a finding" ["java/lang/RuntimeException", "java/lang/Exception"] 48 210 52 := ⟨by decide +kernel, by decide +kernel, wq_454, wq_102, List.mem_of_getElem? (i := 12) (by decide +kernel), ta_X7_52.1, fun w hw => by
  rcases List.mem_cons.mp hw with rfl | hw
  · decide +kernel
  · rcases List.mem_cons.mp hw with rfl | hw
    · decide +kernel
    · exact ta_X7_52.2 w hw⟩
theorem wq_964 : Cond.methodLink RX4 101 yX4_findingSet ∈ po_TB := List.mem_filter.mpr ⟨List.mem_of_getElem? (i := 964) (by decide +kernel), by decide +kernel⟩
theorem wq_966 : Cond.classLink RX7 232 "java/util/NoSuchElementException" ∈ po_TB := List.mem_filter.mpr ⟨List.mem_of_getElem? (i := 966) (by decide +kernel), by decide +kernel⟩
theorem wq_110 : Cond.initialized "java/util/NoSuchElementException" ∈ po_TB := List.mem_filter.mpr ⟨List.mem_of_getElem? (i := 110) (by decide +kernel), by decide +kernel⟩
set_option maxRecDepth 20000 in
theorem tx_X7_236 : (∀ w ∈ (po_ownX RX7 236 "java/util/NoSuchElementException" 13 prog_24_method_4_code "java/lang/RuntimeException" ["java/lang/Exception"]).filter vx_no, w ∈ po_TB ∨ w ∈ po_NW) ∧ (∀ w ∈ (po_ownX RX7 236 "java/util/NoSuchElementException" 13 prog_24_method_4_code "java/lang/RuntimeException" ["java/lang/Exception"]).filter vx_no, vx_ot w = true) := by decide +kernel
theorem tw_X7_234_236 : po_TX RX7 "java/util/NoSuchElementException" "no permit that stands has a finding that is not relieved" "java/lang/RuntimeException" ["java/lang/Exception"] 232 234 236 13 prog_24_method_4_code := ⟨by decide +kernel, by decide +kernel, wq_966, wq_110, List.mem_of_getElem? (i := 13) (by decide +kernel), tx_X7_236.1, fun w hw => by
  rcases List.mem_cons.mp hw with rfl | hw
  · decide +kernel
  · rcases List.mem_cons.mp hw with rfl | hw
    · decide +kernel
    · exact tx_X7_236.2 w hw, by decide +kernel, by decide +kernel, by decide +kernel, by decide +kernel⟩
theorem wq_959 : Cond.methodLink RX7 219 yX2_stands ∈ po_TB := List.mem_filter.mpr ⟨List.mem_of_getElem? (i := 959) (by decide +kernel), by decide +kernel⟩
theorem wq_963 : Cond.code yX4_unrelievedSet cX4_unrelievedSet 5 (some .int) ∈ po_TB := List.mem_filter.mpr ⟨List.mem_of_getElem? (i := 963) (by decide +kernel), by decide +kernel⟩
theorem wq_961 : Cond.instanceMethod yX4_unrelievedSet ∈ po_TB := List.mem_filter.mpr ⟨List.mem_of_getElem? (i := 961) (by decide +kernel), by decide +kernel⟩
theorem mv_X4_unrelievedSet : po_MV yX4_unrelievedSet cX4_unrelievedSet 5 (some .int) 2 := ⟨wq_963, wq_961, wq_92, by decide +kernel⟩
theorem wq_960 : Cond.methodLink RX7 223 yX4_unrelievedSet ∈ po_TB := List.mem_filter.mpr ⟨List.mem_of_getElem? (i := 960) (by decide +kernel), by decide +kernel⟩
theorem wq_962 : Cond.selects RX4 yX4_unrelievedSet yX4_unrelievedSet ∈ po_TB := List.mem_filter.mpr ⟨List.mem_of_getElem? (i := 962) (by decide +kernel), by decide +kernel⟩
theorem ws_X4_unrelievedSet : Cond.selects yX4_unrelievedSet.cls yX4_unrelievedSet yX4_unrelievedSet ∈ po_TB := wq_962
theorem wq_965 : Cond.methodLink RX7 226 yJ6_bitCount_0f7a4 ∈ po_TB := List.mem_filter.mpr ⟨List.mem_of_getElem? (i := 965) (by decide +kernel), by decide +kernel⟩
theorem wq_1005 : Cond.methodLink RX2 98 yX2_applyFee ∈ po_TB := List.mem_filter.mpr ⟨List.mem_of_getElem? (i := 1005) (by decide +kernel), by decide +kernel⟩
theorem wq_1000 : Cond.code yX7_lowestKind cX7_lowestKind 2 (some .int) ∈ po_TB := List.mem_filter.mpr ⟨List.mem_of_getElem? (i := 1000) (by decide +kernel), by decide +kernel⟩
theorem wq_999 : Cond.static yX7_lowestKind ∈ po_TB := List.mem_filter.mpr ⟨List.mem_of_getElem? (i := 999) (by decide +kernel), by decide +kernel⟩
theorem mv_X7_lowestKind : po_MS yX7_lowestKind cX7_lowestKind 2 (some .int) 1 := ⟨wq_1000, wq_999, wq_90, by decide +kernel⟩
theorem wq_998 : Cond.methodLink RX7 249 yX7_lowestKind ∈ po_TB := List.mem_filter.mpr ⟨List.mem_of_getElem? (i := 998) (by decide +kernel), by decide +kernel⟩
theorem wq_1004 : Cond.code yX2_becomeRefused cX2_becomeRefused 2 none ∈ po_TB := List.mem_filter.mpr ⟨List.mem_of_getElem? (i := 1004) (by decide +kernel), by decide +kernel⟩
theorem wq_1002 : Cond.instanceMethod yX2_becomeRefused ∈ po_TB := List.mem_filter.mpr ⟨List.mem_of_getElem? (i := 1002) (by decide +kernel), by decide +kernel⟩
theorem mv_X2_becomeRefused : po_MV yX2_becomeRefused cX2_becomeRefused 2 none 1 := ⟨wq_1004, wq_1002, wq_96, by decide +kernel⟩
theorem wq_1001 : Cond.methodLink RX7 252 yX2_becomeRefused ∈ po_TB := List.mem_filter.mpr ⟨List.mem_of_getElem? (i := 1001) (by decide +kernel), by decide +kernel⟩
theorem wq_1003 : Cond.selects RX2 yX2_becomeRefused yX2_becomeRefused ∈ po_TB := List.mem_filter.mpr ⟨List.mem_of_getElem? (i := 1003) (by decide +kernel), by decide +kernel⟩
theorem ws_X2_becomeRefused : Cond.selects yX2_becomeRefused.cls yX2_becomeRefused yX2_becomeRefused ∈ po_TB := wq_1003
theorem wn_257 : Cond.fieldLinkNest RX7 239 "PermitOffice$Town" "day" "I" "PermitOffice" ∈ po_NW := List.mem_filter.mpr ⟨List.mem_of_getElem? (i := 257) (by decide +kernel), by decide +kernel⟩
theorem fl_X7_239 : po_FL RX7 239 5 0 := ⟨_, rfl, by decide, rfl, Or.inr ⟨_, wn_257⟩⟩
theorem wq_993 : Cond.code yX4_usedVariances cX4_usedVariances 6 (some .int) ∈ po_TB := List.mem_filter.mpr ⟨List.mem_of_getElem? (i := 993) (by decide +kernel), by decide +kernel⟩
theorem wq_991 : Cond.instanceMethod yX4_usedVariances ∈ po_TB := List.mem_filter.mpr ⟨List.mem_of_getElem? (i := 991) (by decide +kernel), by decide +kernel⟩
theorem mv_X4_usedVariances : po_MV yX4_usedVariances cX4_usedVariances 6 (some .int) 2 := ⟨wq_993, wq_991, wq_92, by decide +kernel⟩
theorem wq_990 : Cond.methodLink RX7 242 yX4_usedVariances ∈ po_TB := List.mem_filter.mpr ⟨List.mem_of_getElem? (i := 990) (by decide +kernel), by decide +kernel⟩
theorem wq_992 : Cond.selects RX4 yX4_usedVariances yX4_usedVariances ∈ po_TB := List.mem_filter.mpr ⟨List.mem_of_getElem? (i := 992) (by decide +kernel), by decide +kernel⟩
theorem ws_X4_usedVariances : Cond.selects yX4_usedVariances.cls yX4_usedVariances yX4_usedVariances ∈ po_TB := wq_992
theorem wq_997 : Cond.code yX2_becomeIssued cX2_becomeIssued 3 none ∈ po_TB := List.mem_filter.mpr ⟨List.mem_of_getElem? (i := 997) (by decide +kernel), by decide +kernel⟩
theorem wq_995 : Cond.instanceMethod yX2_becomeIssued ∈ po_TB := List.mem_filter.mpr ⟨List.mem_of_getElem? (i := 995) (by decide +kernel), by decide +kernel⟩
theorem mv_X2_becomeIssued : po_MV yX2_becomeIssued cX2_becomeIssued 3 none 2 := ⟨wq_997, wq_995, wq_96, by decide +kernel⟩
theorem wq_994 : Cond.methodLink RX7 245 yX2_becomeIssued ∈ po_TB := List.mem_filter.mpr ⟨List.mem_of_getElem? (i := 994) (by decide +kernel), by decide +kernel⟩
theorem wq_996 : Cond.selects RX2 yX2_becomeIssued yX2_becomeIssued ∈ po_TB := List.mem_filter.mpr ⟨List.mem_of_getElem? (i := 996) (by decide +kernel), by decide +kernel⟩
theorem ws_X2_becomeIssued : Cond.selects yX2_becomeIssued.cls yX2_becomeIssued yX2_becomeIssued ∈ po_TB := wq_996
theorem tw_X7_237_62 : po_TW RX7 "java/lang/IllegalStateException" "the permit is not applied for" ["java/lang/RuntimeException", "java/lang/Exception"] 58 237 62 := ⟨by decide +kernel, by decide +kernel, wq_525, wq_103, List.mem_of_getElem? (i := 14) (by decide +kernel), ta_X7_62.1, fun w hw => by
  rcases List.mem_cons.mp hw with rfl | hw
  · decide +kernel
  · rcases List.mem_cons.mp hw with rfl | hw
    · decide +kernel
    · exact ta_X7_62.2 w hw⟩
theorem wn_160 : Cond.fieldLinkNest RX7 258 "PermitOffice$Permit" "refusedFor" "I" "PermitOffice" ∈ po_NW := List.mem_filter.mpr ⟨List.mem_of_getElem? (i := 160) (by decide +kernel), by decide +kernel⟩
theorem fl_X7_258 : po_FL RX7 258 2 7 := ⟨_, rfl, by decide, rfl, Or.inr ⟨_, wn_160⟩⟩
theorem tw_X7_256_236 : po_TX RX7 "java/util/NoSuchElementException" "the permit was not refused" "java/lang/RuntimeException" ["java/lang/Exception"] 232 256 236 13 prog_24_method_4_code := ⟨by decide +kernel, by decide +kernel, wq_966, wq_110, List.mem_of_getElem? (i := 15) (by decide +kernel), tx_X7_236.1, fun w hw => by
  rcases List.mem_cons.mp hw with rfl | hw
  · decide +kernel
  · rcases List.mem_cons.mp hw with rfl | hw
    · decide +kernel
    · exact tx_X7_236.2 w hw, by decide +kernel, by decide +kernel, by decide +kernel, by decide +kernel⟩
theorem wn_176 : Cond.fieldLinkNest RX7 263 "PermitOffice$Permit" "givenBack" "I" "PermitOffice" ∈ po_NW := List.mem_filter.mpr ⟨List.mem_of_getElem? (i := 176) (by decide +kernel), by decide +kernel⟩
theorem fl_X7_263 : po_FL RX7 263 2 14 := ⟨_, rfl, by decide, rfl, Or.inr ⟨_, wn_176⟩⟩
theorem tw_X7_261_62 : po_TW RX7 "java/lang/IllegalStateException" "the permit is neither issued nor suspended" ["java/lang/RuntimeException", "java/lang/Exception"] 58 261 62 := ⟨by decide +kernel, by decide +kernel, wq_525, wq_103, List.mem_of_getElem? (i := 16) (by decide +kernel), ta_X7_62.1, fun w hw => by
  rcases List.mem_cons.mp hw with rfl | hw
  · decide +kernel
  · rcases List.mem_cons.mp hw with rfl | hw
    · decide +kernel
    · exact ta_X7_62.2 w hw⟩
theorem wq_1038 : Cond.constant RX2 106 2000000 ∈ po_TB := List.mem_filter.mpr ⟨List.mem_of_getElem? (i := 1038) (by decide +kernel), by decide +kernel⟩
theorem wq_1037 : Cond.constant RX2 105 1000000 ∈ po_TB := List.mem_filter.mpr ⟨List.mem_of_getElem? (i := 1037) (by decide +kernel), by decide +kernel⟩
theorem wq_1039 : Cond.constant RX2 107 3000000 ∈ po_TB := List.mem_filter.mpr ⟨List.mem_of_getElem? (i := 1039) (by decide +kernel), by decide +kernel⟩
theorem wq_1036 : Cond.code yX2_urgency cX2_urgency 1 (some .int) ∈ po_TB := List.mem_filter.mpr ⟨List.mem_of_getElem? (i := 1036) (by decide +kernel), by decide +kernel⟩
theorem wq_1034 : Cond.instanceMethod yX2_urgency ∈ po_TB := List.mem_filter.mpr ⟨List.mem_of_getElem? (i := 1034) (by decide +kernel), by decide +kernel⟩
theorem mv_X2_urgency : po_MV yX2_urgency cX2_urgency 1 (some .int) 0 := ⟨wq_1036, wq_1034, wq_96, by decide +kernel⟩
theorem wq_1033 : Cond.methodLink RX5 127 yX2_urgency ∈ po_TB := List.mem_filter.mpr ⟨List.mem_of_getElem? (i := 1033) (by decide +kernel), by decide +kernel⟩
theorem wq_1035 : Cond.selects RX2 yX2_urgency yX2_urgency ∈ po_TB := List.mem_filter.mpr ⟨List.mem_of_getElem? (i := 1035) (by decide +kernel), by decide +kernel⟩
theorem ws_X2_urgency : Cond.selects yX2_urgency.cls yX2_urgency yX2_urgency ∈ po_TB := wq_1035
theorem wq_1040 : Cond.constant RX5 130 3000000 ∈ po_TB := List.mem_filter.mpr ⟨List.mem_of_getElem? (i := 1040) (by decide +kernel), by decide +kernel⟩
theorem wq_1044 : Cond.code yX5_permitsBefore cX5_permitsBefore 6 (some .int) ∈ po_TB := List.mem_filter.mpr ⟨List.mem_of_getElem? (i := 1044) (by decide +kernel), by decide +kernel⟩
theorem wq_1043 : Cond.instanceMethod yX5_permitsBefore ∈ po_TB := List.mem_filter.mpr ⟨List.mem_of_getElem? (i := 1043) (by decide +kernel), by decide +kernel⟩
theorem mv_X5_permitsBefore : po_MV yX5_permitsBefore cX5_permitsBefore 6 (some .int) 1 := ⟨wq_1044, wq_1043, wq_94, by decide +kernel⟩
theorem wq_1041 : Cond.methodLink RX5 131 yX5_permitsBefore ∈ po_TB := List.mem_filter.mpr ⟨List.mem_of_getElem? (i := 1041) (by decide +kernel), by decide +kernel⟩
theorem wp_24 : Cond.selects RX5 yX5_permitsBefore yX5_permitsBefore ∈ po_TB := List.mem_filter.mpr ⟨List.mem_of_getElem? (i := 24) (by decide +kernel), by decide +kernel⟩
theorem ws_X5_permitsBefore : Cond.selects yX5_permitsBefore.cls yX5_permitsBefore yX5_permitsBefore ∈ po_TB := wp_24
theorem wq_1032 : Cond.code yX5_permitInUrgency cX5_permitInUrgency 3 (some .int) ∈ po_TB := List.mem_filter.mpr ⟨List.mem_of_getElem? (i := 1032) (by decide +kernel), by decide +kernel⟩
theorem wq_1030 : Cond.instanceMethod yX5_permitInUrgency ∈ po_TB := List.mem_filter.mpr ⟨List.mem_of_getElem? (i := 1030) (by decide +kernel), by decide +kernel⟩
theorem mv_X5_permitInUrgency : po_MV yX5_permitInUrgency cX5_permitInUrgency 3 (some .int) 1 := ⟨wq_1032, wq_1030, wq_94, by decide +kernel⟩
theorem wq_1029 : Cond.methodLink RX7 266 yX5_permitInUrgency ∈ po_TB := List.mem_filter.mpr ⟨List.mem_of_getElem? (i := 1029) (by decide +kernel), by decide +kernel⟩
theorem wq_1031 : Cond.selects RX5 yX5_permitInUrgency yX5_permitInUrgency ∈ po_TB := List.mem_filter.mpr ⟨List.mem_of_getElem? (i := 1031) (by decide +kernel), by decide +kernel⟩
theorem ws_X5_permitInUrgency : Cond.selects yX5_permitInUrgency.cls yX5_permitInUrgency yX5_permitInUrgency ∈ po_TB := wq_1031
theorem tw_X7_269_236 : po_TX RX7 "java/util/NoSuchElementException" "no such index" "java/lang/RuntimeException" ["java/lang/Exception"] 232 269 236 13 prog_24_method_4_code := ⟨by decide +kernel, by decide +kernel, wq_966, wq_110, List.mem_of_getElem? (i := 17) (by decide +kernel), tx_X7_236.1, fun w hw => by
  rcases List.mem_cons.mp hw with rfl | hw
  · decide +kernel
  · rcases List.mem_cons.mp hw with rfl | hw
    · decide +kernel
    · exact tx_X7_236.2 w hw, by decide +kernel, by decide +kernel, by decide +kernel, by decide +kernel⟩
theorem wn_171 : Cond.fieldLinkNest RX5 124 "PermitOffice$Permit" "named" "I" "PermitOffice" ∈ po_NW := List.mem_filter.mpr ⟨List.mem_of_getElem? (i := 171) (by decide +kernel), by decide +kernel⟩
theorem fl_X5_124 : po_FL RX5 124 2 12 := ⟨_, rfl, by decide, rfl, Or.inr ⟨_, wn_171⟩⟩
theorem tw_X7_274_87 : po_TW RX7 "java/lang/IndexOutOfBoundsException" "no such variance" ["java/lang/RuntimeException", "java/lang/Exception"] 83 274 87 := ⟨by decide +kernel, by decide +kernel, wq_700, wq_107, List.mem_of_getElem? (i := 18) (by decide +kernel), ta_X7_87.1, fun w hw => by
  rcases List.mem_cons.mp hw with rfl | hw
  · decide +kernel
  · rcases List.mem_cons.mp hw with rfl | hw
    · decide +kernel
    · exact ta_X7_87.2 w hw⟩
theorem wn_278 : Cond.fieldLinkNest RX7 271 "PermitOffice$Town" "varianceCount" "I" "PermitOffice" ∈ po_NW := List.mem_filter.mpr ⟨List.mem_of_getElem? (i := 278) (by decide +kernel), by decide +kernel⟩
theorem fl_X7_271 : po_FL RX7 271 5 7 := ⟨_, rfl, by decide, rfl, Or.inr ⟨_, wn_278⟩⟩
theorem wn_274 : Cond.fieldLinkNest RX7 276 "PermitOffice$Town" "variances" "[LPermitOffice$Variance;" "PermitOffice" ∈ po_NW := List.mem_filter.mpr ⟨List.mem_of_getElem? (i := 274) (by decide +kernel), by decide +kernel⟩
theorem fl_X7_276 : po_FL RX7 276 5 6 := ⟨_, rfl, by decide, rfl, Or.inr ⟨_, wn_274⟩⟩
theorem wn_233 : Cond.fieldLinkNest RX7 280 "PermitOffice$Variance" "lot" "I" "PermitOffice" ∈ po_NW := List.mem_filter.mpr ⟨List.mem_of_getElem? (i := 233) (by decide +kernel), by decide +kernel⟩
theorem fl_X7_280 : po_FL RX7 280 6 0 := ⟨_, rfl, by decide, rfl, Or.inr ⟨_, wn_233⟩⟩
theorem wn_237 : Cond.fieldLinkNest RX7 283 "PermitOffice$Variance" "kind" "I" "PermitOffice" ∈ po_NW := List.mem_filter.mpr ⟨List.mem_of_getElem? (i := 237) (by decide +kernel), by decide +kernel⟩
theorem fl_X7_283 : po_FL RX7 283 6 1 := ⟨_, rfl, by decide, rfl, Or.inr ⟨_, wn_237⟩⟩
theorem wn_241 : Cond.fieldLinkNest RX7 286 "PermitOffice$Variance" "amount" "I" "PermitOffice" ∈ po_NW := List.mem_filter.mpr ⟨List.mem_of_getElem? (i := 241) (by decide +kernel), by decide +kernel⟩
theorem fl_X7_286 : po_FL RX7 286 6 2 := ⟨_, rfl, by decide, rfl, Or.inr ⟨_, wn_241⟩⟩
theorem wn_244 : Cond.fieldLinkNest RX7 289 "PermitOffice$Variance" "lastDay" "I" "PermitOffice" ∈ po_NW := List.mem_filter.mpr ⟨List.mem_of_getElem? (i := 244) (by decide +kernel), by decide +kernel⟩
theorem fl_X7_289 : po_FL RX7 289 6 3 := ⟨_, rfl, by decide, rfl, Or.inr ⟨_, wn_244⟩⟩
theorem wq_1057 : Cond.code yX5_permitsNaming cX5_permitsNaming 4 (some .int) ∈ po_TB := List.mem_filter.mpr ⟨List.mem_of_getElem? (i := 1057) (by decide +kernel), by decide +kernel⟩
theorem wq_1055 : Cond.instanceMethod yX5_permitsNaming ∈ po_TB := List.mem_filter.mpr ⟨List.mem_of_getElem? (i := 1055) (by decide +kernel), by decide +kernel⟩
theorem mv_X5_permitsNaming : po_MV yX5_permitsNaming cX5_permitsNaming 4 (some .int) 1 := ⟨wq_1057, wq_1055, wq_94, by decide +kernel⟩
theorem wq_1054 : Cond.methodLink RX7 292 yX5_permitsNaming ∈ po_TB := List.mem_filter.mpr ⟨List.mem_of_getElem? (i := 1054) (by decide +kernel), by decide +kernel⟩
theorem wq_1056 : Cond.selects RX5 yX5_permitsNaming yX5_permitsNaming ∈ po_TB := List.mem_filter.mpr ⟨List.mem_of_getElem? (i := 1056) (by decide +kernel), by decide +kernel⟩
theorem ws_X5_permitsNaming : Cond.selects yX5_permitsNaming.cls yX5_permitsNaming yX5_permitsNaming ∈ po_TB := wq_1056
theorem wq_1058 : Cond.methodLink RX7 295 yX6_isInForce ∈ po_TB := List.mem_filter.mpr ⟨List.mem_of_getElem? (i := 1058) (by decide +kernel), by decide +kernel⟩
theorem tw_X7_299_52 : po_TW RX7 "java/lang/IllegalArgumentException" "no such number about a variance" ["java/lang/RuntimeException", "java/lang/Exception"] 48 299 52 := ⟨by decide +kernel, by decide +kernel, wq_454, wq_102, List.mem_of_getElem? (i := 19) (by decide +kernel), ta_X7_52.1, fun w hw => by
  rcases List.mem_cons.mp hw with rfl | hw
  · decide +kernel
  · rcases List.mem_cons.mp hw with rfl | hw
    · decide +kernel
    · exact ta_X7_52.2 w hw⟩
theorem wq_1072 : Cond.methodLink RX4 131 Lib.Math.abs.name ∈ po_TB := List.mem_filter.mpr ⟨List.mem_of_getElem? (i := 1072) (by decide +kernel), by decide +kernel⟩
theorem wq_1073 : Cond.static Lib.Math.abs.name ∈ po_TB := List.mem_filter.mpr ⟨List.mem_of_getElem? (i := 1073) (by decide +kernel), by decide +kernel⟩
theorem wq_1074 : Cond.code Lib.Math.abs.name Lib.Math.abs.code 1 (some .int) ∈ po_TB := List.mem_filter.mpr ⟨List.mem_of_getElem? (i := 1074) (by decide +kernel), by decide +kernel⟩
theorem tw_X7_301_52 : po_TW RX7 "java/lang/IllegalArgumentException" "no such kind of variances" ["java/lang/RuntimeException", "java/lang/Exception"] 48 301 52 := ⟨by decide +kernel, by decide +kernel, wq_454, wq_102, List.mem_of_getElem? (i := 20) (by decide +kernel), ta_X7_52.1, fun w hw => by
  rcases List.mem_cons.mp hw with rfl | hw
  · decide +kernel
  · rcases List.mem_cons.mp hw with rfl | hw
    · decide +kernel
    · exact ta_X7_52.2 w hw⟩
theorem wq_1071 : Cond.code yX4_neededAmount cX4_neededAmount 7 (some .int) ∈ po_TB := List.mem_filter.mpr ⟨List.mem_of_getElem? (i := 1071) (by decide +kernel), by decide +kernel⟩
theorem wq_1069 : Cond.instanceMethod yX4_neededAmount ∈ po_TB := List.mem_filter.mpr ⟨List.mem_of_getElem? (i := 1069) (by decide +kernel), by decide +kernel⟩
theorem mv_X4_neededAmount : po_MV yX4_neededAmount cX4_neededAmount 7 (some .int) 3 := ⟨wq_1071, wq_1069, wq_92, by decide +kernel⟩
theorem wq_1068 : Cond.methodLink RX7 303 yX4_neededAmount ∈ po_TB := List.mem_filter.mpr ⟨List.mem_of_getElem? (i := 1068) (by decide +kernel), by decide +kernel⟩
theorem wq_1070 : Cond.selects RX4 yX4_neededAmount yX4_neededAmount ∈ po_TB := List.mem_filter.mpr ⟨List.mem_of_getElem? (i := 1070) (by decide +kernel), by decide +kernel⟩
theorem ws_X4_neededAmount : Cond.selects yX4_neededAmount.cls yX4_neededAmount yX4_neededAmount ∈ po_TB := wq_1070
theorem tw_X7_306_87 : po_TW RX7 "java/lang/IndexOutOfBoundsException" "no such condition" ["java/lang/RuntimeException", "java/lang/Exception"] 83 306 87 := ⟨by decide +kernel, by decide +kernel, wq_700, wq_107, List.mem_of_getElem? (i := 21) (by decide +kernel), ta_X7_87.1, fun w hw => by
  rcases List.mem_cons.mp hw with rfl | hw
  · decide +kernel
  · rcases List.mem_cons.mp hw with rfl | hw
    · decide +kernel
    · exact ta_X7_87.2 w hw⟩
theorem wn_183 : Cond.fieldLinkNest RX7 308 "PermitOffice$Permit" "phases" "[I" "PermitOffice" ∈ po_NW := List.mem_filter.mpr ⟨List.mem_of_getElem? (i := 183) (by decide +kernel), by decide +kernel⟩
theorem fl_X7_308 : po_FL RX7 308 2 17 := ⟨_, rfl, by decide, rfl, Or.inr ⟨_, wn_183⟩⟩
theorem wn_185 : Cond.fieldLinkNest RX7 312 "PermitOffice$Permit" "letters" "[I" "PermitOffice" ∈ po_NW := List.mem_filter.mpr ⟨List.mem_of_getElem? (i := 185) (by decide +kernel), by decide +kernel⟩
theorem fl_X7_312 : po_FL RX7 312 2 18 := ⟨_, rfl, by decide, rfl, Or.inr ⟨_, wn_185⟩⟩
theorem wq_1086 : Cond.code yX2_isOpen cX2_isOpen 2 (some .boolean) ∈ po_TB := List.mem_filter.mpr ⟨List.mem_of_getElem? (i := 1086) (by decide +kernel), by decide +kernel⟩
theorem wq_1084 : Cond.instanceMethod yX2_isOpen ∈ po_TB := List.mem_filter.mpr ⟨List.mem_of_getElem? (i := 1084) (by decide +kernel), by decide +kernel⟩
theorem mv_X2_isOpen : po_MV yX2_isOpen cX2_isOpen 2 (some .boolean) 1 := ⟨wq_1086, wq_1084, wq_96, by decide +kernel⟩
theorem wq_1083 : Cond.methodLink RX7 315 yX2_isOpen ∈ po_TB := List.mem_filter.mpr ⟨List.mem_of_getElem? (i := 1083) (by decide +kernel), by decide +kernel⟩
theorem wq_1085 : Cond.selects RX2 yX2_isOpen yX2_isOpen ∈ po_TB := List.mem_filter.mpr ⟨List.mem_of_getElem? (i := 1085) (by decide +kernel), by decide +kernel⟩
theorem ws_X2_isOpen : Cond.selects yX2_isOpen.cls yX2_isOpen yX2_isOpen ∈ po_TB := wq_1085
theorem tw_X7_318_52 : po_TW RX7 "java/lang/IllegalArgumentException" "no such number about a condition" ["java/lang/RuntimeException", "java/lang/Exception"] 48 318 52 := ⟨by decide +kernel, by decide +kernel, wq_454, wq_102, List.mem_of_getElem? (i := 22) (by decide +kernel), ta_X7_52.1, fun w hw => by
  rcases List.mem_cons.mp hw with rfl | hw
  · decide +kernel
  · rcases List.mem_cons.mp hw with rfl | hw
    · decide +kernel
    · exact ta_X7_52.2 w hw⟩
theorem wq_1099 : Cond.methodLink RX2 101 yX2_isOpen ∈ po_TB := List.mem_filter.mpr ⟨List.mem_of_getElem? (i := 1099) (by decide +kernel), by decide +kernel⟩
theorem wq_1098 : Cond.code yX2_openSetWithLetter cX2_openSetWithLetter 4 (some .int) ∈ po_TB := List.mem_filter.mpr ⟨List.mem_of_getElem? (i := 1098) (by decide +kernel), by decide +kernel⟩
theorem wq_1096 : Cond.instanceMethod yX2_openSetWithLetter ∈ po_TB := List.mem_filter.mpr ⟨List.mem_of_getElem? (i := 1096) (by decide +kernel), by decide +kernel⟩
theorem mv_X2_openSetWithLetter : po_MV yX2_openSetWithLetter cX2_openSetWithLetter 4 (some .int) 1 := ⟨wq_1098, wq_1096, wq_96, by decide +kernel⟩
theorem wq_1095 : Cond.methodLink RX7 320 yX2_openSetWithLetter ∈ po_TB := List.mem_filter.mpr ⟨List.mem_of_getElem? (i := 1095) (by decide +kernel), by decide +kernel⟩
theorem wq_1097 : Cond.selects RX2 yX2_openSetWithLetter yX2_openSetWithLetter ∈ po_TB := List.mem_filter.mpr ⟨List.mem_of_getElem? (i := 1097) (by decide +kernel), by decide +kernel⟩
theorem ws_X2_openSetWithLetter : Cond.selects yX2_openSetWithLetter.cls yX2_openSetWithLetter yX2_openSetWithLetter ∈ po_TB := wq_1097
theorem wn_181 : Cond.fieldLinkNest RX7 325 "PermitOffice$Permit" "openSet" "I" "PermitOffice" ∈ po_NW := List.mem_filter.mpr ⟨List.mem_of_getElem? (i := 181) (by decide +kernel), by decide +kernel⟩
theorem fl_X7_325 : po_FL RX7 325 2 16 := ⟨_, rfl, by decide, rfl, Or.inr ⟨_, wn_181⟩⟩
theorem tw_X7_323_236 : po_TX RX7 "java/util/NoSuchElementException" "no open condition with this letter" "java/lang/RuntimeException" ["java/lang/Exception"] 232 323 236 13 prog_24_method_4_code := ⟨by decide +kernel, by decide +kernel, wq_966, wq_110, List.mem_of_getElem? (i := 23) (by decide +kernel), tx_X7_236.1, fun w hw => by
  rcases List.mem_cons.mp hw with rfl | hw
  · decide +kernel
  · rcases List.mem_cons.mp hw with rfl | hw
    · decide +kernel
    · exact tx_X7_236.2 w hw, by decide +kernel, by decide +kernel, by decide +kernel, by decide +kernel⟩
theorem wq_1120 : Cond.code yX2_failPhase cX2_failPhase 1 none ∈ po_TB := List.mem_filter.mpr ⟨List.mem_of_getElem? (i := 1120) (by decide +kernel), by decide +kernel⟩
theorem wq_1118 : Cond.instanceMethod yX2_failPhase ∈ po_TB := List.mem_filter.mpr ⟨List.mem_of_getElem? (i := 1118) (by decide +kernel), by decide +kernel⟩
theorem mv_X2_failPhase : po_MV yX2_failPhase cX2_failPhase 1 none 0 := ⟨wq_1120, wq_1118, wq_96, by decide +kernel⟩
theorem wq_1117 : Cond.methodLink RX7 339 yX2_failPhase ∈ po_TB := List.mem_filter.mpr ⟨List.mem_of_getElem? (i := 1117) (by decide +kernel), by decide +kernel⟩
theorem wq_1119 : Cond.selects RX2 yX2_failPhase yX2_failPhase ∈ po_TB := List.mem_filter.mpr ⟨List.mem_of_getElem? (i := 1119) (by decide +kernel), by decide +kernel⟩
theorem ws_X2_failPhase : Cond.selects yX2_failPhase.cls yX2_failPhase yX2_failPhase ∈ po_TB := wq_1119
theorem wq_1116 : Cond.code yX2_passPhase cX2_passPhase 2 none ∈ po_TB := List.mem_filter.mpr ⟨List.mem_of_getElem? (i := 1116) (by decide +kernel), by decide +kernel⟩
theorem wq_1114 : Cond.instanceMethod yX2_passPhase ∈ po_TB := List.mem_filter.mpr ⟨List.mem_of_getElem? (i := 1114) (by decide +kernel), by decide +kernel⟩
theorem mv_X2_passPhase : po_MV yX2_passPhase cX2_passPhase 2 none 1 := ⟨wq_1116, wq_1114, wq_96, by decide +kernel⟩
theorem wq_1113 : Cond.methodLink RX7 336 yX2_passPhase ∈ po_TB := List.mem_filter.mpr ⟨List.mem_of_getElem? (i := 1113) (by decide +kernel), by decide +kernel⟩
theorem wq_1115 : Cond.selects RX2 yX2_passPhase yX2_passPhase ∈ po_TB := List.mem_filter.mpr ⟨List.mem_of_getElem? (i := 1115) (by decide +kernel), by decide +kernel⟩
theorem ws_X2_passPhase : Cond.selects yX2_passPhase.cls yX2_passPhase yX2_passPhase ∈ po_TB := wq_1115
theorem wq_1112 : Cond.code yX2_hasOpenInPhase cX2_hasOpenInPhase 2 (some .boolean) ∈ po_TB := List.mem_filter.mpr ⟨List.mem_of_getElem? (i := 1112) (by decide +kernel), by decide +kernel⟩
theorem wq_1110 : Cond.instanceMethod yX2_hasOpenInPhase ∈ po_TB := List.mem_filter.mpr ⟨List.mem_of_getElem? (i := 1110) (by decide +kernel), by decide +kernel⟩
theorem mv_X2_hasOpenInPhase : po_MV yX2_hasOpenInPhase cX2_hasOpenInPhase 2 (some .boolean) 0 := ⟨wq_1112, wq_1110, wq_96, by decide +kernel⟩
theorem wq_1109 : Cond.methodLink RX7 333 yX2_hasOpenInPhase ∈ po_TB := List.mem_filter.mpr ⟨List.mem_of_getElem? (i := 1109) (by decide +kernel), by decide +kernel⟩
theorem wq_1111 : Cond.selects RX2 yX2_hasOpenInPhase yX2_hasOpenInPhase ∈ po_TB := List.mem_filter.mpr ⟨List.mem_of_getElem? (i := 1111) (by decide +kernel), by decide +kernel⟩
theorem ws_X2_hasOpenInPhase : Cond.selects yX2_hasOpenInPhase.cls yX2_hasOpenInPhase yX2_hasOpenInPhase ∈ po_TB := wq_1111
theorem wn_174 : Cond.fieldLinkNest RX7 330 "PermitOffice$Permit" "paid" "I" "PermitOffice" ∈ po_NW := List.mem_filter.mpr ⟨List.mem_of_getElem? (i := 174) (by decide +kernel), by decide +kernel⟩
theorem fl_X7_330 : po_FL RX7 330 2 13 := ⟨_, rfl, by decide, rfl, Or.inr ⟨_, wn_174⟩⟩
theorem tw_X7_328_62 : po_TW RX7 "java/lang/IllegalStateException" "the permit is not issued" ["java/lang/RuntimeException", "java/lang/Exception"] 58 328 62 := ⟨by decide +kernel, by decide +kernel, wq_525, wq_103, List.mem_of_getElem? (i := 24) (by decide +kernel), ta_X7_62.1, fun w hw => by
  rcases List.mem_cons.mp hw with rfl | hw
  · decide +kernel
  · rcases List.mem_cons.mp hw with rfl | hw
    · decide +kernel
    · exact ta_X7_62.2 w hw⟩
theorem tw_X7_342_62 : po_TW RX7 "java/lang/IllegalStateException" "the permit is not suspended" ["java/lang/RuntimeException", "java/lang/Exception"] 58 342 62 := ⟨by decide +kernel, by decide +kernel, wq_525, wq_103, List.mem_of_getElem? (i := 25) (by decide +kernel), ta_X7_62.1, fun w hw => by
  rcases List.mem_cons.mp hw with rfl | hw
  · decide +kernel
  · rcases List.mem_cons.mp hw with rfl | hw
    · decide +kernel
    · exact ta_X7_62.2 w hw⟩
theorem tw_X7_347_62 : po_TW RX7 "java/lang/IllegalStateException" "the permit is not issued, or was extended already" ["java/lang/RuntimeException", "java/lang/Exception"] 58 347 62 := ⟨by decide +kernel, by decide +kernel, wq_525, wq_103, List.mem_of_getElem? (i := 26) (by decide +kernel), ta_X7_62.1, fun w hw => by
  rcases List.mem_cons.mp hw with rfl | hw
  · decide +kernel
  · rcases List.mem_cons.mp hw with rfl | hw
    · decide +kernel
    · exact ta_X7_62.2 w hw⟩
theorem wn_168 : Cond.fieldLinkNest RX7 344 "PermitOffice$Permit" "wasExtended" "Z" "PermitOffice" ∈ po_NW := List.mem_filter.mpr ⟨List.mem_of_getElem? (i := 168) (by decide +kernel), by decide +kernel⟩
theorem fl_X7_344 : po_FL RX7 344 2 11 := ⟨_, rfl, by decide, rfl, Or.inr ⟨_, wn_168⟩⟩
theorem tw_X7_349_52 : po_TW RX7 "java/lang/IllegalArgumentException" "the number of days is out of range" ["java/lang/RuntimeException", "java/lang/Exception"] 48 349 52 := ⟨by decide +kernel, by decide +kernel, wq_454, wq_102, List.mem_of_getElem? (i := 27) (by decide +kernel), ta_X7_52.1, fun w hw => by
  rcases List.mem_cons.mp hw with rfl | hw
  · decide +kernel
  · rcases List.mem_cons.mp hw with rfl | hw
    · decide +kernel
    · exact ta_X7_52.2 w hw⟩
theorem tw_X7_353_52 : po_TW RX7 "java/lang/IllegalArgumentException" "no such number about an account" ["java/lang/RuntimeException", "java/lang/Exception"] 48 353 52 := ⟨by decide +kernel, by decide +kernel, wq_454, wq_102, List.mem_of_getElem? (i := 28) (by decide +kernel), ta_X7_52.1, fun w hw => by
  rcases List.mem_cons.mp hw with rfl | hw
  · decide +kernel
  · rcases List.mem_cons.mp hw with rfl | hw
    · decide +kernel
    · exact ta_X7_52.2 w hw⟩
theorem wq_1174 : Cond.classLink RX7 355 "java/lang/ArithmeticException" ∈ po_TB := List.mem_filter.mpr ⟨List.mem_of_getElem? (i := 1174) (by decide +kernel), by decide +kernel⟩
theorem wq_111 : Cond.initialized "java/lang/ArithmeticException" ∈ po_TB := List.mem_filter.mpr ⟨List.mem_of_getElem? (i := 111) (by decide +kernel), by decide +kernel⟩
set_option maxRecDepth 20000 in
theorem ta_X7_359 : (∀ w ∈ vx_atS RX7 359 "java/lang/ArithmeticException" ["java/lang/RuntimeException", "java/lang/Exception"], w ∈ po_TB ∨ w ∈ po_NW) ∧ (∀ w ∈ vx_atS RX7 359 "java/lang/ArithmeticException" ["java/lang/RuntimeException", "java/lang/Exception"], vx_ot w = true) := by decide +kernel
theorem tw_X7_357_359 : po_TW RX7 "java/lang/ArithmeticException" "no permit stands" ["java/lang/RuntimeException", "java/lang/Exception"] 355 357 359 := ⟨by decide +kernel, by decide +kernel, wq_1174, wq_111, List.mem_of_getElem? (i := 29) (by decide +kernel), ta_X7_359.1, fun w hw => by
  rcases List.mem_cons.mp hw with rfl | hw
  · decide +kernel
  · rcases List.mem_cons.mp hw with rfl | hw
    · decide +kernel
    · exact ta_X7_359.2 w hw⟩
theorem wn_158 : Cond.fieldLinkNest RX5 121 "PermitOffice$Permit" "status" "I" "PermitOffice" ∈ po_NW := List.mem_filter.mpr ⟨List.mem_of_getElem? (i := 158) (by decide +kernel), by decide +kernel⟩
theorem fl_X5_121 : po_FL RX5 121 2 6 := ⟨_, rfl, by decide, rfl, Or.inr ⟨_, wn_158⟩⟩
theorem wn_114 : Cond.fieldLinkNest RX5 100 "PermitOffice$Lot" "cells" "I" "PermitOffice" ∈ po_NW := List.mem_filter.mpr ⟨List.mem_of_getElem? (i := 114) (by decide +kernel), by decide +kernel⟩
theorem fl_X5_100 : po_FL RX5 100 1 3 := ⟨_, rfl, by decide, rfl, Or.inr ⟨_, wn_114⟩⟩
theorem tw_X7_369_52 : po_TW RX7 "java/lang/IllegalArgumentException" "no such count" ["java/lang/RuntimeException", "java/lang/Exception"] 48 369 52 := ⟨by decide +kernel, by decide +kernel, wq_454, wq_102, List.mem_of_getElem? (i := 30) (by decide +kernel), ta_X7_52.1, fun w hw => by
  rcases List.mem_cons.mp hw with rfl | hw
  · decide +kernel
  · rcases List.mem_cons.mp hw with rfl | hw
    · decide +kernel
    · exact ta_X7_52.2 w hw⟩
theorem wq_1187 : Cond.code yX5_permitsWith cX5_permitsWith 4 (some .int) ∈ po_TB := List.mem_filter.mpr ⟨List.mem_of_getElem? (i := 1187) (by decide +kernel), by decide +kernel⟩
theorem wq_1185 : Cond.instanceMethod yX5_permitsWith ∈ po_TB := List.mem_filter.mpr ⟨List.mem_of_getElem? (i := 1185) (by decide +kernel), by decide +kernel⟩
theorem mv_X5_permitsWith : po_MV yX5_permitsWith cX5_permitsWith 4 (some .int) 1 := ⟨wq_1187, wq_1185, wq_94, by decide +kernel⟩
theorem wq_1184 : Cond.methodLink RX7 363 yX5_permitsWith ∈ po_TB := List.mem_filter.mpr ⟨List.mem_of_getElem? (i := 1184) (by decide +kernel), by decide +kernel⟩
theorem wq_1186 : Cond.selects RX5 yX5_permitsWith yX5_permitsWith ∈ po_TB := List.mem_filter.mpr ⟨List.mem_of_getElem? (i := 1186) (by decide +kernel), by decide +kernel⟩
theorem ws_X5_permitsWith : Cond.selects yX5_permitsWith.cls yX5_permitsWith yX5_permitsWith ∈ po_TB := wq_1186
theorem wq_1191 : Cond.code yX5_cellsInLots cX5_cellsInLots 3 (some .int) ∈ po_TB := List.mem_filter.mpr ⟨List.mem_of_getElem? (i := 1191) (by decide +kernel), by decide +kernel⟩
theorem wq_1189 : Cond.instanceMethod yX5_cellsInLots ∈ po_TB := List.mem_filter.mpr ⟨List.mem_of_getElem? (i := 1189) (by decide +kernel), by decide +kernel⟩
theorem mv_X5_cellsInLots : po_MV yX5_cellsInLots cX5_cellsInLots 3 (some .int) 0 := ⟨wq_1191, wq_1189, wq_94, by decide +kernel⟩
theorem wq_1188 : Cond.methodLink RX7 366 yX5_cellsInLots ∈ po_TB := List.mem_filter.mpr ⟨List.mem_of_getElem? (i := 1188) (by decide +kernel), by decide +kernel⟩
theorem wq_1190 : Cond.selects RX5 yX5_cellsInLots yX5_cellsInLots ∈ po_TB := List.mem_filter.mpr ⟨List.mem_of_getElem? (i := 1190) (by decide +kernel), by decide +kernel⟩
theorem ws_X5_cellsInLots : Cond.selects yX5_cellsInLots.cls yX5_cellsInLots yX5_cellsInLots ∈ po_TB := wq_1190
theorem tw_X7_371_62 : po_TW RX7 "java/lang/IllegalStateException" "nothing can be undone" ["java/lang/RuntimeException", "java/lang/Exception"] 58 371 62 := ⟨by decide +kernel, by decide +kernel, wq_525, wq_103, List.mem_of_getElem? (i := 31) (by decide +kernel), ta_X7_62.1, fun w hw => by
  rcases List.mem_cons.mp hw with rfl | hw
  · decide +kernel
  · rcases List.mem_cons.mp hw with rfl | hw
    · decide +kernel
    · exact ta_X7_62.2 w hw⟩
theorem wq_390 : Cond.fieldLink RX7 33 "PermitOffice" "snapshot" "LPermitOffice$Town;" ∈ po_TB := List.mem_filter.mpr ⟨List.mem_of_getElem? (i := 390) (by decide +kernel), by decide +kernel⟩
theorem fl_X7_33 : po_FL RX7 33 7 4 := ⟨_, rfl, by decide, rfl, Or.inl wq_390⟩
theorem wq_391 : Cond.fieldLink RX7 36 "PermitOffice" "hasSnapshot" "Z" ∈ po_TB := List.mem_filter.mpr ⟨List.mem_of_getElem? (i := 391) (by decide +kernel), by decide +kernel⟩
theorem fl_X7_36 : po_FL RX7 36 7 5 := ⟨_, rfl, by decide, rfl, Or.inl wq_391⟩
theorem tw_X7_373_62 : po_TW RX7 "java/lang/IllegalStateException" "there is no snapshot" ["java/lang/RuntimeException", "java/lang/Exception"] 58 373 62 := ⟨by decide +kernel, by decide +kernel, wq_525, wq_103, List.mem_of_getElem? (i := 32) (by decide +kernel), ta_X7_62.1, fun w hw => by
  rcases List.mem_cons.mp hw with rfl | hw
  · decide +kernel
  · rcases List.mem_cons.mp hw with rfl | hw
    · decide +kernel
    · exact ta_X7_62.2 w hw⟩
theorem wq_1219 : Cond.fieldLink RX8 1 "PermitOfficeModel" "thrown" "I" ∈ po_TB := List.mem_filter.mpr ⟨List.mem_of_getElem? (i := 1219) (by decide +kernel), by decide +kernel⟩
theorem fl_X8_1 : po_FL RX8 1 8 0 := ⟨_, rfl, by decide, rfl, Or.inl wq_1219⟩
theorem wq_1231 : Cond.fieldLink RX8 160 "PermitOfficeModel" "length" "I" ∈ po_TB := List.mem_filter.mpr ⟨List.mem_of_getElem? (i := 1231) (by decide +kernel), by decide +kernel⟩
theorem fl_X8_160 : po_FL RX8 160 8 12 := ⟨_, rfl, by decide, rfl, Or.inl wq_1231⟩
theorem wq_1230 : Cond.fieldLink RX8 26 "PermitOfficeModel" "buffer" "[I" ∈ po_TB := List.mem_filter.mpr ⟨List.mem_of_getElem? (i := 1230) (by decide +kernel), by decide +kernel⟩
theorem fl_X8_26 : po_FL RX8 26 8 11 := ⟨_, rfl, by decide, rfl, Or.inl wq_1230⟩
theorem wq_1288 : Cond.code yX8_fail cX8_fail 2 (some .int) ∈ po_TB := List.mem_filter.mpr ⟨List.mem_of_getElem? (i := 1288) (by decide +kernel), by decide +kernel⟩
theorem wq_1287 : Cond.instanceMethod yX8_fail ∈ po_TB := List.mem_filter.mpr ⟨List.mem_of_getElem? (i := 1287) (by decide +kernel), by decide +kernel⟩
theorem wq_98 : Cond.initialized RX8 ∈ po_TB := List.mem_filter.mpr ⟨List.mem_of_getElem? (i := 98) (by decide +kernel), by decide +kernel⟩
theorem mv_X8_fail : po_MV yX8_fail cX8_fail 2 (some .int) 1 := ⟨wq_1288, wq_1287, wq_98, by decide +kernel⟩
theorem wq_1285 : Cond.methodLink RX8 163 yX8_fail ∈ po_TB := List.mem_filter.mpr ⟨List.mem_of_getElem? (i := 1285) (by decide +kernel), by decide +kernel⟩
theorem wp_25 : Cond.selects RX8 yX8_fail yX8_fail ∈ po_TB := List.mem_filter.mpr ⟨List.mem_of_getElem? (i := 25) (by decide +kernel), by decide +kernel⟩
theorem ws_X8_fail : Cond.selects yX8_fail.cls yX8_fail yX8_fail ∈ po_TB := wp_25
theorem wq_1284 : Cond.code yX8_isIn cX8_isIn 3 (some .boolean) ∈ po_TB := List.mem_filter.mpr ⟨List.mem_of_getElem? (i := 1284) (by decide +kernel), by decide +kernel⟩
theorem wq_1283 : Cond.static yX8_isIn ∈ po_TB := List.mem_filter.mpr ⟨List.mem_of_getElem? (i := 1283) (by decide +kernel), by decide +kernel⟩
theorem mv_X8_isIn : po_MS yX8_isIn cX8_isIn 3 (some .boolean) 3 := ⟨wq_1284, wq_1283, wq_98, by decide +kernel⟩
theorem wq_1282 : Cond.methodLink RX8 49 yX8_isIn ∈ po_TB := List.mem_filter.mpr ⟨List.mem_of_getElem? (i := 1282) (by decide +kernel), by decide +kernel⟩
theorem wq_1233 : Cond.fieldLink RX8 166 "PermitOfficeModel" "cursor" "I" ∈ po_TB := List.mem_filter.mpr ⟨List.mem_of_getElem? (i := 1233) (by decide +kernel), by decide +kernel⟩
theorem fl_X8_166 : po_FL RX8 166 8 14 := ⟨_, rfl, by decide, rfl, Or.inl wq_1233⟩
theorem wq_1232 : Cond.fieldLink RX8 169 "PermitOfficeModel" "end" "I" ∈ po_TB := List.mem_filter.mpr ⟨List.mem_of_getElem? (i := 1232) (by decide +kernel), by decide +kernel⟩
theorem fl_X8_169 : po_FL RX8 169 8 13 := ⟨_, rfl, by decide, rfl, Or.inl wq_1232⟩
theorem wq_1234 : Cond.fieldLink RX8 29 "PermitOfficeModel" "error" "I" ∈ po_TB := List.mem_filter.mpr ⟨List.mem_of_getElem? (i := 1234) (by decide +kernel), by decide +kernel⟩
theorem fl_X8_29 : po_FL RX8 29 8 15 := ⟨_, rfl, by decide, rfl, Or.inl wq_1234⟩
theorem wq_1307 : Cond.code yX8_faultAt cX8_faultAt 2 none ∈ po_TB := List.mem_filter.mpr ⟨List.mem_of_getElem? (i := 1307) (by decide +kernel), by decide +kernel⟩
theorem wq_1306 : Cond.instanceMethod yX8_faultAt ∈ po_TB := List.mem_filter.mpr ⟨List.mem_of_getElem? (i := 1306) (by decide +kernel), by decide +kernel⟩
theorem mv_X8_faultAt : po_MV yX8_faultAt cX8_faultAt 2 none 1 := ⟨wq_1307, wq_1306, wq_98, by decide +kernel⟩
theorem wq_1304 : Cond.methodLink RX8 176 yX8_faultAt ∈ po_TB := List.mem_filter.mpr ⟨List.mem_of_getElem? (i := 1304) (by decide +kernel), by decide +kernel⟩
theorem wp_28 : Cond.selects RX8 yX8_faultAt yX8_faultAt ∈ po_TB := List.mem_filter.mpr ⟨List.mem_of_getElem? (i := 28) (by decide +kernel), by decide +kernel⟩
theorem ws_X8_faultAt : Cond.selects yX8_faultAt.cls yX8_faultAt yX8_faultAt ∈ po_TB := wp_28
theorem wq_1303 : Cond.code yX8_sign cX8_sign 1 (some .int) ∈ po_TB := List.mem_filter.mpr ⟨List.mem_of_getElem? (i := 1303) (by decide +kernel), by decide +kernel⟩
theorem wq_1302 : Cond.instanceMethod yX8_sign ∈ po_TB := List.mem_filter.mpr ⟨List.mem_of_getElem? (i := 1302) (by decide +kernel), by decide +kernel⟩
theorem mv_X8_sign : po_MV yX8_sign cX8_sign 1 (some .int) 0 := ⟨wq_1303, wq_1302, wq_98, by decide +kernel⟩
theorem wq_1300 : Cond.methodLink RX8 172 yX8_sign ∈ po_TB := List.mem_filter.mpr ⟨List.mem_of_getElem? (i := 1300) (by decide +kernel), by decide +kernel⟩
theorem wp_27 : Cond.selects RX8 yX8_sign yX8_sign ∈ po_TB := List.mem_filter.mpr ⟨List.mem_of_getElem? (i := 27) (by decide +kernel), by decide +kernel⟩
theorem ws_X8_sign : Cond.selects yX8_sign.cls yX8_sign yX8_sign ∈ po_TB := wp_27
theorem wq_1319 : Cond.code yX8_sign_ cX8_sign_ 4 (some .int) ∈ po_TB := List.mem_filter.mpr ⟨List.mem_of_getElem? (i := 1319) (by decide +kernel), by decide +kernel⟩
theorem wq_1318 : Cond.instanceMethod yX8_sign_ ∈ po_TB := List.mem_filter.mpr ⟨List.mem_of_getElem? (i := 1318) (by decide +kernel), by decide +kernel⟩
theorem mv_X8_sign_ : po_MV yX8_sign_ cX8_sign_ 4 (some .int) 2 := ⟨wq_1319, wq_1318, wq_98, by decide +kernel⟩
theorem wq_1316 : Cond.methodLink RX8 180 yX8_sign_ ∈ po_TB := List.mem_filter.mpr ⟨List.mem_of_getElem? (i := 1316) (by decide +kernel), by decide +kernel⟩
theorem wp_31 : Cond.selects RX8 yX8_sign_ yX8_sign_ ∈ po_TB := List.mem_filter.mpr ⟨List.mem_of_getElem? (i := 31) (by decide +kernel), by decide +kernel⟩
theorem ws_X8_sign_ : Cond.selects yX8_sign_.cls yX8_sign_ yX8_sign_ ∈ po_TB := wp_31
theorem wq_1236 : Cond.fieldLink RX8 186 "PermitOfficeModel" "areaMany" "I" ∈ po_TB := List.mem_filter.mpr ⟨List.mem_of_getElem? (i := 1236) (by decide +kernel), by decide +kernel⟩
theorem fl_X8_186 : po_FL RX8 186 8 17 := ⟨_, rfl, by decide, rfl, Or.inl wq_1236⟩
theorem wq_1235 : Cond.fieldLink RX8 32 "PermitOfficeModel" "area" "[I" ∈ po_TB := List.mem_filter.mpr ⟨List.mem_of_getElem? (i := 1235) (by decide +kernel), by decide +kernel⟩
theorem fl_X8_32 : po_FL RX8 32 8 16 := ⟨_, rfl, by decide, rfl, Or.inl wq_1235⟩
theorem wq_1315 : Cond.code yX8_digit cX8_digit 3 (some .int) ∈ po_TB := List.mem_filter.mpr ⟨List.mem_of_getElem? (i := 1315) (by decide +kernel), by decide +kernel⟩
theorem wq_1314 : Cond.instanceMethod yX8_digit ∈ po_TB := List.mem_filter.mpr ⟨List.mem_of_getElem? (i := 1314) (by decide +kernel), by decide +kernel⟩
theorem mv_X8_digit : po_MV yX8_digit cX8_digit 3 (some .int) 2 := ⟨wq_1315, wq_1314, wq_98, by decide +kernel⟩
theorem wq_1312 : Cond.methodLink RX8 183 yX8_digit ∈ po_TB := List.mem_filter.mpr ⟨List.mem_of_getElem? (i := 1312) (by decide +kernel), by decide +kernel⟩
theorem wp_30 : Cond.selects RX8 yX8_digit yX8_digit ∈ po_TB := List.mem_filter.mpr ⟨List.mem_of_getElem? (i := 30) (by decide +kernel), by decide +kernel⟩
theorem ws_X8_digit : Cond.selects yX8_digit.cls yX8_digit yX8_digit ∈ po_TB := wp_30
theorem wq_1330 : Cond.code yX8_isColumn cX8_isColumn 1 (some .boolean) ∈ po_TB := List.mem_filter.mpr ⟨List.mem_of_getElem? (i := 1330) (by decide +kernel), by decide +kernel⟩
theorem wq_1329 : Cond.static yX8_isColumn ∈ po_TB := List.mem_filter.mpr ⟨List.mem_of_getElem? (i := 1329) (by decide +kernel), by decide +kernel⟩
theorem mv_X8_isColumn : po_MS yX8_isColumn cX8_isColumn 1 (some .boolean) 1 := ⟨wq_1330, wq_1329, wq_98, by decide +kernel⟩
theorem wq_1328 : Cond.methodLink RX8 189 yX8_isColumn ∈ po_TB := List.mem_filter.mpr ⟨List.mem_of_getElem? (i := 1328) (by decide +kernel), by decide +kernel⟩
theorem wq_1220 : Cond.fieldLink RX8 13 "PermitOfficeModel" "now" "[I" ∈ po_TB := List.mem_filter.mpr ⟨List.mem_of_getElem? (i := 1220) (by decide +kernel), by decide +kernel⟩
theorem fl_X8_13 : po_FL RX8 13 8 1 := ⟨_, rfl, by decide, rfl, Or.inl wq_1220⟩
theorem wq_1354 : Cond.code yX8_isInArea cX8_isInArea 7 (some .boolean) ∈ po_TB := List.mem_filter.mpr ⟨List.mem_of_getElem? (i := 1354) (by decide +kernel), by decide +kernel⟩
theorem wq_1353 : Cond.instanceMethod yX8_isInArea ∈ po_TB := List.mem_filter.mpr ⟨List.mem_of_getElem? (i := 1353) (by decide +kernel), by decide +kernel⟩
theorem mv_X8_isInArea : po_MV yX8_isInArea cX8_isInArea 7 (some .boolean) 3 := ⟨wq_1354, wq_1353, wq_98, by decide +kernel⟩
theorem wq_1351 : Cond.methodLink RX8 53 yX8_isInArea ∈ po_TB := List.mem_filter.mpr ⟨List.mem_of_getElem? (i := 1351) (by decide +kernel), by decide +kernel⟩
theorem wp_39 : Cond.selects RX8 yX8_isInArea yX8_isInArea ∈ po_TB := List.mem_filter.mpr ⟨List.mem_of_getElem? (i := 39) (by decide +kernel), by decide +kernel⟩
theorem ws_X8_isInArea : Cond.selects yX8_isInArea.cls yX8_isInArea yX8_isInArea ∈ po_TB := wp_39
theorem wq_1350 : Cond.code yX8_isInLot cX8_isInLot 4 (some .boolean) ∈ po_TB := List.mem_filter.mpr ⟨List.mem_of_getElem? (i := 1350) (by decide +kernel), by decide +kernel⟩
theorem wq_1349 : Cond.instanceMethod yX8_isInLot ∈ po_TB := List.mem_filter.mpr ⟨List.mem_of_getElem? (i := 1349) (by decide +kernel), by decide +kernel⟩
theorem mv_X8_isInLot : po_MV yX8_isInLot cX8_isInLot 4 (some .boolean) 3 := ⟨wq_1350, wq_1349, wq_98, by decide +kernel⟩
theorem wq_1347 : Cond.methodLink RX8 67 yX8_isInLot ∈ po_TB := List.mem_filter.mpr ⟨List.mem_of_getElem? (i := 1347) (by decide +kernel), by decide +kernel⟩
theorem wp_38 : Cond.selects RX8 yX8_isInLot yX8_isInLot ∈ po_TB := List.mem_filter.mpr ⟨List.mem_of_getElem? (i := 38) (by decide +kernel), by decide +kernel⟩
theorem ws_X8_isInLot : Cond.selects yX8_isInLot.cls yX8_isInLot yX8_isInLot ∈ po_TB := wp_38
theorem wq_1346 : Cond.code yX8_lotAt cX8_lotAt 4 (some .int) ∈ po_TB := List.mem_filter.mpr ⟨List.mem_of_getElem? (i := 1346) (by decide +kernel), by decide +kernel⟩
theorem wq_1345 : Cond.instanceMethod yX8_lotAt ∈ po_TB := List.mem_filter.mpr ⟨List.mem_of_getElem? (i := 1345) (by decide +kernel), by decide +kernel⟩
theorem mv_X8_lotAt : po_MV yX8_lotAt cX8_lotAt 4 (some .int) 2 := ⟨wq_1346, wq_1345, wq_98, by decide +kernel⟩
theorem wq_1343 : Cond.methodLink RX8 192 yX8_lotAt ∈ po_TB := List.mem_filter.mpr ⟨List.mem_of_getElem? (i := 1343) (by decide +kernel), by decide +kernel⟩
theorem wp_37 : Cond.selects RX8 yX8_lotAt yX8_lotAt ∈ po_TB := List.mem_filter.mpr ⟨List.mem_of_getElem? (i := 37) (by decide +kernel), by decide +kernel⟩
theorem ws_X8_lotAt : Cond.selects yX8_lotAt.cls yX8_lotAt yX8_lotAt ∈ po_TB := wp_37
theorem wq_1327 : Cond.code yX8_readArea cX8_readArea 3 none ∈ po_TB := List.mem_filter.mpr ⟨List.mem_of_getElem? (i := 1327) (by decide +kernel), by decide +kernel⟩
theorem wq_1326 : Cond.instanceMethod yX8_readArea ∈ po_TB := List.mem_filter.mpr ⟨List.mem_of_getElem? (i := 1326) (by decide +kernel), by decide +kernel⟩
theorem mv_X8_readArea : po_MV yX8_readArea cX8_readArea 3 none 0 := ⟨wq_1327, wq_1326, wq_98, by decide +kernel⟩
theorem wq_1324 : Cond.methodLink RX8 198 yX8_readArea ∈ po_TB := List.mem_filter.mpr ⟨List.mem_of_getElem? (i := 1324) (by decide +kernel), by decide +kernel⟩
theorem wp_33 : Cond.selects RX8 yX8_readArea yX8_readArea ∈ po_TB := List.mem_filter.mpr ⟨List.mem_of_getElem? (i := 33) (by decide +kernel), by decide +kernel⟩
theorem ws_X8_readArea : Cond.selects yX8_readArea.cls yX8_readArea yX8_readArea ∈ po_TB := wp_33
theorem wq_1334 : Cond.code yX8_must cX8_must 2 none ∈ po_TB := List.mem_filter.mpr ⟨List.mem_of_getElem? (i := 1334) (by decide +kernel), by decide +kernel⟩
theorem wq_1333 : Cond.instanceMethod yX8_must ∈ po_TB := List.mem_filter.mpr ⟨List.mem_of_getElem? (i := 1333) (by decide +kernel), by decide +kernel⟩
theorem mv_X8_must : po_MV yX8_must cX8_must 2 none 1 := ⟨wq_1334, wq_1333, wq_98, by decide +kernel⟩
theorem wq_1331 : Cond.methodLink RX8 201 yX8_must ∈ po_TB := List.mem_filter.mpr ⟨List.mem_of_getElem? (i := 1331) (by decide +kernel), by decide +kernel⟩
theorem wp_34 : Cond.selects RX8 yX8_must yX8_must ∈ po_TB := List.mem_filter.mpr ⟨List.mem_of_getElem? (i := 34) (by decide +kernel), by decide +kernel⟩
theorem ws_X8_must : Cond.selects yX8_must.cls yX8_must yX8_must ∈ po_TB := wp_34
theorem wq_1338 : Cond.code yX8_putArea cX8_putArea 3 none ∈ po_TB := List.mem_filter.mpr ⟨List.mem_of_getElem? (i := 1338) (by decide +kernel), by decide +kernel⟩
theorem wq_1337 : Cond.instanceMethod yX8_putArea ∈ po_TB := List.mem_filter.mpr ⟨List.mem_of_getElem? (i := 1337) (by decide +kernel), by decide +kernel⟩
theorem mv_X8_putArea : po_MV yX8_putArea cX8_putArea 3 none 1 := ⟨wq_1338, wq_1337, wq_98, by decide +kernel⟩
theorem wq_1335 : Cond.methodLink RX8 205 yX8_putArea ∈ po_TB := List.mem_filter.mpr ⟨List.mem_of_getElem? (i := 1335) (by decide +kernel), by decide +kernel⟩
theorem wp_35 : Cond.selects RX8 yX8_putArea yX8_putArea ∈ po_TB := List.mem_filter.mpr ⟨List.mem_of_getElem? (i := 35) (by decide +kernel), by decide +kernel⟩
theorem ws_X8_putArea : Cond.selects yX8_putArea.cls yX8_putArea yX8_putArea ∈ po_TB := wp_35
theorem wq_1342 : Cond.code yX8_isShared cX8_isShared 5 (some .boolean) ∈ po_TB := List.mem_filter.mpr ⟨List.mem_of_getElem? (i := 1342) (by decide +kernel), by decide +kernel⟩
theorem wq_1341 : Cond.instanceMethod yX8_isShared ∈ po_TB := List.mem_filter.mpr ⟨List.mem_of_getElem? (i := 1341) (by decide +kernel), by decide +kernel⟩
theorem mv_X8_isShared : po_MV yX8_isShared cX8_isShared 5 (some .boolean) 1 := ⟨wq_1342, wq_1341, wq_98, by decide +kernel⟩
theorem wq_1339 : Cond.methodLink RX8 208 yX8_isShared ∈ po_TB := List.mem_filter.mpr ⟨List.mem_of_getElem? (i := 1339) (by decide +kernel), by decide +kernel⟩
theorem wp_36 : Cond.selects RX8 yX8_isShared yX8_isShared ∈ po_TB := List.mem_filter.mpr ⟨List.mem_of_getElem? (i := 36) (by decide +kernel), by decide +kernel⟩
theorem ws_X8_isShared : Cond.selects yX8_isShared.cls yX8_isShared yX8_isShared ∈ po_TB := wp_36
theorem wq_1323 : Cond.code yX8_front cX8_front 3 (some .int) ∈ po_TB := List.mem_filter.mpr ⟨List.mem_of_getElem? (i := 1323) (by decide +kernel), by decide +kernel⟩
theorem wq_1322 : Cond.instanceMethod yX8_front ∈ po_TB := List.mem_filter.mpr ⟨List.mem_of_getElem? (i := 1322) (by decide +kernel), by decide +kernel⟩
theorem mv_X8_front : po_MV yX8_front cX8_front 3 (some .int) 0 := ⟨wq_1323, wq_1322, wq_98, by decide +kernel⟩
theorem wq_1320 : Cond.methodLink RX8 195 yX8_front ∈ po_TB := List.mem_filter.mpr ⟨List.mem_of_getElem? (i := 1320) (by decide +kernel), by decide +kernel⟩
theorem wp_32 : Cond.selects RX8 yX8_front yX8_front ∈ po_TB := List.mem_filter.mpr ⟨List.mem_of_getElem? (i := 32) (by decide +kernel), by decide +kernel⟩
theorem ws_X8_front : Cond.selects yX8_front.cls yX8_front yX8_front ∈ po_TB := wp_32
theorem wq_1363 : Cond.methodLink RX8 88 Lib.Math.min.name ∈ po_TB := List.mem_filter.mpr ⟨List.mem_of_getElem? (i := 1363) (by decide +kernel), by decide +kernel⟩
theorem wq_1379 : Cond.code yX8_cellsOf cX8_cellsOf 4 (some .int) ∈ po_TB := List.mem_filter.mpr ⟨List.mem_of_getElem? (i := 1379) (by decide +kernel), by decide +kernel⟩
theorem wq_1378 : Cond.instanceMethod yX8_cellsOf ∈ po_TB := List.mem_filter.mpr ⟨List.mem_of_getElem? (i := 1378) (by decide +kernel), by decide +kernel⟩
theorem mv_X8_cellsOf : po_MV yX8_cellsOf cX8_cellsOf 4 (some .int) 1 := ⟨wq_1379, wq_1378, wq_98, by decide +kernel⟩
theorem wq_1376 : Cond.methodLink RX8 56 yX8_cellsOf ∈ po_TB := List.mem_filter.mpr ⟨List.mem_of_getElem? (i := 1376) (by decide +kernel), by decide +kernel⟩
theorem wp_45 : Cond.selects RX8 yX8_cellsOf yX8_cellsOf ∈ po_TB := List.mem_filter.mpr ⟨List.mem_of_getElem? (i := 45) (by decide +kernel), by decide +kernel⟩
theorem ws_X8_cellsOf : Cond.selects yX8_cellsOf.cls yX8_cellsOf yX8_cellsOf ∈ po_TB := wp_45
theorem wq_1375 : Cond.code yX8_buildingCells cX8_buildingCells 2 (some .int) ∈ po_TB := List.mem_filter.mpr ⟨List.mem_of_getElem? (i := 1375) (by decide +kernel), by decide +kernel⟩
theorem wq_1374 : Cond.instanceMethod yX8_buildingCells ∈ po_TB := List.mem_filter.mpr ⟨List.mem_of_getElem? (i := 1374) (by decide +kernel), by decide +kernel⟩
theorem mv_X8_buildingCells : po_MV yX8_buildingCells cX8_buildingCells 2 (some .int) 1 := ⟨wq_1375, wq_1374, wq_98, by decide +kernel⟩
theorem wq_1372 : Cond.methodLink RX8 60 yX8_buildingCells ∈ po_TB := List.mem_filter.mpr ⟨List.mem_of_getElem? (i := 1372) (by decide +kernel), by decide +kernel⟩
theorem wp_44 : Cond.selects RX8 yX8_buildingCells yX8_buildingCells ∈ po_TB := List.mem_filter.mpr ⟨List.mem_of_getElem? (i := 44) (by decide +kernel), by decide +kernel⟩
theorem ws_X8_buildingCells : Cond.selects yX8_buildingCells.cls yX8_buildingCells yX8_buildingCells ∈ po_TB := wp_44
theorem wq_1383 : Cond.code yX8_at cX8_at 3 (some .int) ∈ po_TB := List.mem_filter.mpr ⟨List.mem_of_getElem? (i := 1383) (by decide +kernel), by decide +kernel⟩
theorem wq_1382 : Cond.instanceMethod yX8_at ∈ po_TB := List.mem_filter.mpr ⟨List.mem_of_getElem? (i := 1382) (by decide +kernel), by decide +kernel⟩
theorem mv_X8_at : po_MV yX8_at cX8_at 3 (some .int) 2 := ⟨wq_1383, wq_1382, wq_98, by decide +kernel⟩
theorem wq_1380 : Cond.methodLink RX8 63 yX8_at ∈ po_TB := List.mem_filter.mpr ⟨List.mem_of_getElem? (i := 1380) (by decide +kernel), by decide +kernel⟩
theorem wp_46 : Cond.selects RX8 yX8_at yX8_at ∈ po_TB := List.mem_filter.mpr ⟨List.mem_of_getElem? (i := 46) (by decide +kernel), by decide +kernel⟩
theorem ws_X8_at : Cond.selects yX8_at.cls yX8_at yX8_at ∈ po_TB := wp_46
theorem wq_1367 : Cond.code yX8_set cX8_set 4 none ∈ po_TB := List.mem_filter.mpr ⟨List.mem_of_getElem? (i := 1367) (by decide +kernel), by decide +kernel⟩
theorem wq_1366 : Cond.instanceMethod yX8_set ∈ po_TB := List.mem_filter.mpr ⟨List.mem_of_getElem? (i := 1366) (by decide +kernel), by decide +kernel⟩
theorem mv_X8_set : po_MV yX8_set cX8_set 4 none 3 := ⟨wq_1367, wq_1366, wq_98, by decide +kernel⟩
theorem wq_1364 : Cond.methodLink RX8 214 yX8_set ∈ po_TB := List.mem_filter.mpr ⟨List.mem_of_getElem? (i := 1364) (by decide +kernel), by decide +kernel⟩
theorem wp_42 : Cond.selects RX8 yX8_set yX8_set ∈ po_TB := List.mem_filter.mpr ⟨List.mem_of_getElem? (i := 42) (by decide +kernel), by decide +kernel⟩
theorem ws_X8_set : Cond.selects yX8_set.cls yX8_set yX8_set ∈ po_TB := wp_42
theorem wq_1371 : Cond.code yX8_floorArea cX8_floorArea 2 (some .int) ∈ po_TB := List.mem_filter.mpr ⟨List.mem_of_getElem? (i := 1371) (by decide +kernel), by decide +kernel⟩
theorem wq_1370 : Cond.instanceMethod yX8_floorArea ∈ po_TB := List.mem_filter.mpr ⟨List.mem_of_getElem? (i := 1370) (by decide +kernel), by decide +kernel⟩
theorem mv_X8_floorArea : po_MV yX8_floorArea cX8_floorArea 2 (some .int) 1 := ⟨wq_1371, wq_1370, wq_98, by decide +kernel⟩
theorem wq_1368 : Cond.methodLink RX8 109 yX8_floorArea ∈ po_TB := List.mem_filter.mpr ⟨List.mem_of_getElem? (i := 1368) (by decide +kernel), by decide +kernel⟩
theorem wp_43 : Cond.selects RX8 yX8_floorArea yX8_floorArea ∈ po_TB := List.mem_filter.mpr ⟨List.mem_of_getElem? (i := 43) (by decide +kernel), by decide +kernel⟩
theorem ws_X8_floorArea : Cond.selects yX8_floorArea.cls yX8_floorArea yX8_floorArea ∈ po_TB := wp_43
theorem wq_1362 : Cond.code yX8_which cX8_which 2 (some .int) ∈ po_TB := List.mem_filter.mpr ⟨List.mem_of_getElem? (i := 1362) (by decide +kernel), by decide +kernel⟩
theorem wq_1361 : Cond.instanceMethod yX8_which ∈ po_TB := List.mem_filter.mpr ⟨List.mem_of_getElem? (i := 1361) (by decide +kernel), by decide +kernel⟩
theorem mv_X8_which : po_MV yX8_which cX8_which 2 (some .int) 1 := ⟨wq_1362, wq_1361, wq_98, by decide +kernel⟩
theorem wq_1359 : Cond.methodLink RX8 211 yX8_which ∈ po_TB := List.mem_filter.mpr ⟨List.mem_of_getElem? (i := 1359) (by decide +kernel), by decide +kernel⟩
theorem wp_41 : Cond.selects RX8 yX8_which yX8_which ∈ po_TB := List.mem_filter.mpr ⟨List.mem_of_getElem? (i := 41) (by decide +kernel), by decide +kernel⟩
theorem ws_X8_which : Cond.selects yX8_which.cls yX8_which yX8_which ∈ po_TB := wp_41
theorem wq_1391 : Cond.code yX8_number cX8_number 5 (some .int) ∈ po_TB := List.mem_filter.mpr ⟨List.mem_of_getElem? (i := 1391) (by decide +kernel), by decide +kernel⟩
theorem wq_1390 : Cond.instanceMethod yX8_number ∈ po_TB := List.mem_filter.mpr ⟨List.mem_of_getElem? (i := 1390) (by decide +kernel), by decide +kernel⟩
theorem mv_X8_number : po_MV yX8_number cX8_number 5 (some .int) 2 := ⟨wq_1391, wq_1390, wq_98, by decide +kernel⟩
theorem wq_1388 : Cond.methodLink RX8 218 yX8_number ∈ po_TB := List.mem_filter.mpr ⟨List.mem_of_getElem? (i := 1388) (by decide +kernel), by decide +kernel⟩
theorem wp_48 : Cond.selects RX8 yX8_number yX8_number ∈ po_TB := List.mem_filter.mpr ⟨List.mem_of_getElem? (i := 48) (by decide +kernel), by decide +kernel⟩
theorem ws_X8_number : Cond.selects yX8_number.cls yX8_number yX8_number ∈ po_TB := wp_48
theorem wq_1399 : Cond.code yX8_conditionMany cX8_conditionMany 2 (some .int) ∈ po_TB := List.mem_filter.mpr ⟨List.mem_of_getElem? (i := 1399) (by decide +kernel), by decide +kernel⟩
theorem wq_1398 : Cond.instanceMethod yX8_conditionMany ∈ po_TB := List.mem_filter.mpr ⟨List.mem_of_getElem? (i := 1398) (by decide +kernel), by decide +kernel⟩
theorem mv_X8_conditionMany : po_MV yX8_conditionMany cX8_conditionMany 2 (some .int) 1 := ⟨wq_1399, wq_1398, wq_98, by decide +kernel⟩
theorem wq_1396 : Cond.methodLink RX8 221 yX8_conditionMany ∈ po_TB := List.mem_filter.mpr ⟨List.mem_of_getElem? (i := 1396) (by decide +kernel), by decide +kernel⟩
theorem wp_50 : Cond.selects RX8 yX8_conditionMany yX8_conditionMany ∈ po_TB := List.mem_filter.mpr ⟨List.mem_of_getElem? (i := 50) (by decide +kernel), by decide +kernel⟩
theorem ws_X8_conditionMany : Cond.selects yX8_conditionMany.cls yX8_conditionMany yX8_conditionMany ∈ po_TB := wp_50
theorem wq_1403 : Cond.code yX8_putCondition cX8_putCondition 6 none ∈ po_TB := List.mem_filter.mpr ⟨List.mem_of_getElem? (i := 1403) (by decide +kernel), by decide +kernel⟩
theorem wq_1402 : Cond.instanceMethod yX8_putCondition ∈ po_TB := List.mem_filter.mpr ⟨List.mem_of_getElem? (i := 1402) (by decide +kernel), by decide +kernel⟩
theorem mv_X8_putCondition : po_MV yX8_putCondition cX8_putCondition 6 none 5 := ⟨wq_1403, wq_1402, wq_98, by decide +kernel⟩
theorem wq_1400 : Cond.methodLink RX8 224 yX8_putCondition ∈ po_TB := List.mem_filter.mpr ⟨List.mem_of_getElem? (i := 1400) (by decide +kernel), by decide +kernel⟩
theorem wp_51 : Cond.selects RX8 yX8_putCondition yX8_putCondition ∈ po_TB := List.mem_filter.mpr ⟨List.mem_of_getElem? (i := 51) (by decide +kernel), by decide +kernel⟩
theorem ws_X8_putCondition : Cond.selects yX8_putCondition.cls yX8_putCondition yX8_putCondition ∈ po_TB := wp_51
theorem wq_1410 : Cond.code yX8_leastOf cX8_leastOf 1 (some .int) ∈ po_TB := List.mem_filter.mpr ⟨List.mem_of_getElem? (i := 1410) (by decide +kernel), by decide +kernel⟩
theorem wq_1409 : Cond.static yX8_leastOf ∈ po_TB := List.mem_filter.mpr ⟨List.mem_of_getElem? (i := 1409) (by decide +kernel), by decide +kernel⟩
theorem mv_X8_leastOf : po_MS yX8_leastOf cX8_leastOf 1 (some .int) 1 := ⟨wq_1410, wq_1409, wq_98, by decide +kernel⟩
theorem wq_1408 : Cond.methodLink RX8 228 yX8_leastOf ∈ po_TB := List.mem_filter.mpr ⟨List.mem_of_getElem? (i := 1408) (by decide +kernel), by decide +kernel⟩
theorem wq_1413 : Cond.code yX8_mostOf cX8_mostOf 1 (some .int) ∈ po_TB := List.mem_filter.mpr ⟨List.mem_of_getElem? (i := 1413) (by decide +kernel), by decide +kernel⟩
theorem wq_1412 : Cond.static yX8_mostOf ∈ po_TB := List.mem_filter.mpr ⟨List.mem_of_getElem? (i := 1412) (by decide +kernel), by decide +kernel⟩
theorem mv_X8_mostOf : po_MS yX8_mostOf cX8_mostOf 1 (some .int) 1 := ⟨wq_1413, wq_1412, wq_98, by decide +kernel⟩
theorem wq_1411 : Cond.methodLink RX8 231 yX8_mostOf ∈ po_TB := List.mem_filter.mpr ⟨List.mem_of_getElem? (i := 1411) (by decide +kernel), by decide +kernel⟩
theorem wq_1395 : Cond.code yX8_readCondition cX8_readCondition 4 none ∈ po_TB := List.mem_filter.mpr ⟨List.mem_of_getElem? (i := 1395) (by decide +kernel), by decide +kernel⟩
theorem wq_1394 : Cond.instanceMethod yX8_readCondition ∈ po_TB := List.mem_filter.mpr ⟨List.mem_of_getElem? (i := 1394) (by decide +kernel), by decide +kernel⟩
theorem mv_X8_readCondition : po_MV yX8_readCondition cX8_readCondition 4 none 0 := ⟨wq_1395, wq_1394, wq_98, by decide +kernel⟩
theorem wq_1392 : Cond.methodLink RX8 243 yX8_readCondition ∈ po_TB := List.mem_filter.mpr ⟨List.mem_of_getElem? (i := 1392) (by decide +kernel), by decide +kernel⟩
theorem wp_49 : Cond.selects RX8 yX8_readCondition yX8_readCondition ∈ po_TB := List.mem_filter.mpr ⟨List.mem_of_getElem? (i := 49) (by decide +kernel), by decide +kernel⟩
theorem ws_X8_readCondition : Cond.selects yX8_readCondition.cls yX8_readCondition yX8_readCondition ∈ po_TB := wp_49
theorem wq_1311 : Cond.code yX8_readLot cX8_readLot 6 none ∈ po_TB := List.mem_filter.mpr ⟨List.mem_of_getElem? (i := 1311) (by decide +kernel), by decide +kernel⟩
theorem wq_1310 : Cond.instanceMethod yX8_readLot ∈ po_TB := List.mem_filter.mpr ⟨List.mem_of_getElem? (i := 1310) (by decide +kernel), by decide +kernel⟩
theorem mv_X8_readLot : po_MV yX8_readLot cX8_readLot 6 none 0 := ⟨wq_1311, wq_1310, wq_98, by decide +kernel⟩
theorem wq_1308 : Cond.methodLink RX8 234 yX8_readLot ∈ po_TB := List.mem_filter.mpr ⟨List.mem_of_getElem? (i := 1308) (by decide +kernel), by decide +kernel⟩
theorem wp_29 : Cond.selects RX8 yX8_readLot yX8_readLot ∈ po_TB := List.mem_filter.mpr ⟨List.mem_of_getElem? (i := 29) (by decide +kernel), by decide +kernel⟩
theorem ws_X8_readLot : Cond.selects yX8_readLot.cls yX8_readLot yX8_readLot ∈ po_TB := wp_29
theorem wq_1358 : Cond.code yX8_readPermit cX8_readPermit 7 none ∈ po_TB := List.mem_filter.mpr ⟨List.mem_of_getElem? (i := 1358) (by decide +kernel), by decide +kernel⟩
theorem wq_1357 : Cond.instanceMethod yX8_readPermit ∈ po_TB := List.mem_filter.mpr ⟨List.mem_of_getElem? (i := 1357) (by decide +kernel), by decide +kernel⟩
theorem mv_X8_readPermit : po_MV yX8_readPermit cX8_readPermit 7 none 0 := ⟨wq_1358, wq_1357, wq_98, by decide +kernel⟩
theorem wq_1355 : Cond.methodLink RX8 237 yX8_readPermit ∈ po_TB := List.mem_filter.mpr ⟨List.mem_of_getElem? (i := 1355) (by decide +kernel), by decide +kernel⟩
theorem wp_40 : Cond.selects RX8 yX8_readPermit yX8_readPermit ∈ po_TB := List.mem_filter.mpr ⟨List.mem_of_getElem? (i := 40) (by decide +kernel), by decide +kernel⟩
theorem ws_X8_readPermit : Cond.selects yX8_readPermit.cls yX8_readPermit yX8_readPermit ∈ po_TB := wp_40
theorem wq_1387 : Cond.code yX8_readVariance cX8_readVariance 6 none ∈ po_TB := List.mem_filter.mpr ⟨List.mem_of_getElem? (i := 1387) (by decide +kernel), by decide +kernel⟩
theorem wq_1386 : Cond.instanceMethod yX8_readVariance ∈ po_TB := List.mem_filter.mpr ⟨List.mem_of_getElem? (i := 1386) (by decide +kernel), by decide +kernel⟩
theorem mv_X8_readVariance : po_MV yX8_readVariance cX8_readVariance 6 none 0 := ⟨wq_1387, wq_1386, wq_98, by decide +kernel⟩
theorem wq_1384 : Cond.methodLink RX8 240 yX8_readVariance ∈ po_TB := List.mem_filter.mpr ⟨List.mem_of_getElem? (i := 1384) (by decide +kernel), by decide +kernel⟩
theorem wp_47 : Cond.selects RX8 yX8_readVariance yX8_readVariance ∈ po_TB := List.mem_filter.mpr ⟨List.mem_of_getElem? (i := 47) (by decide +kernel), by decide +kernel⟩
theorem ws_X8_readVariance : Cond.selects yX8_readVariance.cls yX8_readVariance yX8_readVariance ∈ po_TB := wp_47
theorem wq_1407 : Cond.code yX8_readRule cX8_readRule 4 none ∈ po_TB := List.mem_filter.mpr ⟨List.mem_of_getElem? (i := 1407) (by decide +kernel), by decide +kernel⟩
theorem wq_1406 : Cond.instanceMethod yX8_readRule ∈ po_TB := List.mem_filter.mpr ⟨List.mem_of_getElem? (i := 1406) (by decide +kernel), by decide +kernel⟩
theorem mv_X8_readRule : po_MV yX8_readRule cX8_readRule 4 none 0 := ⟨wq_1407, wq_1406, wq_98, by decide +kernel⟩
theorem wq_1404 : Cond.methodLink RX8 246 yX8_readRule ∈ po_TB := List.mem_filter.mpr ⟨List.mem_of_getElem? (i := 1404) (by decide +kernel), by decide +kernel⟩
theorem wp_52 : Cond.selects RX8 yX8_readRule yX8_readRule ∈ po_TB := List.mem_filter.mpr ⟨List.mem_of_getElem? (i := 52) (by decide +kernel), by decide +kernel⟩
theorem ws_X8_readRule : Cond.selects yX8_readRule.cls yX8_readRule yX8_readRule ∈ po_TB := wp_52
theorem wq_1222 : Cond.fieldLink RX8 39 "PermitOfficeModel" "pastMany" "I" ∈ po_TB := List.mem_filter.mpr ⟨List.mem_of_getElem? (i := 1222) (by decide +kernel), by decide +kernel⟩
theorem fl_X8_39 : po_FL RX8 39 8 3 := ⟨_, rfl, by decide, rfl, Or.inl wq_1222⟩
theorem wq_1221 : Cond.fieldLink RX8 17 "PermitOfficeModel" "past" "[I" ∈ po_TB := List.mem_filter.mpr ⟨List.mem_of_getElem? (i := 1221) (by decide +kernel), by decide +kernel⟩
theorem fl_X8_17 : po_FL RX8 17 8 2 := ⟨_, rfl, by decide, rfl, Or.inl wq_1221⟩
theorem wq_1223 : Cond.fieldLink RX8 20 "PermitOfficeModel" "before" "[I" ∈ po_TB := List.mem_filter.mpr ⟨List.mem_of_getElem? (i := 1223) (by decide +kernel), by decide +kernel⟩
theorem fl_X8_20 : po_FL RX8 20 8 4 := ⟨_, rfl, by decide, rfl, Or.inl wq_1223⟩
theorem wq_1417 : Cond.code yX8_remember cX8_remember 2 none ∈ po_TB := List.mem_filter.mpr ⟨List.mem_of_getElem? (i := 1417) (by decide +kernel), by decide +kernel⟩
theorem wq_1416 : Cond.instanceMethod yX8_remember ∈ po_TB := List.mem_filter.mpr ⟨List.mem_of_getElem? (i := 1416) (by decide +kernel), by decide +kernel⟩
theorem mv_X8_remember : po_MV yX8_remember cX8_remember 2 none 0 := ⟨wq_1417, wq_1416, wq_98, by decide +kernel⟩
theorem wq_1414 : Cond.methodLink RX8 46 yX8_remember ∈ po_TB := List.mem_filter.mpr ⟨List.mem_of_getElem? (i := 1414) (by decide +kernel), by decide +kernel⟩
theorem wp_53 : Cond.selects RX8 yX8_remember yX8_remember ∈ po_TB := List.mem_filter.mpr ⟨List.mem_of_getElem? (i := 53) (by decide +kernel), by decide +kernel⟩
theorem ws_X8_remember : Cond.selects yX8_remember.cls yX8_remember yX8_remember ∈ po_TB := wp_53
theorem wq_1295 : Cond.code yX8_copy cX8_copy 3 none ∈ po_TB := List.mem_filter.mpr ⟨List.mem_of_getElem? (i := 1295) (by decide +kernel), by decide +kernel⟩
theorem wq_1294 : Cond.static yX8_copy ∈ po_TB := List.mem_filter.mpr ⟨List.mem_of_getElem? (i := 1294) (by decide +kernel), by decide +kernel⟩
theorem mv_X8_copy : po_MS yX8_copy cX8_copy 3 none 2 := ⟨wq_1295, wq_1294, wq_98, by decide +kernel⟩
theorem wq_1293 : Cond.methodLink RX8 42 yX8_copy ∈ po_TB := List.mem_filter.mpr ⟨List.mem_of_getElem? (i := 1293) (by decide +kernel), by decide +kernel⟩
theorem wq_1299 : Cond.code yX8_readCommand cX8_readCommand 4 none ∈ po_TB := List.mem_filter.mpr ⟨List.mem_of_getElem? (i := 1299) (by decide +kernel), by decide +kernel⟩
theorem wq_1298 : Cond.instanceMethod yX8_readCommand ∈ po_TB := List.mem_filter.mpr ⟨List.mem_of_getElem? (i := 1298) (by decide +kernel), by decide +kernel⟩
theorem mv_X8_readCommand : po_MV yX8_readCommand cX8_readCommand 4 none 0 := ⟨wq_1299, wq_1298, wq_98, by decide +kernel⟩
theorem wq_1296 : Cond.methodLink RX8 249 yX8_readCommand ∈ po_TB := List.mem_filter.mpr ⟨List.mem_of_getElem? (i := 1296) (by decide +kernel), by decide +kernel⟩
theorem wp_26 : Cond.selects RX8 yX8_readCommand yX8_readCommand ∈ po_TB := List.mem_filter.mpr ⟨List.mem_of_getElem? (i := 26) (by decide +kernel), by decide +kernel⟩
theorem ws_X8_readCommand : Cond.selects yX8_readCommand.cls yX8_readCommand yX8_readCommand ∈ po_TB := wp_26
theorem wq_1453 : Cond.code yX8_stands cX8_stands 3 (some .boolean) ∈ po_TB := List.mem_filter.mpr ⟨List.mem_of_getElem? (i := 1453) (by decide +kernel), by decide +kernel⟩
theorem wq_1452 : Cond.instanceMethod yX8_stands ∈ po_TB := List.mem_filter.mpr ⟨List.mem_of_getElem? (i := 1452) (by decide +kernel), by decide +kernel⟩
theorem mv_X8_stands : po_MV yX8_stands cX8_stands 3 (some .boolean) 1 := ⟨wq_1453, wq_1452, wq_98, by decide +kernel⟩
theorem wq_1450 : Cond.methodLink RX8 91 yX8_stands ∈ po_TB := List.mem_filter.mpr ⟨List.mem_of_getElem? (i := 1450) (by decide +kernel), by decide +kernel⟩
theorem wp_59 : Cond.selects RX8 yX8_stands yX8_stands ∈ po_TB := List.mem_filter.mpr ⟨List.mem_of_getElem? (i := 59) (by decide +kernel), by decide +kernel⟩
theorem ws_X8_stands : Cond.selects yX8_stands.cls yX8_stands yX8_stands ∈ po_TB := wp_59
theorem wq_1457 : Cond.code yX8_isInBuilding cX8_isInBuilding 4 (some .boolean) ∈ po_TB := List.mem_filter.mpr ⟨List.mem_of_getElem? (i := 1457) (by decide +kernel), by decide +kernel⟩
theorem wq_1456 : Cond.instanceMethod yX8_isInBuilding ∈ po_TB := List.mem_filter.mpr ⟨List.mem_of_getElem? (i := 1456) (by decide +kernel), by decide +kernel⟩
theorem mv_X8_isInBuilding : po_MV yX8_isInBuilding cX8_isInBuilding 4 (some .boolean) 3 := ⟨wq_1457, wq_1456, wq_98, by decide +kernel⟩
theorem wq_1454 : Cond.methodLink RX8 95 yX8_isInBuilding ∈ po_TB := List.mem_filter.mpr ⟨List.mem_of_getElem? (i := 1454) (by decide +kernel), by decide +kernel⟩
theorem wp_60 : Cond.selects RX8 yX8_isInBuilding yX8_isInBuilding ∈ po_TB := List.mem_filter.mpr ⟨List.mem_of_getElem? (i := 60) (by decide +kernel), by decide +kernel⟩
theorem ws_X8_isInBuilding : Cond.selects yX8_isInBuilding.cls yX8_isInBuilding yX8_isInBuilding ∈ po_TB := wp_60
theorem wq_1449 : Cond.code yX8_isBuilt cX8_isBuilt 7 (some .boolean) ∈ po_TB := List.mem_filter.mpr ⟨List.mem_of_getElem? (i := 1449) (by decide +kernel), by decide +kernel⟩
theorem wq_1448 : Cond.instanceMethod yX8_isBuilt ∈ po_TB := List.mem_filter.mpr ⟨List.mem_of_getElem? (i := 1448) (by decide +kernel), by decide +kernel⟩
theorem mv_X8_isBuilt : po_MV yX8_isBuilt cX8_isBuilt 7 (some .boolean) 4 := ⟨wq_1449, wq_1448, wq_98, by decide +kernel⟩
theorem wq_1446 : Cond.methodLink RX8 98 yX8_isBuilt ∈ po_TB := List.mem_filter.mpr ⟨List.mem_of_getElem? (i := 1446) (by decide +kernel), by decide +kernel⟩
theorem wp_58 : Cond.selects RX8 yX8_isBuilt yX8_isBuilt ∈ po_TB := List.mem_filter.mpr ⟨List.mem_of_getElem? (i := 58) (by decide +kernel), by decide +kernel⟩
theorem ws_X8_isBuilt : Cond.selects yX8_isBuilt.cls yX8_isBuilt yX8_isBuilt ∈ po_TB := wp_58
theorem wq_1468 : Cond.code yX8_eastward cX8_eastward 1 (some .int) ∈ po_TB := List.mem_filter.mpr ⟨List.mem_of_getElem? (i := 1468) (by decide +kernel), by decide +kernel⟩
theorem wq_1467 : Cond.static yX8_eastward ∈ po_TB := List.mem_filter.mpr ⟨List.mem_of_getElem? (i := 1467) (by decide +kernel), by decide +kernel⟩
theorem mv_X8_eastward : po_MS yX8_eastward cX8_eastward 1 (some .int) 1 := ⟨wq_1468, wq_1467, wq_98, by decide +kernel⟩
theorem wq_1466 : Cond.methodLink RX8 70 yX8_eastward ∈ po_TB := List.mem_filter.mpr ⟨List.mem_of_getElem? (i := 1466) (by decide +kernel), by decide +kernel⟩
theorem wq_1471 : Cond.code yX8_southward cX8_southward 1 (some .int) ∈ po_TB := List.mem_filter.mpr ⟨List.mem_of_getElem? (i := 1471) (by decide +kernel), by decide +kernel⟩
theorem wq_1470 : Cond.static yX8_southward ∈ po_TB := List.mem_filter.mpr ⟨List.mem_of_getElem? (i := 1470) (by decide +kernel), by decide +kernel⟩
theorem mv_X8_southward : po_MS yX8_southward cX8_southward 1 (some .int) 1 := ⟨wq_1471, wq_1470, wq_98, by decide +kernel⟩
theorem wq_1469 : Cond.methodLink RX8 73 yX8_southward ∈ po_TB := List.mem_filter.mpr ⟨List.mem_of_getElem? (i := 1469) (by decide +kernel), by decide +kernel⟩
theorem wq_1465 : Cond.code yX8_sides cX8_sides 7 (some .int) ∈ po_TB := List.mem_filter.mpr ⟨List.mem_of_getElem? (i := 1465) (by decide +kernel), by decide +kernel⟩
theorem wq_1464 : Cond.instanceMethod yX8_sides ∈ po_TB := List.mem_filter.mpr ⟨List.mem_of_getElem? (i := 1464) (by decide +kernel), by decide +kernel⟩
theorem mv_X8_sides : po_MV yX8_sides cX8_sides 7 (some .int) 1 := ⟨wq_1465, wq_1464, wq_98, by decide +kernel⟩
theorem wq_1462 : Cond.methodLink RX8 258 yX8_sides ∈ po_TB := List.mem_filter.mpr ⟨List.mem_of_getElem? (i := 1462) (by decide +kernel), by decide +kernel⟩
theorem wp_62 : Cond.selects RX8 yX8_sides yX8_sides ∈ po_TB := List.mem_filter.mpr ⟨List.mem_of_getElem? (i := 62) (by decide +kernel), by decide +kernel⟩
theorem ws_X8_sides : Cond.selects yX8_sides.cls yX8_sides yX8_sides ∈ po_TB := wp_62
theorem wq_1461 : Cond.code yX8_floorAreas cX8_floorAreas 5 (some .int) ∈ po_TB := List.mem_filter.mpr ⟨List.mem_of_getElem? (i := 1461) (by decide +kernel), by decide +kernel⟩
theorem wq_1460 : Cond.instanceMethod yX8_floorAreas ∈ po_TB := List.mem_filter.mpr ⟨List.mem_of_getElem? (i := 1460) (by decide +kernel), by decide +kernel⟩
theorem mv_X8_floorAreas : po_MV yX8_floorAreas cX8_floorAreas 5 (some .int) 2 := ⟨wq_1461, wq_1460, wq_98, by decide +kernel⟩
theorem wq_1458 : Cond.methodLink RX8 121 yX8_floorAreas ∈ po_TB := List.mem_filter.mpr ⟨List.mem_of_getElem? (i := 1458) (by decide +kernel), by decide +kernel⟩
theorem wp_61 : Cond.selects RX8 yX8_floorAreas yX8_floorAreas ∈ po_TB := List.mem_filter.mpr ⟨List.mem_of_getElem? (i := 61) (by decide +kernel), by decide +kernel⟩
theorem ws_X8_floorAreas : Cond.selects yX8_floorAreas.cls yX8_floorAreas yX8_floorAreas ∈ po_TB := wp_61
theorem wq_1445 : Cond.code yX8_builtCells cX8_builtCells 6 (some .int) ∈ po_TB := List.mem_filter.mpr ⟨List.mem_of_getElem? (i := 1445) (by decide +kernel), by decide +kernel⟩
theorem wq_1444 : Cond.instanceMethod yX8_builtCells ∈ po_TB := List.mem_filter.mpr ⟨List.mem_of_getElem? (i := 1444) (by decide +kernel), by decide +kernel⟩
theorem mv_X8_builtCells : po_MV yX8_builtCells cX8_builtCells 6 (some .int) 1 := ⟨wq_1445, wq_1444, wq_98, by decide +kernel⟩
theorem wq_1442 : Cond.methodLink RX8 255 yX8_builtCells ∈ po_TB := List.mem_filter.mpr ⟨List.mem_of_getElem? (i := 1442) (by decide +kernel), by decide +kernel⟩
theorem wp_57 : Cond.selects RX8 yX8_builtCells yX8_builtCells ∈ po_TB := List.mem_filter.mpr ⟨List.mem_of_getElem? (i := 57) (by decide +kernel), by decide +kernel⟩
theorem ws_X8_builtCells : Cond.selects yX8_builtCells.cls yX8_builtCells yX8_builtCells ∈ po_TB := wp_57
theorem wq_1441 : Cond.code yX8_lotCells cX8_lotCells 2 (some .int) ∈ po_TB := List.mem_filter.mpr ⟨List.mem_of_getElem? (i := 1441) (by decide +kernel), by decide +kernel⟩
theorem wq_1440 : Cond.instanceMethod yX8_lotCells ∈ po_TB := List.mem_filter.mpr ⟨List.mem_of_getElem? (i := 1440) (by decide +kernel), by decide +kernel⟩
theorem mv_X8_lotCells : po_MV yX8_lotCells cX8_lotCells 2 (some .int) 1 := ⟨wq_1441, wq_1440, wq_98, by decide +kernel⟩
theorem wq_1438 : Cond.methodLink RX8 115 yX8_lotCells ∈ po_TB := List.mem_filter.mpr ⟨List.mem_of_getElem? (i := 1438) (by decide +kernel), by decide +kernel⟩
theorem wp_56 : Cond.selects RX8 yX8_lotCells yX8_lotCells ∈ po_TB := List.mem_filter.mpr ⟨List.mem_of_getElem? (i := 56) (by decide +kernel), by decide +kernel⟩
theorem ws_X8_lotCells : Cond.selects yX8_lotCells.cls yX8_lotCells yX8_lotCells ∈ po_TB := wp_56
theorem wq_1437 : Cond.code yX8_lotPart cX8_lotPart 3 (some .int) ∈ po_TB := List.mem_filter.mpr ⟨List.mem_of_getElem? (i := 1437) (by decide +kernel), by decide +kernel⟩
theorem wq_1436 : Cond.instanceMethod yX8_lotPart ∈ po_TB := List.mem_filter.mpr ⟨List.mem_of_getElem? (i := 1436) (by decide +kernel), by decide +kernel⟩
theorem mv_X8_lotPart : po_MV yX8_lotPart cX8_lotPart 3 (some .int) 2 := ⟨wq_1437, wq_1436, wq_98, by decide +kernel⟩
theorem wq_1434 : Cond.methodLink RX8 81 yX8_lotPart ∈ po_TB := List.mem_filter.mpr ⟨List.mem_of_getElem? (i := 1434) (by decide +kernel), by decide +kernel⟩
theorem wp_55 : Cond.selects RX8 yX8_lotPart yX8_lotPart ∈ po_TB := List.mem_filter.mpr ⟨List.mem_of_getElem? (i := 55) (by decide +kernel), by decide +kernel⟩
theorem ws_X8_lotPart : Cond.selects yX8_lotPart.cls yX8_lotPart yX8_lotPart ∈ po_TB := wp_55
theorem wq_1433 : Cond.code yX8_isLot cX8_isLot 2 (some .boolean) ∈ po_TB := List.mem_filter.mpr ⟨List.mem_of_getElem? (i := 1433) (by decide +kernel), by decide +kernel⟩
theorem wq_1432 : Cond.instanceMethod yX8_isLot ∈ po_TB := List.mem_filter.mpr ⟨List.mem_of_getElem? (i := 1432) (by decide +kernel), by decide +kernel⟩
theorem mv_X8_isLot : po_MV yX8_isLot cX8_isLot 2 (some .boolean) 1 := ⟨wq_1433, wq_1432, wq_98, by decide +kernel⟩
theorem wq_1430 : Cond.methodLink RX8 252 yX8_isLot ∈ po_TB := List.mem_filter.mpr ⟨List.mem_of_getElem? (i := 1430) (by decide +kernel), by decide +kernel⟩
theorem wp_54 : Cond.selects RX8 yX8_isLot yX8_isLot ∈ po_TB := List.mem_filter.mpr ⟨List.mem_of_getElem? (i := 54) (by decide +kernel), by decide +kernel⟩
theorem ws_X8_isLot : Cond.selects yX8_isLot.cls yX8_isLot yX8_isLot ∈ po_TB := wp_54
theorem wq_1479 : Cond.code yX8_call cX8_call 1 none ∈ po_TB := List.mem_filter.mpr ⟨List.mem_of_getElem? (i := 1479) (by decide +kernel), by decide +kernel⟩
theorem wq_1478 : Cond.instanceMethod yX8_call ∈ po_TB := List.mem_filter.mpr ⟨List.mem_of_getElem? (i := 1478) (by decide +kernel), by decide +kernel⟩
theorem mv_X8_call : po_MV yX8_call cX8_call 1 none 0 := ⟨wq_1479, wq_1478, wq_98, by decide +kernel⟩
theorem wq_1476 : Cond.methodLink RX8 261 yX8_call ∈ po_TB := List.mem_filter.mpr ⟨List.mem_of_getElem? (i := 1476) (by decide +kernel), by decide +kernel⟩
theorem wp_63 : Cond.selects RX8 yX8_call yX8_call ∈ po_TB := List.mem_filter.mpr ⟨List.mem_of_getElem? (i := 63) (by decide +kernel), by decide +kernel⟩
theorem ws_X8_call : Cond.selects yX8_call.cls yX8_call yX8_call ∈ po_TB := wp_63
theorem wq_1492 : Cond.methodLink RX8 76 Lib.Math.max.name ∈ po_TB := List.mem_filter.mpr ⟨List.mem_of_getElem? (i := 1492) (by decide +kernel), by decide +kernel⟩
theorem wq_1491 : Cond.code yX8_distance cX8_distance 8 (some .int) ∈ po_TB := List.mem_filter.mpr ⟨List.mem_of_getElem? (i := 1491) (by decide +kernel), by decide +kernel⟩
theorem wq_1490 : Cond.instanceMethod yX8_distance ∈ po_TB := List.mem_filter.mpr ⟨List.mem_of_getElem? (i := 1490) (by decide +kernel), by decide +kernel⟩
theorem mv_X8_distance : po_MV yX8_distance cX8_distance 8 (some .int) 4 := ⟨wq_1491, wq_1490, wq_98, by decide +kernel⟩
theorem wq_1488 : Cond.methodLink RX8 84 yX8_distance ∈ po_TB := List.mem_filter.mpr ⟨List.mem_of_getElem? (i := 1488) (by decide +kernel), by decide +kernel⟩
theorem wp_65 : Cond.selects RX8 yX8_distance yX8_distance ∈ po_TB := List.mem_filter.mpr ⟨List.mem_of_getElem? (i := 65) (by decide +kernel), by decide +kernel⟩
theorem ws_X8_distance : Cond.selects yX8_distance.cls yX8_distance yX8_distance ∈ po_TB := wp_65
theorem wq_1487 : Cond.code yX8_permitAt cX8_permitAt 4 (some .int) ∈ po_TB := List.mem_filter.mpr ⟨List.mem_of_getElem? (i := 1487) (by decide +kernel), by decide +kernel⟩
theorem wq_1486 : Cond.instanceMethod yX8_permitAt ∈ po_TB := List.mem_filter.mpr ⟨List.mem_of_getElem? (i := 1486) (by decide +kernel), by decide +kernel⟩
theorem mv_X8_permitAt : po_MV yX8_permitAt cX8_permitAt 4 (some .int) 2 := ⟨wq_1487, wq_1486, wq_98, by decide +kernel⟩
theorem wq_1484 : Cond.methodLink RX8 264 yX8_permitAt ∈ po_TB := List.mem_filter.mpr ⟨List.mem_of_getElem? (i := 1484) (by decide +kernel), by decide +kernel⟩
theorem wp_64 : Cond.selects RX8 yX8_permitAt yX8_permitAt ∈ po_TB := List.mem_filter.mpr ⟨List.mem_of_getElem? (i := 64) (by decide +kernel), by decide +kernel⟩
theorem ws_X8_permitAt : Cond.selects yX8_permitAt.cls yX8_permitAt yX8_permitAt ∈ po_TB := wp_64
theorem wq_1237 : Cond.fieldLink RX8 35 "PermitOfficeModel" "isGood" "[Z" ∈ po_TB := List.mem_filter.mpr ⟨List.mem_of_getElem? (i := 1237) (by decide +kernel), by decide +kernel⟩
theorem fl_X8_35 : po_FL RX8 35 8 18 := ⟨_, rfl, by decide, rfl, Or.inl wq_1237⟩
theorem wq_1508 : Cond.code yX8_largestFrom cX8_largestFrom 7 (some .int) ∈ po_TB := List.mem_filter.mpr ⟨List.mem_of_getElem? (i := 1508) (by decide +kernel), by decide +kernel⟩
theorem wq_1507 : Cond.instanceMethod yX8_largestFrom ∈ po_TB := List.mem_filter.mpr ⟨List.mem_of_getElem? (i := 1507) (by decide +kernel), by decide +kernel⟩
theorem mv_X8_largestFrom : po_MV yX8_largestFrom cX8_largestFrom 7 (some .int) 2 := ⟨wq_1508, wq_1507, wq_98, by decide +kernel⟩
theorem wq_1505 : Cond.methodLink RX8 267 yX8_largestFrom ∈ po_TB := List.mem_filter.mpr ⟨List.mem_of_getElem? (i := 1505) (by decide +kernel), by decide +kernel⟩
theorem wp_68 : Cond.selects RX8 yX8_largestFrom yX8_largestFrom ∈ po_TB := List.mem_filter.mpr ⟨List.mem_of_getElem? (i := 68) (by decide +kernel), by decide +kernel⟩
theorem ws_X8_largestFrom : Cond.selects yX8_largestFrom.cls yX8_largestFrom yX8_largestFrom ∈ po_TB := wp_68
theorem wq_1500 : Cond.code yX8_frontDistance cX8_frontDistance 4 (some .int) ∈ po_TB := List.mem_filter.mpr ⟨List.mem_of_getElem? (i := 1500) (by decide +kernel), by decide +kernel⟩
theorem wq_1499 : Cond.instanceMethod yX8_frontDistance ∈ po_TB := List.mem_filter.mpr ⟨List.mem_of_getElem? (i := 1499) (by decide +kernel), by decide +kernel⟩
theorem mv_X8_frontDistance : po_MV yX8_frontDistance cX8_frontDistance 4 (some .int) 3 := ⟨wq_1500, wq_1499, wq_98, by decide +kernel⟩
theorem wq_1497 : Cond.methodLink RX8 102 yX8_frontDistance ∈ po_TB := List.mem_filter.mpr ⟨List.mem_of_getElem? (i := 1497) (by decide +kernel), by decide +kernel⟩
theorem wp_66 : Cond.selects RX8 yX8_frontDistance yX8_frontDistance ∈ po_TB := List.mem_filter.mpr ⟨List.mem_of_getElem? (i := 66) (by decide +kernel), by decide +kernel⟩
theorem ws_X8_frontDistance : Cond.selects yX8_frontDistance.cls yX8_frontDistance yX8_frontDistance ∈ po_TB := wp_66
theorem wq_1504 : Cond.code yX8_sideDistance cX8_sideDistance 6 (some .int) ∈ po_TB := List.mem_filter.mpr ⟨List.mem_of_getElem? (i := 1504) (by decide +kernel), by decide +kernel⟩
theorem wq_1503 : Cond.instanceMethod yX8_sideDistance ∈ po_TB := List.mem_filter.mpr ⟨List.mem_of_getElem? (i := 1503) (by decide +kernel), by decide +kernel⟩
theorem mv_X8_sideDistance : po_MV yX8_sideDistance cX8_sideDistance 6 (some .int) 3 := ⟨wq_1504, wq_1503, wq_98, by decide +kernel⟩
theorem wq_1501 : Cond.methodLink RX8 106 yX8_sideDistance ∈ po_TB := List.mem_filter.mpr ⟨List.mem_of_getElem? (i := 1501) (by decide +kernel), by decide +kernel⟩
theorem wp_67 : Cond.selects RX8 yX8_sideDistance yX8_sideDistance ∈ po_TB := List.mem_filter.mpr ⟨List.mem_of_getElem? (i := 67) (by decide +kernel), by decide +kernel⟩
theorem ws_X8_sideDistance : Cond.selects yX8_sideDistance.cls yX8_sideDistance yX8_sideDistance ∈ po_TB := wp_67
theorem wq_1524 : Cond.code yX8_conditionPart cX8_conditionPart 5 (some .int) ∈ po_TB := List.mem_filter.mpr ⟨List.mem_of_getElem? (i := 1524) (by decide +kernel), by decide +kernel⟩
theorem wq_1523 : Cond.instanceMethod yX8_conditionPart ∈ po_TB := List.mem_filter.mpr ⟨List.mem_of_getElem? (i := 1523) (by decide +kernel), by decide +kernel⟩
theorem mv_X8_conditionPart : po_MV yX8_conditionPart cX8_conditionPart 5 (some .int) 3 := ⟨wq_1524, wq_1523, wq_98, by decide +kernel⟩
theorem wq_1521 : Cond.methodLink RX8 270 yX8_conditionPart ∈ po_TB := List.mem_filter.mpr ⟨List.mem_of_getElem? (i := 1521) (by decide +kernel), by decide +kernel⟩
theorem wp_71 : Cond.selects RX8 yX8_conditionPart yX8_conditionPart ∈ po_TB := List.mem_filter.mpr ⟨List.mem_of_getElem? (i := 71) (by decide +kernel), by decide +kernel⟩
theorem ws_X8_conditionPart : Cond.selects yX8_conditionPart.cls yX8_conditionPart yX8_conditionPart ∈ po_TB := wp_71
theorem wq_1520 : Cond.code yX8_openConditions cX8_openConditions 4 (some .int) ∈ po_TB := List.mem_filter.mpr ⟨List.mem_of_getElem? (i := 1520) (by decide +kernel), by decide +kernel⟩
theorem wq_1519 : Cond.instanceMethod yX8_openConditions ∈ po_TB := List.mem_filter.mpr ⟨List.mem_of_getElem? (i := 1519) (by decide +kernel), by decide +kernel⟩
theorem mv_X8_openConditions : po_MV yX8_openConditions cX8_openConditions 4 (some .int) 1 := ⟨wq_1520, wq_1519, wq_98, by decide +kernel⟩
theorem wq_1517 : Cond.methodLink RX8 276 yX8_openConditions ∈ po_TB := List.mem_filter.mpr ⟨List.mem_of_getElem? (i := 1517) (by decide +kernel), by decide +kernel⟩
theorem wp_70 : Cond.selects RX8 yX8_openConditions yX8_openConditions ∈ po_TB := List.mem_filter.mpr ⟨List.mem_of_getElem? (i := 70) (by decide +kernel), by decide +kernel⟩
theorem ws_X8_openConditions : Cond.selects yX8_openConditions.cls yX8_openConditions yX8_openConditions ∈ po_TB := wp_70
theorem wq_1516 : Cond.code yX8_isPermit cX8_isPermit 2 (some .boolean) ∈ po_TB := List.mem_filter.mpr ⟨List.mem_of_getElem? (i := 1516) (by decide +kernel), by decide +kernel⟩
theorem wq_1515 : Cond.instanceMethod yX8_isPermit ∈ po_TB := List.mem_filter.mpr ⟨List.mem_of_getElem? (i := 1515) (by decide +kernel), by decide +kernel⟩
theorem mv_X8_isPermit : po_MV yX8_isPermit cX8_isPermit 2 (some .boolean) 1 := ⟨wq_1516, wq_1515, wq_98, by decide +kernel⟩
theorem wq_1513 : Cond.methodLink RX8 273 yX8_isPermit ∈ po_TB := List.mem_filter.mpr ⟨List.mem_of_getElem? (i := 1513) (by decide +kernel), by decide +kernel⟩
theorem wp_69 : Cond.selects RX8 yX8_isPermit yX8_isPermit ∈ po_TB := List.mem_filter.mpr ⟨List.mem_of_getElem? (i := 69) (by decide +kernel), by decide +kernel⟩
theorem ws_X8_isPermit : Cond.selects yX8_isPermit.cls yX8_isPermit yX8_isPermit ∈ po_TB := wp_69
theorem wq_1540 : Cond.code yX8_overCells cX8_overCells 10 (some .int) ∈ po_TB := List.mem_filter.mpr ⟨List.mem_of_getElem? (i := 1540) (by decide +kernel), by decide +kernel⟩
theorem wq_1539 : Cond.instanceMethod yX8_overCells ∈ po_TB := List.mem_filter.mpr ⟨List.mem_of_getElem? (i := 1539) (by decide +kernel), by decide +kernel⟩
theorem mv_X8_overCells : po_MV yX8_overCells cX8_overCells 10 (some .int) 2 := ⟨wq_1540, wq_1539, wq_98, by decide +kernel⟩
theorem wq_1537 : Cond.methodLink RX8 112 yX8_overCells ∈ po_TB := List.mem_filter.mpr ⟨List.mem_of_getElem? (i := 1537) (by decide +kernel), by decide +kernel⟩
theorem wp_74 : Cond.selects RX8 yX8_overCells yX8_overCells ∈ po_TB := List.mem_filter.mpr ⟨List.mem_of_getElem? (i := 74) (by decide +kernel), by decide +kernel⟩
theorem ws_X8_overCells : Cond.selects yX8_overCells.cls yX8_overCells yX8_overCells ∈ po_TB := wp_74
theorem wq_1543 : Cond.code yX8_up cX8_up 2 (some .int) ∈ po_TB := List.mem_filter.mpr ⟨List.mem_of_getElem? (i := 1543) (by decide +kernel), by decide +kernel⟩
theorem wq_1542 : Cond.static yX8_up ∈ po_TB := List.mem_filter.mpr ⟨List.mem_of_getElem? (i := 1542) (by decide +kernel), by decide +kernel⟩
theorem mv_X8_up : po_MS yX8_up cX8_up 2 (some .int) 2 := ⟨wq_1543, wq_1542, wq_98, by decide +kernel⟩
theorem wq_1541 : Cond.methodLink RX8 118 yX8_up ∈ po_TB := List.mem_filter.mpr ⟨List.mem_of_getElem? (i := 1541) (by decide +kernel), by decide +kernel⟩
theorem wq_1551 : Cond.code yX8_ruleOf cX8_ruleOf 3 (some .int) ∈ po_TB := List.mem_filter.mpr ⟨List.mem_of_getElem? (i := 1551) (by decide +kernel), by decide +kernel⟩
theorem wq_1550 : Cond.instanceMethod yX8_ruleOf ∈ po_TB := List.mem_filter.mpr ⟨List.mem_of_getElem? (i := 1550) (by decide +kernel), by decide +kernel⟩
theorem mv_X8_ruleOf : po_MV yX8_ruleOf cX8_ruleOf 3 (some .int) 2 := ⟨wq_1551, wq_1550, wq_98, by decide +kernel⟩
theorem wq_1548 : Cond.methodLink RX8 124 yX8_ruleOf ∈ po_TB := List.mem_filter.mpr ⟨List.mem_of_getElem? (i := 1548) (by decide +kernel), by decide +kernel⟩
theorem wp_76 : Cond.selects RX8 yX8_ruleOf yX8_ruleOf ∈ po_TB := List.mem_filter.mpr ⟨List.mem_of_getElem? (i := 76) (by decide +kernel), by decide +kernel⟩
theorem ws_X8_ruleOf : Cond.selects yX8_ruleOf.cls yX8_ruleOf yX8_ruleOf ∈ po_TB := wp_76
theorem wq_1566 : Cond.code yX8_variancePart cX8_variancePart 3 (some .int) ∈ po_TB := List.mem_filter.mpr ⟨List.mem_of_getElem? (i := 1566) (by decide +kernel), by decide +kernel⟩
theorem wq_1565 : Cond.instanceMethod yX8_variancePart ∈ po_TB := List.mem_filter.mpr ⟨List.mem_of_getElem? (i := 1565) (by decide +kernel), by decide +kernel⟩
theorem mv_X8_variancePart : po_MV yX8_variancePart cX8_variancePart 3 (some .int) 2 := ⟨wq_1566, wq_1565, wq_98, by decide +kernel⟩
theorem wq_1563 : Cond.methodLink RX8 130 yX8_variancePart ∈ po_TB := List.mem_filter.mpr ⟨List.mem_of_getElem? (i := 1563) (by decide +kernel), by decide +kernel⟩
theorem wp_79 : Cond.selects RX8 yX8_variancePart yX8_variancePart ∈ po_TB := List.mem_filter.mpr ⟨List.mem_of_getElem? (i := 79) (by decide +kernel), by decide +kernel⟩
theorem ws_X8_variancePart : Cond.selects yX8_variancePart.cls yX8_variancePart yX8_variancePart ∈ po_TB := wp_79
theorem wq_1554 : Cond.code yX8_isWrong cX8_isWrong 3 (some .boolean) ∈ po_TB := List.mem_filter.mpr ⟨List.mem_of_getElem? (i := 1554) (by decide +kernel), by decide +kernel⟩
theorem wq_1553 : Cond.static yX8_isWrong ∈ po_TB := List.mem_filter.mpr ⟨List.mem_of_getElem? (i := 1553) (by decide +kernel), by decide +kernel⟩
theorem mv_X8_isWrong : po_MS yX8_isWrong cX8_isWrong 3 (some .boolean) 3 := ⟨wq_1554, wq_1553, wq_98, by decide +kernel⟩
theorem wq_1552 : Cond.methodLink RX8 127 yX8_isWrong ∈ po_TB := List.mem_filter.mpr ⟨List.mem_of_getElem? (i := 1552) (by decide +kernel), by decide +kernel⟩
theorem wq_1562 : Cond.code yX8_isInForce cX8_isInForce 2 (some .boolean) ∈ po_TB := List.mem_filter.mpr ⟨List.mem_of_getElem? (i := 1562) (by decide +kernel), by decide +kernel⟩
theorem wq_1561 : Cond.instanceMethod yX8_isInForce ∈ po_TB := List.mem_filter.mpr ⟨List.mem_of_getElem? (i := 1561) (by decide +kernel), by decide +kernel⟩
theorem mv_X8_isInForce : po_MV yX8_isInForce cX8_isInForce 2 (some .boolean) 1 := ⟨wq_1562, wq_1561, wq_98, by decide +kernel⟩
theorem wq_1559 : Cond.methodLink RX8 133 yX8_isInForce ∈ po_TB := List.mem_filter.mpr ⟨List.mem_of_getElem? (i := 1559) (by decide +kernel), by decide +kernel⟩
theorem wp_78 : Cond.selects RX8 yX8_isInForce yX8_isInForce ∈ po_TB := List.mem_filter.mpr ⟨List.mem_of_getElem? (i := 78) (by decide +kernel), by decide +kernel⟩
theorem ws_X8_isInForce : Cond.selects yX8_isInForce.cls yX8_isInForce yX8_isInForce ∈ po_TB := wp_78
theorem wq_1569 : Cond.code yX8_helps cX8_helps 5 (some .boolean) ∈ po_TB := List.mem_filter.mpr ⟨List.mem_of_getElem? (i := 1569) (by decide +kernel), by decide +kernel⟩
theorem wq_1568 : Cond.static yX8_helps ∈ po_TB := List.mem_filter.mpr ⟨List.mem_of_getElem? (i := 1568) (by decide +kernel), by decide +kernel⟩
theorem mv_X8_helps : po_MS yX8_helps cX8_helps 5 (some .boolean) 4 := ⟨wq_1569, wq_1568, wq_98, by decide +kernel⟩
theorem wq_1567 : Cond.methodLink RX8 136 yX8_helps ∈ po_TB := List.mem_filter.mpr ⟨List.mem_of_getElem? (i := 1567) (by decide +kernel), by decide +kernel⟩
theorem wq_1536 : Cond.code yX8_measure cX8_measure 4 (some .int) ∈ po_TB := List.mem_filter.mpr ⟨List.mem_of_getElem? (i := 1536) (by decide +kernel), by decide +kernel⟩
theorem wq_1535 : Cond.instanceMethod yX8_measure ∈ po_TB := List.mem_filter.mpr ⟨List.mem_of_getElem? (i := 1535) (by decide +kernel), by decide +kernel⟩
theorem mv_X8_measure : po_MV yX8_measure cX8_measure 4 (some .int) 2 := ⟨wq_1536, wq_1535, wq_98, by decide +kernel⟩
theorem wq_1533 : Cond.methodLink RX8 151 yX8_measure ∈ po_TB := List.mem_filter.mpr ⟨List.mem_of_getElem? (i := 1533) (by decide +kernel), by decide +kernel⟩
theorem wp_73 : Cond.selects RX8 yX8_measure yX8_measure ∈ po_TB := List.mem_filter.mpr ⟨List.mem_of_getElem? (i := 73) (by decide +kernel), by decide +kernel⟩
theorem ws_X8_measure : Cond.selects yX8_measure.cls yX8_measure yX8_measure ∈ po_TB := wp_73
theorem wq_1547 : Cond.code yX8_limit cX8_limit 3 (some .int) ∈ po_TB := List.mem_filter.mpr ⟨List.mem_of_getElem? (i := 1547) (by decide +kernel), by decide +kernel⟩
theorem wq_1546 : Cond.instanceMethod yX8_limit ∈ po_TB := List.mem_filter.mpr ⟨List.mem_of_getElem? (i := 1546) (by decide +kernel), by decide +kernel⟩
theorem mv_X8_limit : po_MV yX8_limit cX8_limit 3 (some .int) 2 := ⟨wq_1547, wq_1546, wq_98, by decide +kernel⟩
theorem wq_1544 : Cond.methodLink RX8 154 yX8_limit ∈ po_TB := List.mem_filter.mpr ⟨List.mem_of_getElem? (i := 1544) (by decide +kernel), by decide +kernel⟩
theorem wp_75 : Cond.selects RX8 yX8_limit yX8_limit ∈ po_TB := List.mem_filter.mpr ⟨List.mem_of_getElem? (i := 75) (by decide +kernel), by decide +kernel⟩
theorem ws_X8_limit : Cond.selects yX8_limit.cls yX8_limit yX8_limit ∈ po_TB := wp_75
theorem wq_1226 : Cond.fieldLink RX8 139 "PermitOfficeModel" "found" "I" ∈ po_TB := List.mem_filter.mpr ⟨List.mem_of_getElem? (i := 1226) (by decide +kernel), by decide +kernel⟩
theorem fl_X8_139 : po_FL RX8 139 8 7 := ⟨_, rfl, by decide, rfl, Or.inl wq_1226⟩
theorem wq_1558 : Cond.code yX8_used cX8_used 8 (some .int) ∈ po_TB := List.mem_filter.mpr ⟨List.mem_of_getElem? (i := 1558) (by decide +kernel), by decide +kernel⟩
theorem wq_1557 : Cond.instanceMethod yX8_used ∈ po_TB := List.mem_filter.mpr ⟨List.mem_of_getElem? (i := 1557) (by decide +kernel), by decide +kernel⟩
theorem mv_X8_used : po_MV yX8_used cX8_used 8 (some .int) 4 := ⟨wq_1558, wq_1557, wq_98, by decide +kernel⟩
theorem wq_1555 : Cond.methodLink RX8 157 yX8_used ∈ po_TB := List.mem_filter.mpr ⟨List.mem_of_getElem? (i := 1555) (by decide +kernel), by decide +kernel⟩
theorem wp_77 : Cond.selects RX8 yX8_used yX8_used ∈ po_TB := List.mem_filter.mpr ⟨List.mem_of_getElem? (i := 77) (by decide +kernel), by decide +kernel⟩
theorem ws_X8_used : Cond.selects yX8_used.cls yX8_used yX8_used ∈ po_TB := wp_77
theorem wq_1227 : Cond.fieldLink RX8 142 "PermitOfficeModel" "relieved" "I" ∈ po_TB := List.mem_filter.mpr ⟨List.mem_of_getElem? (i := 1227) (by decide +kernel), by decide +kernel⟩
theorem fl_X8_142 : po_FL RX8 142 8 8 := ⟨_, rfl, by decide, rfl, Or.inl wq_1227⟩
theorem wq_1228 : Cond.fieldLink RX8 145 "PermitOfficeModel" "usedSet" "I" ∈ po_TB := List.mem_filter.mpr ⟨List.mem_of_getElem? (i := 1228) (by decide +kernel), by decide +kernel⟩
theorem fl_X8_145 : po_FL RX8 145 8 9 := ⟨_, rfl, by decide, rfl, Or.inl wq_1228⟩
theorem wq_1229 : Cond.fieldLink RX8 148 "PermitOfficeModel" "usedMany" "I" ∈ po_TB := List.mem_filter.mpr ⟨List.mem_of_getElem? (i := 1229) (by decide +kernel), by decide +kernel⟩
theorem fl_X8_148 : po_FL RX8 148 8 10 := ⟨_, rfl, by decide, rfl, Or.inl wq_1229⟩
theorem wq_1532 : Cond.code yX8_find cX8_find 6 none ∈ po_TB := List.mem_filter.mpr ⟨List.mem_of_getElem? (i := 1532) (by decide +kernel), by decide +kernel⟩
theorem wq_1531 : Cond.instanceMethod yX8_find ∈ po_TB := List.mem_filter.mpr ⟨List.mem_of_getElem? (i := 1531) (by decide +kernel), by decide +kernel⟩
theorem mv_X8_find : po_MV yX8_find cX8_find 6 none 1 := ⟨wq_1532, wq_1531, wq_98, by decide +kernel⟩
theorem wq_1529 : Cond.methodLink RX8 279 yX8_find ∈ po_TB := List.mem_filter.mpr ⟨List.mem_of_getElem? (i := 1529) (by decide +kernel), by decide +kernel⟩
theorem wp_72 : Cond.selects RX8 yX8_find yX8_find ∈ po_TB := List.mem_filter.mpr ⟨List.mem_of_getElem? (i := 72) (by decide +kernel), by decide +kernel⟩
theorem ws_X8_find : Cond.selects yX8_find.cls yX8_find yX8_find ∈ po_TB := wp_72
theorem wq_1580 : Cond.code yX8_bits cX8_bits 3 (some .int) ∈ po_TB := List.mem_filter.mpr ⟨List.mem_of_getElem? (i := 1580) (by decide +kernel), by decide +kernel⟩
theorem wq_1579 : Cond.static yX8_bits ∈ po_TB := List.mem_filter.mpr ⟨List.mem_of_getElem? (i := 1579) (by decide +kernel), by decide +kernel⟩
theorem mv_X8_bits : po_MS yX8_bits cX8_bits 3 (some .int) 1 := ⟨wq_1580, wq_1579, wq_98, by decide +kernel⟩
theorem wq_1578 : Cond.methodLink RX8 282 yX8_bits ∈ po_TB := List.mem_filter.mpr ⟨List.mem_of_getElem? (i := 1578) (by decide +kernel), by decide +kernel⟩
theorem wq_1591 : Cond.code yX8_lowest cX8_lowest 2 (some .int) ∈ po_TB := List.mem_filter.mpr ⟨List.mem_of_getElem? (i := 1591) (by decide +kernel), by decide +kernel⟩
theorem wq_1590 : Cond.static yX8_lowest ∈ po_TB := List.mem_filter.mpr ⟨List.mem_of_getElem? (i := 1590) (by decide +kernel), by decide +kernel⟩
theorem mv_X8_lowest : po_MS yX8_lowest cX8_lowest 2 (some .int) 1 := ⟨wq_1591, wq_1590, wq_98, by decide +kernel⟩
theorem wq_1589 : Cond.methodLink RX8 289 yX8_lowest ∈ po_TB := List.mem_filter.mpr ⟨List.mem_of_getElem? (i := 1589) (by decide +kernel), by decide +kernel⟩
theorem wq_1595 : Cond.code yX8_giveBack cX8_giveBack 3 none ∈ po_TB := List.mem_filter.mpr ⟨List.mem_of_getElem? (i := 1595) (by decide +kernel), by decide +kernel⟩
theorem wq_1594 : Cond.instanceMethod yX8_giveBack ∈ po_TB := List.mem_filter.mpr ⟨List.mem_of_getElem? (i := 1594) (by decide +kernel), by decide +kernel⟩
theorem mv_X8_giveBack : po_MV yX8_giveBack cX8_giveBack 3 none 2 := ⟨wq_1595, wq_1594, wq_98, by decide +kernel⟩
theorem wq_1592 : Cond.methodLink RX8 292 yX8_giveBack ∈ po_TB := List.mem_filter.mpr ⟨List.mem_of_getElem? (i := 1592) (by decide +kernel), by decide +kernel⟩
theorem wp_81 : Cond.selects RX8 yX8_giveBack yX8_giveBack ∈ po_TB := List.mem_filter.mpr ⟨List.mem_of_getElem? (i := 81) (by decide +kernel), by decide +kernel⟩
theorem ws_X8_giveBack : Cond.selects yX8_giveBack.cls yX8_giveBack yX8_giveBack ∈ po_TB := wp_81
theorem wq_1588 : Cond.code yX8_pay cX8_pay 3 none ∈ po_TB := List.mem_filter.mpr ⟨List.mem_of_getElem? (i := 1588) (by decide +kernel), by decide +kernel⟩
theorem wq_1587 : Cond.instanceMethod yX8_pay ∈ po_TB := List.mem_filter.mpr ⟨List.mem_of_getElem? (i := 1587) (by decide +kernel), by decide +kernel⟩
theorem mv_X8_pay : po_MV yX8_pay cX8_pay 3 none 2 := ⟨wq_1588, wq_1587, wq_98, by decide +kernel⟩
theorem wq_1585 : Cond.methodLink RX8 285 yX8_pay ∈ po_TB := List.mem_filter.mpr ⟨List.mem_of_getElem? (i := 1585) (by decide +kernel), by decide +kernel⟩
theorem wp_80 : Cond.selects RX8 yX8_pay yX8_pay ∈ po_TB := List.mem_filter.mpr ⟨List.mem_of_getElem? (i := 80) (by decide +kernel), by decide +kernel⟩
theorem ws_X8_pay : Cond.selects yX8_pay.cls yX8_pay yX8_pay ∈ po_TB := wp_80
theorem wq_1611 : Cond.code yX8_group cX8_group 3 (some .int) ∈ po_TB := List.mem_filter.mpr ⟨List.mem_of_getElem? (i := 1611) (by decide +kernel), by decide +kernel⟩
theorem wq_1610 : Cond.instanceMethod yX8_group ∈ po_TB := List.mem_filter.mpr ⟨List.mem_of_getElem? (i := 1610) (by decide +kernel), by decide +kernel⟩
theorem mv_X8_group : po_MV yX8_group cX8_group 3 (some .int) 1 := ⟨wq_1611, wq_1610, wq_98, by decide +kernel⟩
theorem wq_1608 : Cond.methodLink RX8 295 yX8_group ∈ po_TB := List.mem_filter.mpr ⟨List.mem_of_getElem? (i := 1608) (by decide +kernel), by decide +kernel⟩
theorem wp_82 : Cond.selects RX8 yX8_group yX8_group ∈ po_TB := List.mem_filter.mpr ⟨List.mem_of_getElem? (i := 82) (by decide +kernel), by decide +kernel⟩
theorem ws_X8_group : Cond.selects yX8_group.cls yX8_group yX8_group ∈ po_TB := wp_82
theorem wq_1615 : Cond.code yX8_isAhead cX8_isAhead 4 (some .boolean) ∈ po_TB := List.mem_filter.mpr ⟨List.mem_of_getElem? (i := 1615) (by decide +kernel), by decide +kernel⟩
theorem wq_1614 : Cond.instanceMethod yX8_isAhead ∈ po_TB := List.mem_filter.mpr ⟨List.mem_of_getElem? (i := 1614) (by decide +kernel), by decide +kernel⟩
theorem mv_X8_isAhead : po_MV yX8_isAhead cX8_isAhead 4 (some .boolean) 2 := ⟨wq_1615, wq_1614, wq_98, by decide +kernel⟩
theorem wq_1612 : Cond.methodLink RX8 298 yX8_isAhead ∈ po_TB := List.mem_filter.mpr ⟨List.mem_of_getElem? (i := 1612) (by decide +kernel), by decide +kernel⟩
theorem wp_83 : Cond.selects RX8 yX8_isAhead yX8_isAhead ∈ po_TB := List.mem_filter.mpr ⟨List.mem_of_getElem? (i := 83) (by decide +kernel), by decide +kernel⟩
theorem ws_X8_isAhead : Cond.selects yX8_isAhead.cls yX8_isAhead yX8_isAhead ∈ po_TB := wp_83
theorem wq_1623 : Cond.code yX8_namedBy cX8_namedBy 4 (some .int) ∈ po_TB := List.mem_filter.mpr ⟨List.mem_of_getElem? (i := 1623) (by decide +kernel), by decide +kernel⟩
theorem wq_1622 : Cond.instanceMethod yX8_namedBy ∈ po_TB := List.mem_filter.mpr ⟨List.mem_of_getElem? (i := 1622) (by decide +kernel), by decide +kernel⟩
theorem mv_X8_namedBy : po_MV yX8_namedBy cX8_namedBy 4 (some .int) 1 := ⟨wq_1623, wq_1622, wq_98, by decide +kernel⟩
theorem wq_1620 : Cond.methodLink RX8 302 yX8_namedBy ∈ po_TB := List.mem_filter.mpr ⟨List.mem_of_getElem? (i := 1620) (by decide +kernel), by decide +kernel⟩
theorem wp_84 : Cond.selects RX8 yX8_namedBy yX8_namedBy ∈ po_TB := List.mem_filter.mpr ⟨List.mem_of_getElem? (i := 84) (by decide +kernel), by decide +kernel⟩
theorem ws_X8_namedBy : Cond.selects yX8_namedBy.cls yX8_namedBy yX8_namedBy ∈ po_TB := wp_84
theorem wq_1639 : Cond.code yX8_hasOpen cX8_hasOpen 6 (some .boolean) ∈ po_TB := List.mem_filter.mpr ⟨List.mem_of_getElem? (i := 1639) (by decide +kernel), by decide +kernel⟩
theorem wq_1638 : Cond.instanceMethod yX8_hasOpen ∈ po_TB := List.mem_filter.mpr ⟨List.mem_of_getElem? (i := 1638) (by decide +kernel), by decide +kernel⟩
theorem mv_X8_hasOpen : po_MV yX8_hasOpen cX8_hasOpen 6 (some .boolean) 3 := ⟨wq_1639, wq_1638, wq_98, by decide +kernel⟩
theorem wq_1636 : Cond.methodLink RX8 305 yX8_hasOpen ∈ po_TB := List.mem_filter.mpr ⟨List.mem_of_getElem? (i := 1636) (by decide +kernel), by decide +kernel⟩
theorem wp_85 : Cond.selects RX8 yX8_hasOpen yX8_hasOpen ∈ po_TB := List.mem_filter.mpr ⟨List.mem_of_getElem? (i := 85) (by decide +kernel), by decide +kernel⟩
theorem ws_X8_hasOpen : Cond.selects yX8_hasOpen.cls yX8_hasOpen yX8_hasOpen ∈ po_TB := wp_85
theorem wq_1663 : Cond.code yX8_sumOf cX8_sumOf 5 (some .int) ∈ po_TB := List.mem_filter.mpr ⟨List.mem_of_getElem? (i := 1663) (by decide +kernel), by decide +kernel⟩
theorem wq_1662 : Cond.instanceMethod yX8_sumOf ∈ po_TB := List.mem_filter.mpr ⟨List.mem_of_getElem? (i := 1662) (by decide +kernel), by decide +kernel⟩
theorem mv_X8_sumOf : po_MV yX8_sumOf cX8_sumOf 5 (some .int) 2 := ⟨wq_1663, wq_1662, wq_98, by decide +kernel⟩
theorem wq_1660 : Cond.methodLink RX8 308 yX8_sumOf ∈ po_TB := List.mem_filter.mpr ⟨List.mem_of_getElem? (i := 1660) (by decide +kernel), by decide +kernel⟩
theorem wp_86 : Cond.selects RX8 yX8_sumOf yX8_sumOf ∈ po_TB := List.mem_filter.mpr ⟨List.mem_of_getElem? (i := 86) (by decide +kernel), by decide +kernel⟩
theorem ws_X8_sumOf : Cond.selects yX8_sumOf.cls yX8_sumOf yX8_sumOf ∈ po_TB := wp_86
theorem wq_1671 : Cond.code yX8_counted cX8_counted 4 (some .int) ∈ po_TB := List.mem_filter.mpr ⟨List.mem_of_getElem? (i := 1671) (by decide +kernel), by decide +kernel⟩
theorem wq_1670 : Cond.instanceMethod yX8_counted ∈ po_TB := List.mem_filter.mpr ⟨List.mem_of_getElem? (i := 1670) (by decide +kernel), by decide +kernel⟩
theorem mv_X8_counted : po_MV yX8_counted cX8_counted 4 (some .int) 1 := ⟨wq_1671, wq_1670, wq_98, by decide +kernel⟩
theorem wq_1668 : Cond.methodLink RX8 311 yX8_counted ∈ po_TB := List.mem_filter.mpr ⟨List.mem_of_getElem? (i := 1668) (by decide +kernel), by decide +kernel⟩
theorem wp_87 : Cond.selects RX8 yX8_counted yX8_counted ∈ po_TB := List.mem_filter.mpr ⟨List.mem_of_getElem? (i := 87) (by decide +kernel), by decide +kernel⟩
theorem ws_X8_counted : Cond.selects yX8_counted.cls yX8_counted yX8_counted ∈ po_TB := wp_87
theorem wq_1679 : Cond.code yX8_cellsInLots cX8_cellsInLots 3 (some .int) ∈ po_TB := List.mem_filter.mpr ⟨List.mem_of_getElem? (i := 1679) (by decide +kernel), by decide +kernel⟩
theorem wq_1678 : Cond.instanceMethod yX8_cellsInLots ∈ po_TB := List.mem_filter.mpr ⟨List.mem_of_getElem? (i := 1678) (by decide +kernel), by decide +kernel⟩
theorem mv_X8_cellsInLots : po_MV yX8_cellsInLots cX8_cellsInLots 3 (some .int) 0 := ⟨wq_1679, wq_1678, wq_98, by decide +kernel⟩
theorem wq_1676 : Cond.methodLink RX8 314 yX8_cellsInLots ∈ po_TB := List.mem_filter.mpr ⟨List.mem_of_getElem? (i := 1676) (by decide +kernel), by decide +kernel⟩
theorem wp_88 : Cond.selects RX8 yX8_cellsInLots yX8_cellsInLots ∈ po_TB := List.mem_filter.mpr ⟨List.mem_of_getElem? (i := 88) (by decide +kernel), by decide +kernel⟩
theorem ws_X8_cellsInLots : Cond.selects yX8_cellsInLots.cls yX8_cellsInLots yX8_cellsInLots ∈ po_TB := wp_88
theorem wq_1225 : Cond.fieldLink RX8 317 "PermitOfficeModel" "isSaved" "Z" ∈ po_TB := List.mem_filter.mpr ⟨List.mem_of_getElem? (i := 1225) (by decide +kernel), by decide +kernel⟩
theorem fl_X8_317 : po_FL RX8 317 8 6 := ⟨_, rfl, by decide, rfl, Or.inl wq_1225⟩
theorem wq_1224 : Cond.fieldLink RX8 23 "PermitOfficeModel" "saved" "[I" ∈ po_TB := List.mem_filter.mpr ⟨List.mem_of_getElem? (i := 1224) (by decide +kernel), by decide +kernel⟩
theorem fl_X8_23 : po_FL RX8 23 8 5 := ⟨_, rfl, by decide, rfl, Or.inl wq_1224⟩
