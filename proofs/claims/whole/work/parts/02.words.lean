def glw : List Cond := lw_tbl.filter goodWord
set_option maxRecDepth 100000 in
theorem k_0 : Cond.selects RX5 yX5_firstFault yX5_firstFault ∈ glw := List.mem_filter.mpr ⟨List.mem_of_getElem? (i := 0) rfl, rfl⟩
set_option maxRecDepth 100000 in
theorem k_1 : Cond.selects RX2 yX2_endBy yX2_endBy ∈ glw := List.mem_filter.mpr ⟨List.mem_of_getElem? (i := 1) rfl, rfl⟩
set_option maxRecDepth 100000 in
theorem k_2 : Cond.selects RX5 yX5_chanceOfOneStream yX5_chanceOfOneStream ∈ glw := List.mem_filter.mpr ⟨List.mem_of_getElem? (i := 2) rfl, rfl⟩
set_option maxRecDepth 100000 in
theorem k_3 : Cond.selects RX0 yX0_goOnFrom yX0_goOnFrom ∈ glw := List.mem_filter.mpr ⟨List.mem_of_getElem? (i := 3) rfl, rfl⟩
set_option maxRecDepth 100000 in
theorem k_4 : Cond.selects RX0 yX0_land yX0_land ∈ glw := List.mem_filter.mpr ⟨List.mem_of_getElem? (i := 4) rfl, rfl⟩
set_option maxRecDepth 100000 in
theorem k_5 : Cond.selects RX0 yX0_landByWeights yX0_landByWeights ∈ glw := List.mem_filter.mpr ⟨List.mem_of_getElem? (i := 5) rfl, rfl⟩
set_option maxRecDepth 100000 in
theorem k_6 : Cond.selects RX4 yX4_goOn yX4_goOn ∈ glw := List.mem_filter.mpr ⟨List.mem_of_getElem? (i := 6) rfl, rfl⟩
set_option maxRecDepth 100000 in
theorem k_7 : Cond.selects RX4 yX4_tryCounts yX4_tryCounts ∈ glw := List.mem_filter.mpr ⟨List.mem_of_getElem? (i := 7) rfl, rfl⟩
set_option maxRecDepth 100000 in
theorem k_8 : Cond.selects RX4 yX4_weigh yX4_weigh ∈ glw := List.mem_filter.mpr ⟨List.mem_of_getElem? (i := 8) rfl, rfl⟩
set_option maxRecDepth 100000 in
theorem k_9 : Cond.selects RX4 yX4_holds yX4_holds ∈ glw := List.mem_filter.mpr ⟨List.mem_of_getElem? (i := 9) rfl, rfl⟩
set_option maxRecDepth 100000 in
theorem k_10 : Cond.selects RX5 yX5_writtenAt yX5_writtenAt ∈ glw := List.mem_filter.mpr ⟨List.mem_of_getElem? (i := 10) rfl, rfl⟩
set_option maxRecDepth 100000 in
theorem k_11 : Cond.selects RX1 yX1_findSpots yX1_findSpots ∈ glw := List.mem_filter.mpr ⟨List.mem_of_getElem? (i := 11) rfl, rfl⟩
set_option maxRecDepth 100000 in
theorem k_12 : Cond.selects RX1 yX1_findRoots yX1_findRoots ∈ glw := List.mem_filter.mpr ⟨List.mem_of_getElem? (i := 12) rfl, rfl⟩
set_option maxRecDepth 100000 in
theorem k_13 : Cond.selects RX1 yX1_rootBy yX1_rootBy ∈ glw := List.mem_filter.mpr ⟨List.mem_of_getElem? (i := 13) rfl, rfl⟩
set_option maxRecDepth 100000 in
theorem k_14 : Cond.selects RX1 yX1_takeNeeds yX1_takeNeeds ∈ glw := List.mem_filter.mpr ⟨List.mem_of_getElem? (i := 14) rfl, rfl⟩
set_option maxRecDepth 100000 in
theorem k_15 : Cond.selects RX1 yX1_goOn yX1_goOn ∈ glw := List.mem_filter.mpr ⟨List.mem_of_getElem? (i := 15) rfl, rfl⟩
set_option maxRecDepth 100000 in
theorem k_16 : Cond.selects RX1 yX1_leadTo yX1_leadTo ∈ glw := List.mem_filter.mpr ⟨List.mem_of_getElem? (i := 16) rfl, rfl⟩
set_option maxRecDepth 100000 in
theorem k_17 : Cond.selects RX6 yX6_faultOf yX6_faultOf ∈ glw := List.mem_filter.mpr ⟨List.mem_of_getElem? (i := 17) rfl, rfl⟩
set_option maxRecDepth 100000 in
theorem k_18 : Cond.selects RX6 yX6_allWeights yX6_allWeights ∈ glw := List.mem_filter.mpr ⟨List.mem_of_getElem? (i := 18) rfl, rfl⟩
set_option maxRecDepth 100000 in
theorem k_19 : Cond.selects RX6 yX6_isPlace yX6_isPlace ∈ glw := List.mem_filter.mpr ⟨List.mem_of_getElem? (i := 19) rfl, rfl⟩
set_option maxRecDepth 100000 in
theorem k_20 : Cond.selects RX6 yX6_isWhole yX6_isWhole ∈ glw := List.mem_filter.mpr ⟨List.mem_of_getElem? (i := 20) rfl, rfl⟩
set_option maxRecDepth 100000 in
theorem k_21 : Cond.selects RX6 yX6_many yX6_many ∈ glw := List.mem_filter.mpr ⟨List.mem_of_getElem? (i := 21) rfl, rfl⟩
set_option maxRecDepth 100000 in
theorem k_22 : Cond.selects RX6 yX6_lay yX6_lay ∈ glw := List.mem_filter.mpr ⟨List.mem_of_getElem? (i := 22) rfl, rfl⟩
set_option maxRecDepth 100000 in
theorem k_23 : Cond.selects RX6 yX6_outOf yX6_outOf ∈ glw := List.mem_filter.mpr ⟨List.mem_of_getElem? (i := 23) rfl, rfl⟩
set_option maxRecDepth 100000 in
theorem k_24 : Cond.selects RX6 yX6_outsOfAll yX6_outsOfAll ∈ glw := List.mem_filter.mpr ⟨List.mem_of_getElem? (i := 24) rfl, rfl⟩
set_option maxRecDepth 100000 in
theorem k_25 : Cond.selects RX6 yX6_meetOf yX6_meetOf ∈ glw := List.mem_filter.mpr ⟨List.mem_of_getElem? (i := 25) rfl, rfl⟩
set_option maxRecDepth 100000 in
theorem k_26 : Cond.selects RX6 yX6_isPassed yX6_isPassed ∈ glw := List.mem_filter.mpr ⟨List.mem_of_getElem? (i := 26) rfl, rfl⟩
set_option maxRecDepth 100000 in
theorem k_27 : Cond.selects RX6 yX6_comesTo yX6_comesTo ∈ glw := List.mem_filter.mpr ⟨List.mem_of_getElem? (i := 27) rfl, rfl⟩
set_option maxRecDepth 100000 in
theorem k_28 : Cond.selects RX6 yX6_layBehind yX6_layBehind ∈ glw := List.mem_filter.mpr ⟨List.mem_of_getElem? (i := 28) rfl, rfl⟩
set_option maxRecDepth 100000 in
theorem k_29 : Cond.selects RX6 yX6_keepOuts yX6_keepOuts ∈ glw := List.mem_filter.mpr ⟨List.mem_of_getElem? (i := 29) rfl, rfl⟩
set_option maxRecDepth 100000 in
theorem k_30 : Cond.selects RX6 yX6_mindsBy yX6_mindsBy ∈ glw := List.mem_filter.mpr ⟨List.mem_of_getElem? (i := 30) rfl, rfl⟩
set_option maxRecDepth 100000 in
theorem k_31 : Cond.selects RX6 yX6_mostAtOne yX6_mostAtOne ∈ glw := List.mem_filter.mpr ⟨List.mem_of_getElem? (i := 31) rfl, rfl⟩
set_option maxRecDepth 100000 in
theorem k_32 : Cond.selects RX6 yX6_codes yX6_codes ∈ glw := List.mem_filter.mpr ⟨List.mem_of_getElem? (i := 32) rfl, rfl⟩
set_option maxRecDepth 100000 in
theorem k_33 : Cond.selects RX6 yX6_writeIn yX6_writeIn ∈ glw := List.mem_filter.mpr ⟨List.mem_of_getElem? (i := 33) rfl, rfl⟩
set_option maxRecDepth 100000 in
theorem k_34 : Cond.selects RX6 yX6_wholeWeight yX6_wholeWeight ∈ glw := List.mem_filter.mpr ⟨List.mem_of_getElem? (i := 34) rfl, rfl⟩
set_option maxRecDepth 100000 in
theorem k_35 : Cond.selects RX6 yX6_isAllowed yX6_isAllowed ∈ glw := List.mem_filter.mpr ⟨List.mem_of_getElem? (i := 35) rfl, rfl⟩
set_option maxRecDepth 100000 in
theorem k_36 : Cond.selects RX6 yX6_holds yX6_holds ∈ glw := List.mem_filter.mpr ⟨List.mem_of_getElem? (i := 36) rfl, rfl⟩
set_option maxRecDepth 100000 in
theorem k_37 : Cond.selects RX6 yX6_isApart yX6_isApart ∈ glw := List.mem_filter.mpr ⟨List.mem_of_getElem? (i := 37) rfl, rfl⟩
set_option maxRecDepth 100000 in
theorem k_38 : Cond.selects RX6 yX6_countIn yX6_countIn ∈ glw := List.mem_filter.mpr ⟨List.mem_of_getElem? (i := 38) rfl, rfl⟩
set_option maxRecDepth 100000 in
theorem k_39 : Cond.selects RX6 yX6_firstPassed yX6_firstPassed ∈ glw := List.mem_filter.mpr ⟨List.mem_of_getElem? (i := 39) rfl, rfl⟩
set_option maxRecDepth 100000 in
theorem k_40 : Cond.selects RX6 yX6_areSeen yX6_areSeen ∈ glw := List.mem_filter.mpr ⟨List.mem_of_getElem? (i := 40) rfl, rfl⟩
set_option maxRecDepth 100000 in
theorem k_41 : Cond.selects RX6 yX6_takePack yX6_takePack ∈ glw := List.mem_filter.mpr ⟨List.mem_of_getElem? (i := 41) rfl, rfl⟩
set_option maxRecDepth 100000 in
theorem k_42 : Cond.selects RX6 yX6_mix yX6_mix ∈ glw := List.mem_filter.mpr ⟨List.mem_of_getElem? (i := 42) rfl, rfl⟩
set_option maxRecDepth 100000 in
theorem k_43 : Cond.initialized RL ∈ glw := List.mem_filter.mpr ⟨List.mem_of_getElem? (i := 43) rfl, rfl⟩
set_option maxRecDepth 100000 in
theorem k_44 : Cond.initialized RX5 ∈ glw := List.mem_filter.mpr ⟨List.mem_of_getElem? (i := 44) rfl, rfl⟩
set_option maxRecDepth 100000 in
theorem k_45 : Cond.initialized RX3 ∈ glw := List.mem_filter.mpr ⟨List.mem_of_getElem? (i := 45) rfl, rfl⟩
set_option maxRecDepth 100000 in
theorem k_46 : Cond.initialized RX2 ∈ glw := List.mem_filter.mpr ⟨List.mem_of_getElem? (i := 46) rfl, rfl⟩
set_option maxRecDepth 100000 in
theorem k_47 : Cond.initialized RX0 ∈ glw := List.mem_filter.mpr ⟨List.mem_of_getElem? (i := 47) rfl, rfl⟩
set_option maxRecDepth 100000 in
theorem k_48 : Cond.initialized RX4 ∈ glw := List.mem_filter.mpr ⟨List.mem_of_getElem? (i := 48) rfl, rfl⟩
set_option maxRecDepth 100000 in
theorem k_49 : Cond.initialized RX1 ∈ glw := List.mem_filter.mpr ⟨List.mem_of_getElem? (i := 49) rfl, rfl⟩
set_option maxRecDepth 100000 in
theorem k_50 : Cond.initialized RX6 ∈ glw := List.mem_filter.mpr ⟨List.mem_of_getElem? (i := 50) rfl, rfl⟩
set_option maxRecDepth 100000 in
theorem k_51 : Cond.initialized RJ9 ∈ glw := List.mem_filter.mpr ⟨List.mem_of_getElem? (i := 51) rfl, rfl⟩
set_option maxRecDepth 100000 in
theorem k_52 : Cond.initialized RJ10 ∈ glw := List.mem_filter.mpr ⟨List.mem_of_getElem? (i := 52) rfl, rfl⟩
set_option maxRecDepth 100000 in
theorem k_53 : Cond.initialized RJ13 ∈ glw := List.mem_filter.mpr ⟨List.mem_of_getElem? (i := 53) rfl, rfl⟩
set_option maxRecDepth 100000 in
theorem k_54 : Cond.initialized RJ7 ∈ glw := List.mem_filter.mpr ⟨List.mem_of_getElem? (i := 54) rfl, rfl⟩
set_option maxRecDepth 100000 in
theorem k_55 : Cond.initialized RJ6 ∈ glw := List.mem_filter.mpr ⟨List.mem_of_getElem? (i := 55) rfl, rfl⟩
set_option maxRecDepth 100000 in
theorem k_56 : Cond.classLink RL 7 "WhereverBegun" ∈ glw := List.mem_filter.mpr ⟨List.mem_of_getElem? (i := 56) rfl, rfl⟩
set_option maxRecDepth 100000 in
theorem k_57 : Cond.instantiable RX5 9 ∈ glw := List.mem_filter.mpr ⟨List.mem_of_getElem? (i := 57) rfl, rfl⟩
set_option maxRecDepth 100000 in
theorem k_58 : Cond.methodLink RL 9 yX5_init ∈ glw := List.mem_filter.mpr ⟨List.mem_of_getElem? (i := 58) rfl, rfl⟩
set_option maxRecDepth 100000 in
theorem k_59 : Cond.instanceMethod yX5_init ∈ glw := List.mem_filter.mpr ⟨List.mem_of_getElem? (i := 59) rfl, rfl⟩
set_option maxRecDepth 100000 in
theorem k_60 : Cond.code yX5_init cX5_init 1 none ∈ glw := List.mem_filter.mpr ⟨List.mem_of_getElem? (i := 60) rfl, rfl⟩
set_option maxRecDepth 100000 in
theorem k_61 : Cond.methodLink RX5 1 objectInit ∈ glw := List.mem_filter.mpr ⟨List.mem_of_getElem? (i := 61) rfl, rfl⟩
set_option maxRecDepth 100000 in
theorem k_62 : Cond.instanceMethod objectInit ∈ glw := List.mem_filter.mpr ⟨List.mem_of_getElem? (i := 62) rfl, rfl⟩
set_option maxRecDepth 100000 in
theorem k_63 : Cond.code objectInit object_method_1_code 1 none ∈ glw := List.mem_filter.mpr ⟨List.mem_of_getElem? (i := 63) rfl, rfl⟩
set_option maxRecDepth 100000 in
theorem k_64 : Cond.classLink RX5 17 "WhereverBegun$Table" ∈ glw := List.mem_filter.mpr ⟨List.mem_of_getElem? (i := 64) rfl, rfl⟩
set_option maxRecDepth 100000 in
theorem k_65 : Cond.instantiable RX3 10 ∈ glw := List.mem_filter.mpr ⟨List.mem_of_getElem? (i := 65) rfl, rfl⟩
set_option maxRecDepth 100000 in
theorem k_66 : Cond.methodLink RX5 19 yX3_init ∈ glw := List.mem_filter.mpr ⟨List.mem_of_getElem? (i := 66) rfl, rfl⟩
set_option maxRecDepth 100000 in
theorem k_67 : Cond.instanceMethod yX3_init ∈ glw := List.mem_filter.mpr ⟨List.mem_of_getElem? (i := 67) rfl, rfl⟩
set_option maxRecDepth 100000 in
theorem k_68 : Cond.code yX3_init cX3_init 1 none ∈ glw := List.mem_filter.mpr ⟨List.mem_of_getElem? (i := 68) rfl, rfl⟩
set_option maxRecDepth 100000 in
theorem k_69 : Cond.methodLink RX3 3 objectInit ∈ glw := List.mem_filter.mpr ⟨List.mem_of_getElem? (i := 69) rfl, rfl⟩
set_option maxRecDepth 100000 in
theorem k_70 : Cond.fieldLink RX3 9 "WhereverBegun$Table" "text" "[C" ∈ glw := List.mem_filter.mpr ⟨List.mem_of_getElem? (i := 70) rfl, rfl⟩
set_option maxRecDepth 100000 in
theorem k_71 : Cond.fieldLink RX5 93 "WhereverBegun$Table" "text" "[C" ∈ glw := List.mem_filter.mpr ⟨List.mem_of_getElem? (i := 71) rfl, rfl⟩
set_option maxRecDepth 100000 in
theorem k_72 : Cond.fieldLink RX3 15 "WhereverBegun$Table" "weights" "[I" ∈ glw := List.mem_filter.mpr ⟨List.mem_of_getElem? (i := 72) rfl, rfl⟩
set_option maxRecDepth 100000 in
theorem k_73 : Cond.fieldLink RX1 31 "WhereverBegun$Table" "weights" "[I" ∈ glw := List.mem_filter.mpr ⟨List.mem_of_getElem? (i := 73) rfl, rfl⟩
set_option maxRecDepth 100000 in
theorem k_74 : Cond.fieldLink RX5 83 "WhereverBegun$Table" "weights" "[I" ∈ glw := List.mem_filter.mpr ⟨List.mem_of_getElem? (i := 74) rfl, rfl⟩
set_option maxRecDepth 100000 in
theorem k_75 : Cond.fieldLink RX3 19 "WhereverBegun$Table" "sightFrom" "[I" ∈ glw := List.mem_filter.mpr ⟨List.mem_of_getElem? (i := 75) rfl, rfl⟩
set_option maxRecDepth 100000 in
theorem k_76 : Cond.fieldLink RX1 93 "WhereverBegun$Table" "sightFrom" "[I" ∈ glw := List.mem_filter.mpr ⟨List.mem_of_getElem? (i := 76) rfl, rfl⟩
set_option maxRecDepth 100000 in
theorem k_77 : Cond.fieldLink RX5 189 "WhereverBegun$Table" "sightFrom" "[I" ∈ glw := List.mem_filter.mpr ⟨List.mem_of_getElem? (i := 77) rfl, rfl⟩
set_option maxRecDepth 100000 in
theorem k_78 : Cond.fieldLink RX3 22 "WhereverBegun$Table" "sightOut" "[I" ∈ glw := List.mem_filter.mpr ⟨List.mem_of_getElem? (i := 78) rfl, rfl⟩
set_option maxRecDepth 100000 in
theorem k_79 : Cond.fieldLink RX1 96 "WhereverBegun$Table" "sightOut" "[I" ∈ glw := List.mem_filter.mpr ⟨List.mem_of_getElem? (i := 79) rfl, rfl⟩
set_option maxRecDepth 100000 in
theorem k_80 : Cond.fieldLink RX5 192 "WhereverBegun$Table" "sightOut" "[I" ∈ glw := List.mem_filter.mpr ⟨List.mem_of_getElem? (i := 80) rfl, rfl⟩
set_option maxRecDepth 100000 in
theorem k_81 : Cond.fieldLink RX3 25 "WhereverBegun$Table" "places" "I" ∈ glw := List.mem_filter.mpr ⟨List.mem_of_getElem? (i := 81) rfl, rfl⟩
set_option maxRecDepth 100000 in
theorem k_82 : Cond.fieldLink RX2 27 "WhereverBegun$Table" "places" "I" ∈ glw := List.mem_filter.mpr ⟨List.mem_of_getElem? (i := 82) rfl, rfl⟩
set_option maxRecDepth 100000 in
theorem k_83 : Cond.fieldLink RX5 67 "WhereverBegun$Table" "places" "I" ∈ glw := List.mem_filter.mpr ⟨List.mem_of_getElem? (i := 83) rfl, rfl⟩
set_option maxRecDepth 100000 in
theorem k_84 : Cond.fieldLink RX3 29 "WhereverBegun$Table" "beginnings" "I" ∈ glw := List.mem_filter.mpr ⟨List.mem_of_getElem? (i := 84) rfl, rfl⟩
set_option maxRecDepth 100000 in
theorem k_85 : Cond.fieldLink RX2 34 "WhereverBegun$Table" "beginnings" "I" ∈ glw := List.mem_filter.mpr ⟨List.mem_of_getElem? (i := 85) rfl, rfl⟩
set_option maxRecDepth 100000 in
theorem k_86 : Cond.fieldLink RX5 70 "WhereverBegun$Table" "beginnings" "I" ∈ glw := List.mem_filter.mpr ⟨List.mem_of_getElem? (i := 86) rfl, rfl⟩
set_option maxRecDepth 100000 in
theorem k_87 : Cond.fieldLink RX3 32 "WhereverBegun$Table" "courtCount" "I" ∈ glw := List.mem_filter.mpr ⟨List.mem_of_getElem? (i := 87) rfl, rfl⟩
set_option maxRecDepth 100000 in
theorem k_88 : Cond.fieldLink RX5 77 "WhereverBegun$Table" "courtCount" "I" ∈ glw := List.mem_filter.mpr ⟨List.mem_of_getElem? (i := 88) rfl, rfl⟩
set_option maxRecDepth 100000 in
theorem k_89 : Cond.fieldLink RX3 35 "WhereverBegun$Table" "allowed" "I" ∈ glw := List.mem_filter.mpr ⟨List.mem_of_getElem? (i := 89) rfl, rfl⟩
set_option maxRecDepth 100000 in
theorem k_90 : Cond.fieldLink RX5 80 "WhereverBegun$Table" "allowed" "I" ∈ glw := List.mem_filter.mpr ⟨List.mem_of_getElem? (i := 90) rfl, rfl⟩
set_option maxRecDepth 100000 in
theorem k_91 : Cond.fieldLink RX3 38 "WhereverBegun$Table" "sights" "I" ∈ glw := List.mem_filter.mpr ⟨List.mem_of_getElem? (i := 91) rfl, rfl⟩
set_option maxRecDepth 100000 in
theorem k_92 : Cond.fieldLink RX1 90 "WhereverBegun$Table" "sights" "I" ∈ glw := List.mem_filter.mpr ⟨List.mem_of_getElem? (i := 92) rfl, rfl⟩
set_option maxRecDepth 100000 in
theorem k_93 : Cond.fieldLink RX5 186 "WhereverBegun$Table" "sights" "I" ∈ glw := List.mem_filter.mpr ⟨List.mem_of_getElem? (i := 93) rfl, rfl⟩
set_option maxRecDepth 100000 in
theorem k_94 : Cond.fieldLink RX3 41 "WhereverBegun$Table" "kept" "Z" ∈ glw := List.mem_filter.mpr ⟨List.mem_of_getElem? (i := 94) rfl, rfl⟩
set_option maxRecDepth 100000 in
theorem k_95 : Cond.fieldLink RX5 224 "WhereverBegun$Table" "kept" "Z" ∈ glw := List.mem_filter.mpr ⟨List.mem_of_getElem? (i := 95) rfl, rfl⟩
set_option maxRecDepth 100000 in
theorem k_96 : Cond.laysFinal "WhereverBegun$Table" "WhereverBegun$Table" "text" "[C" ∈ glw := List.mem_filter.mpr ⟨List.mem_of_getElem? (i := 96) rfl, rfl⟩
set_option maxRecDepth 100000 in
theorem k_98 : Cond.laysFinal "WhereverBegun$Table" "WhereverBegun$Table" "weights" "[I" ∈ glw := List.mem_filter.mpr ⟨List.mem_of_getElem? (i := 98) rfl, rfl⟩
set_option maxRecDepth 100000 in
theorem k_100 : Cond.laysFinal "WhereverBegun$Table" "WhereverBegun$Table" "sightFrom" "[I" ∈ glw := List.mem_filter.mpr ⟨List.mem_of_getElem? (i := 100) rfl, rfl⟩
set_option maxRecDepth 100000 in
theorem k_102 : Cond.laysFinal "WhereverBegun$Table" "WhereverBegun$Table" "sightOut" "[I" ∈ glw := List.mem_filter.mpr ⟨List.mem_of_getElem? (i := 102) rfl, rfl⟩
set_option maxRecDepth 100000 in
theorem k_104 : Cond.lays "WhereverBegun$Table" "WhereverBegun$Table" "places" "I" ∈ glw := List.mem_filter.mpr ⟨List.mem_of_getElem? (i := 104) rfl, rfl⟩
set_option maxRecDepth 100000 in
theorem k_106 : Cond.lays "WhereverBegun$Table" "WhereverBegun$Table" "beginnings" "I" ∈ glw := List.mem_filter.mpr ⟨List.mem_of_getElem? (i := 106) rfl, rfl⟩
set_option maxRecDepth 100000 in
theorem k_108 : Cond.lays "WhereverBegun$Table" "WhereverBegun$Table" "courtCount" "I" ∈ glw := List.mem_filter.mpr ⟨List.mem_of_getElem? (i := 108) rfl, rfl⟩
set_option maxRecDepth 100000 in
theorem k_110 : Cond.lays "WhereverBegun$Table" "WhereverBegun$Table" "allowed" "I" ∈ glw := List.mem_filter.mpr ⟨List.mem_of_getElem? (i := 110) rfl, rfl⟩
set_option maxRecDepth 100000 in
theorem k_112 : Cond.lays "WhereverBegun$Table" "WhereverBegun$Table" "sights" "I" ∈ glw := List.mem_filter.mpr ⟨List.mem_of_getElem? (i := 112) rfl, rfl⟩
set_option maxRecDepth 100000 in
theorem k_114 : Cond.lays "WhereverBegun$Table" "WhereverBegun$Table" "kept" "Z" ∈ glw := List.mem_filter.mpr ⟨List.mem_of_getElem? (i := 114) rfl, rfl⟩
set_option maxRecDepth 100000 in
theorem k_117 : Cond.arrayClass FieldType.char ∈ glw := List.mem_filter.mpr ⟨List.mem_of_getElem? (i := 117) rfl, rfl⟩
set_option maxRecDepth 100000 in
theorem k_118 : Cond.arrayClass FieldType.int ∈ glw := List.mem_filter.mpr ⟨List.mem_of_getElem? (i := 118) rfl, rfl⟩
set_option maxRecDepth 100000 in
theorem k_120 : Cond.classLink RX5 31 "WhereverBegun$Row" ∈ glw := List.mem_filter.mpr ⟨List.mem_of_getElem? (i := 120) rfl, rfl⟩
set_option maxRecDepth 100000 in
theorem k_121 : Cond.instantiable RX2 7 ∈ glw := List.mem_filter.mpr ⟨List.mem_of_getElem? (i := 121) rfl, rfl⟩
set_option maxRecDepth 100000 in
theorem k_123 : Cond.instanceMethod yX2_init ∈ glw := List.mem_filter.mpr ⟨List.mem_of_getElem? (i := 123) rfl, rfl⟩
set_option maxRecDepth 100000 in
theorem k_124 : Cond.code yX2_init cX2_init 1 none ∈ glw := List.mem_filter.mpr ⟨List.mem_of_getElem? (i := 124) rfl, rfl⟩
set_option maxRecDepth 100000 in
theorem k_125 : Cond.methodLink RX2 3 objectInit ∈ glw := List.mem_filter.mpr ⟨List.mem_of_getElem? (i := 125) rfl, rfl⟩
set_option maxRecDepth 100000 in
theorem k_126 : Cond.fieldLink RX2 9 "WhereverBegun$Row" "counts" "[I" ∈ glw := List.mem_filter.mpr ⟨List.mem_of_getElem? (i := 126) rfl, rfl⟩
set_option maxRecDepth 100000 in
theorem k_127 : Cond.fieldLink RX4 21 "WhereverBegun$Row" "counts" "[I" ∈ glw := List.mem_filter.mpr ⟨List.mem_of_getElem? (i := 127) rfl, rfl⟩
set_option maxRecDepth 100000 in
theorem k_128 : Cond.fieldLink RX0 39 "WhereverBegun$Row" "counts" "[I" ∈ glw := List.mem_filter.mpr ⟨List.mem_of_getElem? (i := 128) rfl, rfl⟩
set_option maxRecDepth 100000 in
theorem k_129 : Cond.fieldLink RX1 83 "WhereverBegun$Row" "counts" "[I" ∈ glw := List.mem_filter.mpr ⟨List.mem_of_getElem? (i := 129) rfl, rfl⟩
set_option maxRecDepth 100000 in
theorem k_130 : Cond.fieldLink RX2 15 "WhereverBegun$Row" "ends" "[I" ∈ glw := List.mem_filter.mpr ⟨List.mem_of_getElem? (i := 130) rfl, rfl⟩
set_option maxRecDepth 100000 in
theorem k_131 : Cond.fieldLink RX5 108 "WhereverBegun$Row" "ends" "[I" ∈ glw := List.mem_filter.mpr ⟨List.mem_of_getElem? (i := 131) rfl, rfl⟩
set_option maxRecDepth 100000 in
theorem k_132 : Cond.fieldLink RX2 18 "WhereverBegun$Row" "comers" "[I" ∈ glw := List.mem_filter.mpr ⟨List.mem_of_getElem? (i := 132) rfl, rfl⟩
set_option maxRecDepth 100000 in
theorem k_133 : Cond.fieldLink RX5 138 "WhereverBegun$Row" "comers" "[I" ∈ glw := List.mem_filter.mpr ⟨List.mem_of_getElem? (i := 133) rfl, rfl⟩
set_option maxRecDepth 100000 in
theorem k_134 : Cond.fieldLink RX2 21 "WhereverBegun$Row" "leaders" "[I" ∈ glw := List.mem_filter.mpr ⟨List.mem_of_getElem? (i := 134) rfl, rfl⟩
set_option maxRecDepth 100000 in
theorem k_135 : Cond.fieldLink RX5 141 "WhereverBegun$Row" "leaders" "[I" ∈ glw := List.mem_filter.mpr ⟨List.mem_of_getElem? (i := 135) rfl, rfl⟩
set_option maxRecDepth 100000 in
theorem k_136 : Cond.fieldLink RX2 24 "WhereverBegun$Row" "chains" "[I" ∈ glw := List.mem_filter.mpr ⟨List.mem_of_getElem? (i := 136) rfl, rfl⟩
set_option maxRecDepth 100000 in
theorem k_137 : Cond.fieldLink RX5 144 "WhereverBegun$Row" "chains" "[I" ∈ glw := List.mem_filter.mpr ⟨List.mem_of_getElem? (i := 137) rfl, rfl⟩
set_option maxRecDepth 100000 in
theorem k_138 : Cond.fieldLink RX1 24 "WhereverBegun$Row" "places" "I" ∈ glw := List.mem_filter.mpr ⟨List.mem_of_getElem? (i := 138) rfl, rfl⟩
set_option maxRecDepth 100000 in
theorem k_139 : Cond.fieldLink RX2 33 "WhereverBegun$Row" "places" "I" ∈ glw := List.mem_filter.mpr ⟨List.mem_of_getElem? (i := 139) rfl, rfl⟩
set_option maxRecDepth 100000 in
theorem k_140 : Cond.fieldLink RX4 30 "WhereverBegun$Row" "places" "I" ∈ glw := List.mem_filter.mpr ⟨List.mem_of_getElem? (i := 140) rfl, rfl⟩
set_option maxRecDepth 100000 in
theorem k_141 : Cond.fieldLink RX0 33 "WhereverBegun$Row" "places" "I" ∈ glw := List.mem_filter.mpr ⟨List.mem_of_getElem? (i := 141) rfl, rfl⟩
set_option maxRecDepth 100000 in
theorem k_142 : Cond.fieldLink RX5 147 "WhereverBegun$Row" "places" "I" ∈ glw := List.mem_filter.mpr ⟨List.mem_of_getElem? (i := 142) rfl, rfl⟩
set_option maxRecDepth 100000 in
theorem k_143 : Cond.fieldLink RX2 37 "WhereverBegun$Row" "beginnings" "I" ∈ glw := List.mem_filter.mpr ⟨List.mem_of_getElem? (i := 143) rfl, rfl⟩
set_option maxRecDepth 100000 in
theorem k_144 : Cond.fieldLink RX4 35 "WhereverBegun$Row" "beginnings" "I" ∈ glw := List.mem_filter.mpr ⟨List.mem_of_getElem? (i := 144) rfl, rfl⟩
set_option maxRecDepth 100000 in
theorem k_145 : Cond.laysFinal "WhereverBegun$Row" "WhereverBegun$Row" "counts" "[I" ∈ glw := List.mem_filter.mpr ⟨List.mem_of_getElem? (i := 145) rfl, rfl⟩
set_option maxRecDepth 100000 in
theorem k_147 : Cond.laysFinal "WhereverBegun$Row" "WhereverBegun$Row" "ends" "[I" ∈ glw := List.mem_filter.mpr ⟨List.mem_of_getElem? (i := 147) rfl, rfl⟩
set_option maxRecDepth 100000 in
theorem k_149 : Cond.laysFinal "WhereverBegun$Row" "WhereverBegun$Row" "comers" "[I" ∈ glw := List.mem_filter.mpr ⟨List.mem_of_getElem? (i := 149) rfl, rfl⟩
set_option maxRecDepth 100000 in
theorem k_151 : Cond.laysFinal "WhereverBegun$Row" "WhereverBegun$Row" "leaders" "[I" ∈ glw := List.mem_filter.mpr ⟨List.mem_of_getElem? (i := 151) rfl, rfl⟩
set_option maxRecDepth 100000 in
theorem k_153 : Cond.laysFinal "WhereverBegun$Row" "WhereverBegun$Row" "chains" "[I" ∈ glw := List.mem_filter.mpr ⟨List.mem_of_getElem? (i := 153) rfl, rfl⟩
set_option maxRecDepth 100000 in
theorem k_155 : Cond.lays "WhereverBegun$Row" "WhereverBegun$Row" "places" "I" ∈ glw := List.mem_filter.mpr ⟨List.mem_of_getElem? (i := 155) rfl, rfl⟩
set_option maxRecDepth 100000 in
theorem k_157 : Cond.lays "WhereverBegun$Row" "WhereverBegun$Row" "beginnings" "I" ∈ glw := List.mem_filter.mpr ⟨List.mem_of_getElem? (i := 157) rfl, rfl⟩
set_option maxRecDepth 100000 in
theorem k_160 : Cond.classLink RX5 38 "WhereverBegun$Chances" ∈ glw := List.mem_filter.mpr ⟨List.mem_of_getElem? (i := 160) rfl, rfl⟩
set_option maxRecDepth 100000 in
theorem k_161 : Cond.instantiable RX0 4 ∈ glw := List.mem_filter.mpr ⟨List.mem_of_getElem? (i := 161) rfl, rfl⟩
set_option maxRecDepth 100000 in
theorem k_163 : Cond.instanceMethod yX0_init ∈ glw := List.mem_filter.mpr ⟨List.mem_of_getElem? (i := 163) rfl, rfl⟩
set_option maxRecDepth 100000 in
theorem k_164 : Cond.code yX0_init cX0_init 1 none ∈ glw := List.mem_filter.mpr ⟨List.mem_of_getElem? (i := 164) rfl, rfl⟩
set_option maxRecDepth 100000 in
theorem k_165 : Cond.methodLink RX0 3 objectInit ∈ glw := List.mem_filter.mpr ⟨List.mem_of_getElem? (i := 165) rfl, rfl⟩
set_option maxRecDepth 100000 in
theorem k_166 : Cond.fieldLink RX0 11 "WhereverBegun$Chances" "now" "[J" ∈ glw := List.mem_filter.mpr ⟨List.mem_of_getElem? (i := 166) rfl, rfl⟩
set_option maxRecDepth 100000 in
theorem k_167 : Cond.fieldLink RX0 15 "WhereverBegun$Chances" "next" "[J" ∈ glw := List.mem_filter.mpr ⟨List.mem_of_getElem? (i := 167) rfl, rfl⟩
set_option maxRecDepth 100000 in
theorem k_168 : Cond.fieldLink RX0 18 "WhereverBegun$Chances" "won" "J" ∈ glw := List.mem_filter.mpr ⟨List.mem_of_getElem? (i := 168) rfl, rfl⟩
set_option maxRecDepth 100000 in
theorem k_169 : Cond.fieldLink RX5 232 "WhereverBegun$Chances" "won" "J" ∈ glw := List.mem_filter.mpr ⟨List.mem_of_getElem? (i := 169) rfl, rfl⟩
set_option maxRecDepth 100000 in
theorem k_170 : Cond.fieldLink RX0 22 "WhereverBegun$Chances" "together" "J" ∈ glw := List.mem_filter.mpr ⟨List.mem_of_getElem? (i := 170) rfl, rfl⟩
set_option maxRecDepth 100000 in
theorem k_171 : Cond.fieldLink RX5 235 "WhereverBegun$Chances" "together" "J" ∈ glw := List.mem_filter.mpr ⟨List.mem_of_getElem? (i := 171) rfl, rfl⟩
set_option maxRecDepth 100000 in
theorem k_172 : Cond.lays "WhereverBegun$Chances" "WhereverBegun$Chances" "now" "[J" ∈ glw := List.mem_filter.mpr ⟨List.mem_of_getElem? (i := 172) rfl, rfl⟩
set_option maxRecDepth 100000 in
theorem k_174 : Cond.lays "WhereverBegun$Chances" "WhereverBegun$Chances" "next" "[J" ∈ glw := List.mem_filter.mpr ⟨List.mem_of_getElem? (i := 174) rfl, rfl⟩
set_option maxRecDepth 100000 in
theorem k_176 : Cond.lays "WhereverBegun$Chances" "WhereverBegun$Chances" "won" "J" ∈ glw := List.mem_filter.mpr ⟨List.mem_of_getElem? (i := 176) rfl, rfl⟩
set_option maxRecDepth 100000 in
theorem k_178 : Cond.lays "WhereverBegun$Chances" "WhereverBegun$Chances" "together" "J" ∈ glw := List.mem_filter.mpr ⟨List.mem_of_getElem? (i := 178) rfl, rfl⟩
set_option maxRecDepth 100000 in
theorem k_181 : Cond.arrayClass FieldType.long ∈ glw := List.mem_filter.mpr ⟨List.mem_of_getElem? (i := 181) rfl, rfl⟩
set_option maxRecDepth 100000 in
theorem k_182 : Cond.classLink RX5 45 "WhereverBegun$Writing" ∈ glw := List.mem_filter.mpr ⟨List.mem_of_getElem? (i := 182) rfl, rfl⟩
set_option maxRecDepth 100000 in
theorem k_183 : Cond.instantiable RX4 13 ∈ glw := List.mem_filter.mpr ⟨List.mem_of_getElem? (i := 183) rfl, rfl⟩
set_option maxRecDepth 100000 in
theorem k_185 : Cond.instanceMethod yX4_init ∈ glw := List.mem_filter.mpr ⟨List.mem_of_getElem? (i := 185) rfl, rfl⟩
set_option maxRecDepth 100000 in
theorem k_186 : Cond.code yX4_init cX4_init 1 none ∈ glw := List.mem_filter.mpr ⟨List.mem_of_getElem? (i := 186) rfl, rfl⟩
set_option maxRecDepth 100000 in
theorem k_187 : Cond.methodLink RX4 3 objectInit ∈ glw := List.mem_filter.mpr ⟨List.mem_of_getElem? (i := 187) rfl, rfl⟩
set_option maxRecDepth 100000 in
theorem k_188 : Cond.fieldLink RX4 9 "WhereverBegun$Writing" "kept" "[I" ∈ glw := List.mem_filter.mpr ⟨List.mem_of_getElem? (i := 188) rfl, rfl⟩
set_option maxRecDepth 100000 in
theorem k_189 : Cond.fieldLink RX5 238 "WhereverBegun$Writing" "kept" "[I" ∈ glw := List.mem_filter.mpr ⟨List.mem_of_getElem? (i := 189) rfl, rfl⟩
set_option maxRecDepth 100000 in
theorem k_190 : Cond.fieldLink RX4 15 "WhereverBegun$Writing" "tried" "[I" ∈ glw := List.mem_filter.mpr ⟨List.mem_of_getElem? (i := 190) rfl, rfl⟩
set_option maxRecDepth 100000 in
theorem k_191 : Cond.fieldLink RX4 18 "WhereverBegun$Writing" "counts" "[I" ∈ glw := List.mem_filter.mpr ⟨List.mem_of_getElem? (i := 191) rfl, rfl⟩
set_option maxRecDepth 100000 in
theorem k_192 : Cond.fieldLink RX4 34 "WhereverBegun$Writing" "places" "I" ∈ glw := List.mem_filter.mpr ⟨List.mem_of_getElem? (i := 192) rfl, rfl⟩
set_option maxRecDepth 100000 in
theorem k_193 : Cond.fieldLink RX4 38 "WhereverBegun$Writing" "beginnings" "I" ∈ glw := List.mem_filter.mpr ⟨List.mem_of_getElem? (i := 193) rfl, rfl⟩
set_option maxRecDepth 100000 in
theorem k_194 : Cond.fieldLink RX4 39 "WhereverBegun$Writing" "allowed" "I" ∈ glw := List.mem_filter.mpr ⟨List.mem_of_getElem? (i := 194) rfl, rfl⟩
set_option maxRecDepth 100000 in
theorem k_195 : Cond.fieldLink RX4 46 "WhereverBegun$Writing" "leastAllowed" "I" ∈ glw := List.mem_filter.mpr ⟨List.mem_of_getElem? (i := 195) rfl, rfl⟩
set_option maxRecDepth 100000 in
theorem k_196 : Cond.fieldLink RX4 55 "WhereverBegun$Writing" "manyAllowed" "I" ∈ glw := List.mem_filter.mpr ⟨List.mem_of_getElem? (i := 196) rfl, rfl⟩
set_option maxRecDepth 100000 in
theorem k_197 : Cond.fieldLink RX4 58 "WhereverBegun$Writing" "wish" "I" ∈ glw := List.mem_filter.mpr ⟨List.mem_of_getElem? (i := 197) rfl, rfl⟩
set_option maxRecDepth 100000 in
theorem k_198 : Cond.fieldLink RX4 61 "WhereverBegun$Writing" "wishPlace" "I" ∈ glw := List.mem_filter.mpr ⟨List.mem_of_getElem? (i := 198) rfl, rfl⟩
set_option maxRecDepth 100000 in
theorem k_199 : Cond.fieldLink RX4 64 "WhereverBegun$Writing" "soonestFirst" "Z" ∈ glw := List.mem_filter.mpr ⟨List.mem_of_getElem? (i := 199) rfl, rfl⟩
set_option maxRecDepth 100000 in
theorem k_200 : Cond.fieldLink RX4 68 "WhereverBegun$Writing" "ways" "I" ∈ glw := List.mem_filter.mpr ⟨List.mem_of_getElem? (i := 200) rfl, rfl⟩
set_option maxRecDepth 100000 in
theorem k_201 : Cond.fieldLink RX5 176 "WhereverBegun$Writing" "ways" "I" ∈ glw := List.mem_filter.mpr ⟨List.mem_of_getElem? (i := 201) rfl, rfl⟩
set_option maxRecDepth 100000 in
theorem k_202 : Cond.fieldLink RX4 71 "WhereverBegun$Writing" "leastRank" "I" ∈ glw := List.mem_filter.mpr ⟨List.mem_of_getElem? (i := 202) rfl, rfl⟩
set_option maxRecDepth 100000 in
theorem k_203 : Cond.fieldLink RX5 183 "WhereverBegun$Writing" "leastRank" "I" ∈ glw := List.mem_filter.mpr ⟨List.mem_of_getElem? (i := 203) rfl, rfl⟩
set_option maxRecDepth 100000 in
theorem k_204 : Cond.laysFinal "WhereverBegun$Writing" "WhereverBegun$Writing" "kept" "[I" ∈ glw := List.mem_filter.mpr ⟨List.mem_of_getElem? (i := 204) rfl, rfl⟩
set_option maxRecDepth 100000 in
theorem k_206 : Cond.laysFinal "WhereverBegun$Writing" "WhereverBegun$Writing" "tried" "[I" ∈ glw := List.mem_filter.mpr ⟨List.mem_of_getElem? (i := 206) rfl, rfl⟩
set_option maxRecDepth 100000 in
theorem k_208 : Cond.laysFinal "WhereverBegun$Writing" "WhereverBegun$Writing" "counts" "[I" ∈ glw := List.mem_filter.mpr ⟨List.mem_of_getElem? (i := 208) rfl, rfl⟩
set_option maxRecDepth 100000 in
theorem k_210 : Cond.lays "WhereverBegun$Writing" "WhereverBegun$Writing" "places" "I" ∈ glw := List.mem_filter.mpr ⟨List.mem_of_getElem? (i := 210) rfl, rfl⟩
set_option maxRecDepth 100000 in
theorem k_212 : Cond.lays "WhereverBegun$Writing" "WhereverBegun$Writing" "beginnings" "I" ∈ glw := List.mem_filter.mpr ⟨List.mem_of_getElem? (i := 212) rfl, rfl⟩
set_option maxRecDepth 100000 in
theorem k_214 : Cond.lays "WhereverBegun$Writing" "WhereverBegun$Writing" "allowed" "I" ∈ glw := List.mem_filter.mpr ⟨List.mem_of_getElem? (i := 214) rfl, rfl⟩
set_option maxRecDepth 100000 in
theorem k_216 : Cond.lays "WhereverBegun$Writing" "WhereverBegun$Writing" "leastAllowed" "I" ∈ glw := List.mem_filter.mpr ⟨List.mem_of_getElem? (i := 216) rfl, rfl⟩
set_option maxRecDepth 100000 in
theorem k_218 : Cond.lays "WhereverBegun$Writing" "WhereverBegun$Writing" "manyAllowed" "I" ∈ glw := List.mem_filter.mpr ⟨List.mem_of_getElem? (i := 218) rfl, rfl⟩
set_option maxRecDepth 100000 in
theorem k_220 : Cond.lays "WhereverBegun$Writing" "WhereverBegun$Writing" "wish" "I" ∈ glw := List.mem_filter.mpr ⟨List.mem_of_getElem? (i := 220) rfl, rfl⟩
set_option maxRecDepth 100000 in
theorem k_222 : Cond.lays "WhereverBegun$Writing" "WhereverBegun$Writing" "wishPlace" "I" ∈ glw := List.mem_filter.mpr ⟨List.mem_of_getElem? (i := 222) rfl, rfl⟩
set_option maxRecDepth 100000 in
theorem k_224 : Cond.lays "WhereverBegun$Writing" "WhereverBegun$Writing" "soonestFirst" "Z" ∈ glw := List.mem_filter.mpr ⟨List.mem_of_getElem? (i := 224) rfl, rfl⟩
set_option maxRecDepth 100000 in
theorem k_226 : Cond.lays "WhereverBegun$Writing" "WhereverBegun$Writing" "ways" "I" ∈ glw := List.mem_filter.mpr ⟨List.mem_of_getElem? (i := 226) rfl, rfl⟩
set_option maxRecDepth 100000 in
theorem k_228 : Cond.lays "WhereverBegun$Writing" "WhereverBegun$Writing" "leastRank" "I" ∈ glw := List.mem_filter.mpr ⟨List.mem_of_getElem? (i := 228) rfl, rfl⟩
set_option maxRecDepth 100000 in
theorem k_231 : Cond.classLink RX5 52 "WhereverBegun$Guess" ∈ glw := List.mem_filter.mpr ⟨List.mem_of_getElem? (i := 231) rfl, rfl⟩
set_option maxRecDepth 100000 in
theorem k_232 : Cond.instantiable RX1 13 ∈ glw := List.mem_filter.mpr ⟨List.mem_of_getElem? (i := 232) rfl, rfl⟩
set_option maxRecDepth 100000 in
theorem k_234 : Cond.instanceMethod yX1_init ∈ glw := List.mem_filter.mpr ⟨List.mem_of_getElem? (i := 234) rfl, rfl⟩
set_option maxRecDepth 100000 in
theorem k_235 : Cond.code yX1_init cX1_init 1 none ∈ glw := List.mem_filter.mpr ⟨List.mem_of_getElem? (i := 235) rfl, rfl⟩
set_option maxRecDepth 100000 in
theorem k_236 : Cond.methodLink RX1 3 objectInit ∈ glw := List.mem_filter.mpr ⟨List.mem_of_getElem? (i := 236) rfl, rfl⟩
set_option maxRecDepth 100000 in
theorem k_237 : Cond.fieldLink RX1 9 "WhereverBegun$Guess" "roots" "[I" ∈ glw := List.mem_filter.mpr ⟨List.mem_of_getElem? (i := 237) rfl, rfl⟩
set_option maxRecDepth 100000 in
theorem k_238 : Cond.fieldLink RX1 15 "WhereverBegun$Guess" "spots" "[I" ∈ glw := List.mem_filter.mpr ⟨List.mem_of_getElem? (i := 238) rfl, rfl⟩
set_option maxRecDepth 100000 in
theorem k_239 : Cond.fieldLink RX1 18 "WhereverBegun$Guess" "needs" "[I" ∈ glw := List.mem_filter.mpr ⟨List.mem_of_getElem? (i := 239) rfl, rfl⟩
set_option maxRecDepth 100000 in
theorem k_240 : Cond.fieldLink RX1 21 "WhereverBegun$Guess" "weights" "[I" ∈ glw := List.mem_filter.mpr ⟨List.mem_of_getElem? (i := 240) rfl, rfl⟩
set_option maxRecDepth 100000 in
theorem k_241 : Cond.fieldLink RX1 80 "WhereverBegun$Guess" "many" "I" ∈ glw := List.mem_filter.mpr ⟨List.mem_of_getElem? (i := 241) rfl, rfl⟩
set_option maxRecDepth 100000 in
theorem k_242 : Cond.fieldLink RX1 30 "WhereverBegun$Guess" "places" "I" ∈ glw := List.mem_filter.mpr ⟨List.mem_of_getElem? (i := 242) rfl, rfl⟩
set_option maxRecDepth 100000 in
theorem k_243 : Cond.fieldLink RX1 44 "WhereverBegun$Guess" "weightOfAll" "I" ∈ glw := List.mem_filter.mpr ⟨List.mem_of_getElem? (i := 243) rfl, rfl⟩
set_option maxRecDepth 100000 in
theorem k_244 : Cond.fieldLink RX1 46 "WhereverBegun$Guess" "manyWeighed" "I" ∈ glw := List.mem_filter.mpr ⟨List.mem_of_getElem? (i := 244) rfl, rfl⟩
set_option maxRecDepth 100000 in
theorem k_245 : Cond.fieldLink RX1 49 "WhereverBegun$Guess" "askedSpot" "I" ∈ glw := List.mem_filter.mpr ⟨List.mem_of_getElem? (i := 245) rfl, rfl⟩
set_option maxRecDepth 100000 in
theorem k_246 : Cond.fieldLink RX1 52 "WhereverBegun$Guess" "askedCount" "I" ∈ glw := List.mem_filter.mpr ⟨List.mem_of_getElem? (i := 246) rfl, rfl⟩
set_option maxRecDepth 100000 in
theorem k_247 : Cond.fieldLink RX1 55 "WhereverBegun$Guess" "ways" "I" ∈ glw := List.mem_filter.mpr ⟨List.mem_of_getElem? (i := 247) rfl, rfl⟩
set_option maxRecDepth 100000 in
theorem k_248 : Cond.fieldLink RX5 198 "WhereverBegun$Guess" "ways" "I" ∈ glw := List.mem_filter.mpr ⟨List.mem_of_getElem? (i := 248) rfl, rfl⟩
set_option maxRecDepth 100000 in
theorem k_249 : Cond.fieldLink RX1 58 "WhereverBegun$Guess" "weighed" "J" ∈ glw := List.mem_filter.mpr ⟨List.mem_of_getElem? (i := 249) rfl, rfl⟩
set_option maxRecDepth 100000 in
theorem k_250 : Cond.fieldLink RX5 203 "WhereverBegun$Guess" "weighed" "J" ∈ glw := List.mem_filter.mpr ⟨List.mem_of_getElem? (i := 250) rfl, rfl⟩
set_option maxRecDepth 100000 in
theorem k_251 : Cond.fieldLink RX1 62 "WhereverBegun$Guess" "weighedAsked" "J" ∈ glw := List.mem_filter.mpr ⟨List.mem_of_getElem? (i := 251) rfl, rfl⟩
set_option maxRecDepth 100000 in
theorem k_252 : Cond.fieldLink RX5 199 "WhereverBegun$Guess" "weighedAsked" "J" ∈ glw := List.mem_filter.mpr ⟨List.mem_of_getElem? (i := 252) rfl, rfl⟩
set_option maxRecDepth 100000 in
theorem k_253 : Cond.laysFinal "WhereverBegun$Guess" "WhereverBegun$Guess" "roots" "[I" ∈ glw := List.mem_filter.mpr ⟨List.mem_of_getElem? (i := 253) rfl, rfl⟩
set_option maxRecDepth 100000 in
theorem k_255 : Cond.laysFinal "WhereverBegun$Guess" "WhereverBegun$Guess" "spots" "[I" ∈ glw := List.mem_filter.mpr ⟨List.mem_of_getElem? (i := 255) rfl, rfl⟩
set_option maxRecDepth 100000 in
theorem k_257 : Cond.laysFinal "WhereverBegun$Guess" "WhereverBegun$Guess" "needs" "[I" ∈ glw := List.mem_filter.mpr ⟨List.mem_of_getElem? (i := 257) rfl, rfl⟩
set_option maxRecDepth 100000 in
theorem k_259 : Cond.laysFinal "WhereverBegun$Guess" "WhereverBegun$Guess" "weights" "[I" ∈ glw := List.mem_filter.mpr ⟨List.mem_of_getElem? (i := 259) rfl, rfl⟩
set_option maxRecDepth 100000 in
theorem k_261 : Cond.lays "WhereverBegun$Guess" "WhereverBegun$Guess" "many" "I" ∈ glw := List.mem_filter.mpr ⟨List.mem_of_getElem? (i := 261) rfl, rfl⟩
set_option maxRecDepth 100000 in
theorem k_263 : Cond.lays "WhereverBegun$Guess" "WhereverBegun$Guess" "places" "I" ∈ glw := List.mem_filter.mpr ⟨List.mem_of_getElem? (i := 263) rfl, rfl⟩
set_option maxRecDepth 100000 in
theorem k_265 : Cond.lays "WhereverBegun$Guess" "WhereverBegun$Guess" "weightOfAll" "I" ∈ glw := List.mem_filter.mpr ⟨List.mem_of_getElem? (i := 265) rfl, rfl⟩
set_option maxRecDepth 100000 in
theorem k_267 : Cond.lays "WhereverBegun$Guess" "WhereverBegun$Guess" "manyWeighed" "I" ∈ glw := List.mem_filter.mpr ⟨List.mem_of_getElem? (i := 267) rfl, rfl⟩
set_option maxRecDepth 100000 in
theorem k_269 : Cond.lays "WhereverBegun$Guess" "WhereverBegun$Guess" "askedSpot" "I" ∈ glw := List.mem_filter.mpr ⟨List.mem_of_getElem? (i := 269) rfl, rfl⟩
set_option maxRecDepth 100000 in
theorem k_271 : Cond.lays "WhereverBegun$Guess" "WhereverBegun$Guess" "askedCount" "I" ∈ glw := List.mem_filter.mpr ⟨List.mem_of_getElem? (i := 271) rfl, rfl⟩
set_option maxRecDepth 100000 in
theorem k_273 : Cond.lays "WhereverBegun$Guess" "WhereverBegun$Guess" "ways" "I" ∈ glw := List.mem_filter.mpr ⟨List.mem_of_getElem? (i := 273) rfl, rfl⟩
set_option maxRecDepth 100000 in
theorem k_275 : Cond.lays "WhereverBegun$Guess" "WhereverBegun$Guess" "weighed" "J" ∈ glw := List.mem_filter.mpr ⟨List.mem_of_getElem? (i := 275) rfl, rfl⟩
set_option maxRecDepth 100000 in
theorem k_277 : Cond.lays "WhereverBegun$Guess" "WhereverBegun$Guess" "weighedAsked" "J" ∈ glw := List.mem_filter.mpr ⟨List.mem_of_getElem? (i := 277) rfl, rfl⟩
set_option maxRecDepth 100000 in
theorem k_280 : Cond.fieldLink RX5 9 "WhereverBegun" "pad" "[C" ∈ glw := List.mem_filter.mpr ⟨List.mem_of_getElem? (i := 280) rfl, rfl⟩
set_option maxRecDepth 100000 in
theorem k_281 : Cond.fieldLink RX5 13 "WhereverBegun" "signs" "I" ∈ glw := List.mem_filter.mpr ⟨List.mem_of_getElem? (i := 281) rfl, rfl⟩
set_option maxRecDepth 100000 in
theorem k_282 : Cond.fieldLink RX5 20 "WhereverBegun" "table" "LWhereverBegun$Table;" ∈ glw := List.mem_filter.mpr ⟨List.mem_of_getElem? (i := 282) rfl, rfl⟩
set_option maxRecDepth 100000 in
theorem k_283 : Cond.fieldLink RX5 24 "WhereverBegun" "images" "[LWhereverBegun$Table;" ∈ glw := List.mem_filter.mpr ⟨List.mem_of_getElem? (i := 283) rfl, rfl⟩
set_option maxRecDepth 100000 in
theorem k_284 : Cond.fieldLink RX5 28 "WhereverBegun" "pack" "[C" ∈ glw := List.mem_filter.mpr ⟨List.mem_of_getElem? (i := 284) rfl, rfl⟩
set_option maxRecDepth 100000 in
theorem k_285 : Cond.fieldLink RX5 34 "WhereverBegun" "row" "LWhereverBegun$Row;" ∈ glw := List.mem_filter.mpr ⟨List.mem_of_getElem? (i := 285) rfl, rfl⟩
set_option maxRecDepth 100000 in
theorem k_286 : Cond.fieldLink RX5 41 "WhereverBegun" "chances" "LWhereverBegun$Chances;" ∈ glw := List.mem_filter.mpr ⟨List.mem_of_getElem? (i := 286) rfl, rfl⟩
set_option maxRecDepth 100000 in
theorem k_287 : Cond.fieldLink RX5 48 "WhereverBegun" "writing" "LWhereverBegun$Writing;" ∈ glw := List.mem_filter.mpr ⟨List.mem_of_getElem? (i := 287) rfl, rfl⟩
set_option maxRecDepth 100000 in
theorem k_288 : Cond.fieldLink RX5 55 "WhereverBegun" "guess" "LWhereverBegun$Guess;" ∈ glw := List.mem_filter.mpr ⟨List.mem_of_getElem? (i := 288) rfl, rfl⟩
set_option maxRecDepth 100000 in
theorem k_289 : Cond.laysFinal "WhereverBegun" "WhereverBegun" "pad" "[C" ∈ glw := List.mem_filter.mpr ⟨List.mem_of_getElem? (i := 289) rfl, rfl⟩
set_option maxRecDepth 100000 in
theorem k_291 : Cond.lays "WhereverBegun" "WhereverBegun" "signs" "I" ∈ glw := List.mem_filter.mpr ⟨List.mem_of_getElem? (i := 291) rfl, rfl⟩
set_option maxRecDepth 100000 in
theorem k_293 : Cond.laysFinal "WhereverBegun" "WhereverBegun" "table" "LWhereverBegun$Table;" ∈ glw := List.mem_filter.mpr ⟨List.mem_of_getElem? (i := 293) rfl, rfl⟩
set_option maxRecDepth 100000 in
theorem k_295 : Cond.laysFinal "WhereverBegun" "WhereverBegun" "images" "[LWhereverBegun$Table;" ∈ glw := List.mem_filter.mpr ⟨List.mem_of_getElem? (i := 295) rfl, rfl⟩
set_option maxRecDepth 100000 in
theorem k_297 : Cond.laysFinal "WhereverBegun" "WhereverBegun" "pack" "[C" ∈ glw := List.mem_filter.mpr ⟨List.mem_of_getElem? (i := 297) rfl, rfl⟩
set_option maxRecDepth 100000 in
theorem k_299 : Cond.laysFinal "WhereverBegun" "WhereverBegun" "row" "LWhereverBegun$Row;" ∈ glw := List.mem_filter.mpr ⟨List.mem_of_getElem? (i := 299) rfl, rfl⟩
set_option maxRecDepth 100000 in
theorem k_301 : Cond.laysFinal "WhereverBegun" "WhereverBegun" "chances" "LWhereverBegun$Chances;" ∈ glw := List.mem_filter.mpr ⟨List.mem_of_getElem? (i := 301) rfl, rfl⟩
set_option maxRecDepth 100000 in
theorem k_303 : Cond.laysFinal "WhereverBegun" "WhereverBegun" "writing" "LWhereverBegun$Writing;" ∈ glw := List.mem_filter.mpr ⟨List.mem_of_getElem? (i := 303) rfl, rfl⟩
set_option maxRecDepth 100000 in
theorem k_305 : Cond.laysFinal "WhereverBegun" "WhereverBegun" "guess" "LWhereverBegun$Guess;" ∈ glw := List.mem_filter.mpr ⟨List.mem_of_getElem? (i := 305) rfl, rfl⟩
set_option maxRecDepth 100000 in
theorem k_308 : Cond.methodLink RL 13 yX5_say ∈ glw := List.mem_filter.mpr ⟨List.mem_of_getElem? (i := 308) rfl, rfl⟩
set_option maxRecDepth 100000 in
theorem k_309 : Cond.instanceMethod yX5_say ∈ glw := List.mem_filter.mpr ⟨List.mem_of_getElem? (i := 309) rfl, rfl⟩
set_option maxRecDepth 100000 in
theorem k_310 : Cond.selects RX5 yX5_say yX5_say ∈ glw := List.mem_filter.mpr ⟨List.mem_of_getElem? (i := 310) rfl, rfl⟩
set_option maxRecDepth 100000 in
theorem k_311 : Cond.code yX5_say cX5_say 2 (some .int) ∈ glw := List.mem_filter.mpr ⟨List.mem_of_getElem? (i := 311) rfl, rfl⟩
set_option maxRecDepth 100000 in
theorem k_312 : Cond.methodLink RL 18 yX5_wipe ∈ glw := List.mem_filter.mpr ⟨List.mem_of_getElem? (i := 312) rfl, rfl⟩
set_option maxRecDepth 100000 in
theorem k_313 : Cond.instanceMethod yX5_wipe ∈ glw := List.mem_filter.mpr ⟨List.mem_of_getElem? (i := 313) rfl, rfl⟩
set_option maxRecDepth 100000 in
theorem k_314 : Cond.selects RX5 yX5_wipe yX5_wipe ∈ glw := List.mem_filter.mpr ⟨List.mem_of_getElem? (i := 314) rfl, rfl⟩
set_option maxRecDepth 100000 in
theorem k_315 : Cond.code yX5_wipe cX5_wipe 2 (some .int) ∈ glw := List.mem_filter.mpr ⟨List.mem_of_getElem? (i := 315) rfl, rfl⟩
set_option maxRecDepth 100000 in
theorem k_316 : Cond.methodLink RL 23 yX5_fault ∈ glw := List.mem_filter.mpr ⟨List.mem_of_getElem? (i := 316) rfl, rfl⟩
set_option maxRecDepth 100000 in
theorem k_317 : Cond.instanceMethod yX5_fault ∈ glw := List.mem_filter.mpr ⟨List.mem_of_getElem? (i := 317) rfl, rfl⟩
set_option maxRecDepth 100000 in
theorem k_318 : Cond.selects RX5 yX5_fault yX5_fault ∈ glw := List.mem_filter.mpr ⟨List.mem_of_getElem? (i := 318) rfl, rfl⟩
set_option maxRecDepth 100000 in
theorem k_319 : Cond.code yX5_fault cX5_fault 1 (some .int) ∈ glw := List.mem_filter.mpr ⟨List.mem_of_getElem? (i := 319) rfl, rfl⟩
set_option maxRecDepth 100000 in
theorem k_320 : Cond.methodLink RX5 59 yX5_firstFault ∈ glw := List.mem_filter.mpr ⟨List.mem_of_getElem? (i := 320) rfl, rfl⟩
set_option maxRecDepth 100000 in
theorem k_322 : Cond.instanceMethod yX5_firstFault ∈ glw := List.mem_filter.mpr ⟨List.mem_of_getElem? (i := 322) rfl, rfl⟩
set_option maxRecDepth 100000 in
theorem k_323 : Cond.code yX5_firstFault cX5_firstFault 5 (some .int) ∈ glw := List.mem_filter.mpr ⟨List.mem_of_getElem? (i := 323) rfl, rfl⟩
set_option maxRecDepth 100000 in
theorem k_324 : Cond.methodLink RX5 96 yX5_countOf ∈ glw := List.mem_filter.mpr ⟨List.mem_of_getElem? (i := 324) rfl, rfl⟩
set_option maxRecDepth 100000 in
theorem k_325 : Cond.static yX5_countOf ∈ glw := List.mem_filter.mpr ⟨List.mem_of_getElem? (i := 325) rfl, rfl⟩
set_option maxRecDepth 100000 in
theorem k_326 : Cond.code yX5_countOf cX5_countOf 2 (some .int) ∈ glw := List.mem_filter.mpr ⟨List.mem_of_getElem? (i := 326) rfl, rfl⟩
set_option maxRecDepth 100000 in
theorem k_327 : Cond.methodLink RL 27 yX5_page ∈ glw := List.mem_filter.mpr ⟨List.mem_of_getElem? (i := 327) rfl, rfl⟩
set_option maxRecDepth 100000 in
theorem k_328 : Cond.instanceMethod yX5_page ∈ glw := List.mem_filter.mpr ⟨List.mem_of_getElem? (i := 328) rfl, rfl⟩
set_option maxRecDepth 100000 in
theorem k_329 : Cond.selects RX5 yX5_page yX5_page ∈ glw := List.mem_filter.mpr ⟨List.mem_of_getElem? (i := 329) rfl, rfl⟩
set_option maxRecDepth 100000 in
theorem k_330 : Cond.code yX5_page cX5_page 1 (some .int) ∈ glw := List.mem_filter.mpr ⟨List.mem_of_getElem? (i := 330) rfl, rfl⟩
set_option maxRecDepth 100000 in
theorem k_331 : Cond.methodLink RX5 63 yX3_take ∈ glw := List.mem_filter.mpr ⟨List.mem_of_getElem? (i := 331) rfl, rfl⟩
set_option maxRecDepth 100000 in
theorem k_332 : Cond.instanceMethod yX3_take ∈ glw := List.mem_filter.mpr ⟨List.mem_of_getElem? (i := 332) rfl, rfl⟩
set_option maxRecDepth 100000 in
theorem k_333 : Cond.selects RX3 yX3_take yX3_take ∈ glw := List.mem_filter.mpr ⟨List.mem_of_getElem? (i := 333) rfl, rfl⟩
set_option maxRecDepth 100000 in
theorem k_334 : Cond.code yX3_take cX3_take 3 none ∈ glw := List.mem_filter.mpr ⟨List.mem_of_getElem? (i := 334) rfl, rfl⟩
set_option maxRecDepth 100000 in
theorem k_335 : Cond.methodLink RX3 45 Lib.Math.min.name ∈ glw := List.mem_filter.mpr ⟨List.mem_of_getElem? (i := 335) rfl, rfl⟩
set_option maxRecDepth 100000 in
theorem k_336 : Cond.static Lib.Math.min.name ∈ glw := List.mem_filter.mpr ⟨List.mem_of_getElem? (i := 336) rfl, rfl⟩
set_option maxRecDepth 100000 in
theorem k_337 : Cond.code Lib.Math.min.name cJ9_min_7cf53 2 (some .int) ∈ glw := List.mem_filter.mpr ⟨List.mem_of_getElem? (i := 337) rfl, rfl⟩
set_option maxRecDepth 100000 in
theorem k_338 : Cond.methodLink RX3 51 arraycopyName ∈ glw := List.mem_filter.mpr ⟨List.mem_of_getElem? (i := 338) rfl, rfl⟩
set_option maxRecDepth 100000 in
theorem k_339 : Cond.static arraycopyName ∈ glw := List.mem_filter.mpr ⟨List.mem_of_getElem? (i := 339) rfl, rfl⟩
set_option maxRecDepth 100000 in
theorem k_340 : Cond.native arraycopyName ∈ glw := List.mem_filter.mpr ⟨List.mem_of_getElem? (i := 340) rfl, rfl⟩
set_option maxRecDepth 100000 in
theorem k_341 : Cond.methodLink RL 31 yX5_begin ∈ glw := List.mem_filter.mpr ⟨List.mem_of_getElem? (i := 341) rfl, rfl⟩
set_option maxRecDepth 100000 in
theorem k_342 : Cond.instanceMethod yX5_begin ∈ glw := List.mem_filter.mpr ⟨List.mem_of_getElem? (i := 342) rfl, rfl⟩
set_option maxRecDepth 100000 in
theorem k_343 : Cond.selects RX5 yX5_begin yX5_begin ∈ glw := List.mem_filter.mpr ⟨List.mem_of_getElem? (i := 343) rfl, rfl⟩
set_option maxRecDepth 100000 in
theorem k_344 : Cond.code yX5_begin cX5_begin 3 (some .int) ∈ glw := List.mem_filter.mpr ⟨List.mem_of_getElem? (i := 344) rfl, rfl⟩
set_option maxRecDepth 100000 in
theorem k_345 : Cond.methodLink RL 35 yX5_court ∈ glw := List.mem_filter.mpr ⟨List.mem_of_getElem? (i := 345) rfl, rfl⟩
set_option maxRecDepth 100000 in
theorem k_346 : Cond.instanceMethod yX5_court ∈ glw := List.mem_filter.mpr ⟨List.mem_of_getElem? (i := 346) rfl, rfl⟩
set_option maxRecDepth 100000 in
theorem k_347 : Cond.selects RX5 yX5_court yX5_court ∈ glw := List.mem_filter.mpr ⟨List.mem_of_getElem? (i := 347) rfl, rfl⟩
set_option maxRecDepth 100000 in
theorem k_348 : Cond.code yX5_court cX5_court 3 (some .int) ∈ glw := List.mem_filter.mpr ⟨List.mem_of_getElem? (i := 348) rfl, rfl⟩
set_option maxRecDepth 100000 in
theorem k_349 : Cond.methodLink RX5 73 yX5_isCount ∈ glw := List.mem_filter.mpr ⟨List.mem_of_getElem? (i := 349) rfl, rfl⟩
set_option maxRecDepth 100000 in
theorem k_350 : Cond.static yX5_isCount ∈ glw := List.mem_filter.mpr ⟨List.mem_of_getElem? (i := 350) rfl, rfl⟩
set_option maxRecDepth 100000 in
theorem k_351 : Cond.code yX5_isCount cX5_isCount 1 (some .boolean) ∈ glw := List.mem_filter.mpr ⟨List.mem_of_getElem? (i := 351) rfl, rfl⟩
set_option maxRecDepth 100000 in
theorem k_352 : Cond.methodLink RL 39 yX5_allow ∈ glw := List.mem_filter.mpr ⟨List.mem_of_getElem? (i := 352) rfl, rfl⟩
set_option maxRecDepth 100000 in
theorem k_353 : Cond.instanceMethod yX5_allow ∈ glw := List.mem_filter.mpr ⟨List.mem_of_getElem? (i := 353) rfl, rfl⟩
set_option maxRecDepth 100000 in
theorem k_354 : Cond.selects RX5 yX5_allow yX5_allow ∈ glw := List.mem_filter.mpr ⟨List.mem_of_getElem? (i := 354) rfl, rfl⟩
set_option maxRecDepth 100000 in
theorem k_355 : Cond.code yX5_allow cX5_allow 3 (some .int) ∈ glw := List.mem_filter.mpr ⟨List.mem_of_getElem? (i := 355) rfl, rfl⟩
set_option maxRecDepth 100000 in
theorem k_356 : Cond.methodLink RL 43 yX5_weight ∈ glw := List.mem_filter.mpr ⟨List.mem_of_getElem? (i := 356) rfl, rfl⟩
set_option maxRecDepth 100000 in
theorem k_357 : Cond.instanceMethod yX5_weight ∈ glw := List.mem_filter.mpr ⟨List.mem_of_getElem? (i := 357) rfl, rfl⟩
set_option maxRecDepth 100000 in
theorem k_358 : Cond.selects RX5 yX5_weight yX5_weight ∈ glw := List.mem_filter.mpr ⟨List.mem_of_getElem? (i := 358) rfl, rfl⟩
set_option maxRecDepth 100000 in
theorem k_359 : Cond.code yX5_weight cX5_weight 5 (some .int) ∈ glw := List.mem_filter.mpr ⟨List.mem_of_getElem? (i := 359) rfl, rfl⟩
set_option maxRecDepth 100000 in
theorem k_360 : Cond.methodLink RX5 87 yX3_weightOfAll ∈ glw := List.mem_filter.mpr ⟨List.mem_of_getElem? (i := 360) rfl, rfl⟩
set_option maxRecDepth 100000 in
theorem k_361 : Cond.instanceMethod yX3_weightOfAll ∈ glw := List.mem_filter.mpr ⟨List.mem_of_getElem? (i := 361) rfl, rfl⟩
set_option maxRecDepth 100000 in
theorem k_362 : Cond.selects RX3 yX3_weightOfAll yX3_weightOfAll ∈ glw := List.mem_filter.mpr ⟨List.mem_of_getElem? (i := 362) rfl, rfl⟩
set_option maxRecDepth 100000 in
theorem k_363 : Cond.code yX3_weightOfAll cX3_weightOfAll 3 (some .int) ∈ glw := List.mem_filter.mpr ⟨List.mem_of_getElem? (i := 363) rfl, rfl⟩
set_option maxRecDepth 100000 in
theorem k_364 : Cond.methodLink RL 48 yX5_place ∈ glw := List.mem_filter.mpr ⟨List.mem_of_getElem? (i := 364) rfl, rfl⟩
set_option maxRecDepth 100000 in
theorem k_365 : Cond.instanceMethod yX5_place ∈ glw := List.mem_filter.mpr ⟨List.mem_of_getElem? (i := 365) rfl, rfl⟩
set_option maxRecDepth 100000 in
theorem k_366 : Cond.selects RX5 yX5_place yX5_place ∈ glw := List.mem_filter.mpr ⟨List.mem_of_getElem? (i := 366) rfl, rfl⟩
set_option maxRecDepth 100000 in
theorem k_367 : Cond.code yX5_place cX5_place 5 (some .int) ∈ glw := List.mem_filter.mpr ⟨List.mem_of_getElem? (i := 367) rfl, rfl⟩
set_option maxRecDepth 100000 in
theorem k_368 : Cond.methodLink RX5 90 yX3_has ∈ glw := List.mem_filter.mpr ⟨List.mem_of_getElem? (i := 368) rfl, rfl⟩
set_option maxRecDepth 100000 in
theorem k_369 : Cond.instanceMethod yX3_has ∈ glw := List.mem_filter.mpr ⟨List.mem_of_getElem? (i := 369) rfl, rfl⟩
set_option maxRecDepth 100000 in
theorem k_370 : Cond.selects RX3 yX3_has yX3_has ∈ glw := List.mem_filter.mpr ⟨List.mem_of_getElem? (i := 370) rfl, rfl⟩
set_option maxRecDepth 100000 in
theorem k_371 : Cond.code yX3_has cX3_has 2 (some .boolean) ∈ glw := List.mem_filter.mpr ⟨List.mem_of_getElem? (i := 371) rfl, rfl⟩
set_option maxRecDepth 100000 in
theorem k_372 : Cond.methodLink RL 52 yX5_out ∈ glw := List.mem_filter.mpr ⟨List.mem_of_getElem? (i := 372) rfl, rfl⟩
set_option maxRecDepth 100000 in
theorem k_373 : Cond.instanceMethod yX5_out ∈ glw := List.mem_filter.mpr ⟨List.mem_of_getElem? (i := 373) rfl, rfl⟩
set_option maxRecDepth 100000 in
theorem k_374 : Cond.selects RX5 yX5_out yX5_out ∈ glw := List.mem_filter.mpr ⟨List.mem_of_getElem? (i := 374) rfl, rfl⟩
set_option maxRecDepth 100000 in
theorem k_375 : Cond.code yX5_out cX5_out 2 (some .int) ∈ glw := List.mem_filter.mpr ⟨List.mem_of_getElem? (i := 375) rfl, rfl⟩
set_option maxRecDepth 100000 in
theorem k_376 : Cond.methodLink RX5 100 yX3_isWhole ∈ glw := List.mem_filter.mpr ⟨List.mem_of_getElem? (i := 376) rfl, rfl⟩
set_option maxRecDepth 100000 in
theorem k_377 : Cond.instanceMethod yX3_isWhole ∈ glw := List.mem_filter.mpr ⟨List.mem_of_getElem? (i := 377) rfl, rfl⟩
set_option maxRecDepth 100000 in
theorem k_378 : Cond.selects RX3 yX3_isWhole yX3_isWhole ∈ glw := List.mem_filter.mpr ⟨List.mem_of_getElem? (i := 378) rfl, rfl⟩
set_option maxRecDepth 100000 in
theorem k_379 : Cond.code yX3_isWhole cX3_isWhole 1 (some .boolean) ∈ glw := List.mem_filter.mpr ⟨List.mem_of_getElem? (i := 379) rfl, rfl⟩
set_option maxRecDepth 100000 in
theorem k_380 : Cond.methodLink RX3 57 yX3_howMany ∈ glw := List.mem_filter.mpr ⟨List.mem_of_getElem? (i := 380) rfl, rfl⟩
set_option maxRecDepth 100000 in
theorem k_381 : Cond.instanceMethod yX3_howMany ∈ glw := List.mem_filter.mpr ⟨List.mem_of_getElem? (i := 381) rfl, rfl⟩
set_option maxRecDepth 100000 in
theorem k_382 : Cond.selects RX3 yX3_howMany yX3_howMany ∈ glw := List.mem_filter.mpr ⟨List.mem_of_getElem? (i := 382) rfl, rfl⟩
set_option maxRecDepth 100000 in
theorem k_383 : Cond.code yX3_howMany cX3_howMany 4 (some .int) ∈ glw := List.mem_filter.mpr ⟨List.mem_of_getElem? (i := 383) rfl, rfl⟩
set_option maxRecDepth 100000 in
theorem k_384 : Cond.methodLink RX5 104 yX2_follow ∈ glw := List.mem_filter.mpr ⟨List.mem_of_getElem? (i := 384) rfl, rfl⟩
set_option maxRecDepth 100000 in
theorem k_385 : Cond.instanceMethod yX2_follow ∈ glw := List.mem_filter.mpr ⟨List.mem_of_getElem? (i := 385) rfl, rfl⟩
set_option maxRecDepth 100000 in
theorem k_386 : Cond.selects RX2 yX2_follow yX2_follow ∈ glw := List.mem_filter.mpr ⟨List.mem_of_getElem? (i := 386) rfl, rfl⟩
set_option maxRecDepth 100000 in
theorem k_387 : Cond.code yX2_follow cX2_follow 6 none ∈ glw := List.mem_filter.mpr ⟨List.mem_of_getElem? (i := 387) rfl, rfl⟩
set_option maxRecDepth 100000 in
theorem k_388 : Cond.methodLink RX2 42 yX2_read ∈ glw := List.mem_filter.mpr ⟨List.mem_of_getElem? (i := 388) rfl, rfl⟩
set_option maxRecDepth 100000 in
theorem k_389 : Cond.instanceMethod yX2_read ∈ glw := List.mem_filter.mpr ⟨List.mem_of_getElem? (i := 389) rfl, rfl⟩
set_option maxRecDepth 100000 in
theorem k_390 : Cond.selects RX2 yX2_read yX2_read ∈ glw := List.mem_filter.mpr ⟨List.mem_of_getElem? (i := 390) rfl, rfl⟩
set_option maxRecDepth 100000 in
theorem k_391 : Cond.code yX2_read cX2_read 5 none ∈ glw := List.mem_filter.mpr ⟨List.mem_of_getElem? (i := 391) rfl, rfl⟩
set_option maxRecDepth 100000 in
theorem k_393 : Cond.methodLink RX2 46 yX2_endBy ∈ glw := List.mem_filter.mpr ⟨List.mem_of_getElem? (i := 393) rfl, rfl⟩
set_option maxRecDepth 100000 in
theorem k_395 : Cond.instanceMethod yX2_endBy ∈ glw := List.mem_filter.mpr ⟨List.mem_of_getElem? (i := 395) rfl, rfl⟩
set_option maxRecDepth 100000 in
theorem k_396 : Cond.code yX2_endBy cX2_endBy 4 (some .int) ∈ glw := List.mem_filter.mpr ⟨List.mem_of_getElem? (i := 396) rfl, rfl⟩
set_option maxRecDepth 100000 in
theorem k_397 : Cond.methodLink RX2 50 Lib.Math.max.name ∈ glw := List.mem_filter.mpr ⟨List.mem_of_getElem? (i := 397) rfl, rfl⟩
set_option maxRecDepth 100000 in
theorem k_398 : Cond.static Lib.Math.max.name ∈ glw := List.mem_filter.mpr ⟨List.mem_of_getElem? (i := 398) rfl, rfl⟩
set_option maxRecDepth 100000 in
theorem k_399 : Cond.code Lib.Math.max.name cJ9_max_7cf53 2 (some .int) ∈ glw := List.mem_filter.mpr ⟨List.mem_of_getElem? (i := 399) rfl, rfl⟩
set_option maxRecDepth 100000 in
theorem k_400 : Cond.methodLink RL 56 yX5_streams ∈ glw := List.mem_filter.mpr ⟨List.mem_of_getElem? (i := 400) rfl, rfl⟩
set_option maxRecDepth 100000 in
theorem k_401 : Cond.instanceMethod yX5_streams ∈ glw := List.mem_filter.mpr ⟨List.mem_of_getElem? (i := 401) rfl, rfl⟩
set_option maxRecDepth 100000 in
theorem k_402 : Cond.selects RX5 yX5_streams yX5_streams ∈ glw := List.mem_filter.mpr ⟨List.mem_of_getElem? (i := 402) rfl, rfl⟩
set_option maxRecDepth 100000 in
theorem k_403 : Cond.code yX5_streams cX5_streams 1 (some .int) ∈ glw := List.mem_filter.mpr ⟨List.mem_of_getElem? (i := 403) rfl, rfl⟩
set_option maxRecDepth 100000 in
theorem k_404 : Cond.methodLink RX5 111 yX2_manyEnds ∈ glw := List.mem_filter.mpr ⟨List.mem_of_getElem? (i := 404) rfl, rfl⟩
set_option maxRecDepth 100000 in
theorem k_405 : Cond.instanceMethod yX2_manyEnds ∈ glw := List.mem_filter.mpr ⟨List.mem_of_getElem? (i := 405) rfl, rfl⟩
set_option maxRecDepth 100000 in
theorem k_406 : Cond.selects RX2 yX2_manyEnds yX2_manyEnds ∈ glw := List.mem_filter.mpr ⟨List.mem_of_getElem? (i := 406) rfl, rfl⟩
set_option maxRecDepth 100000 in
theorem k_407 : Cond.code yX2_manyEnds cX2_manyEnds 4 (some .int) ∈ glw := List.mem_filter.mpr ⟨List.mem_of_getElem? (i := 407) rfl, rfl⟩
set_option maxRecDepth 100000 in
theorem k_408 : Cond.methodLink RX2 61 yJ13_bitCount_95d88 ∈ glw := List.mem_filter.mpr ⟨List.mem_of_getElem? (i := 408) rfl, rfl⟩
set_option maxRecDepth 100000 in
theorem k_409 : Cond.static yJ13_bitCount_95d88 ∈ glw := List.mem_filter.mpr ⟨List.mem_of_getElem? (i := 409) rfl, rfl⟩
set_option maxRecDepth 100000 in
theorem k_410 : Cond.code yJ13_bitCount_95d88 cJ13_bitCount_95d88 2 (some .int) ∈ glw := List.mem_filter.mpr ⟨List.mem_of_getElem? (i := 410) rfl, rfl⟩
set_option maxRecDepth 100000 in
theorem k_411 : Cond.constantLong RJ13 314 (6148914691236517205) ∈ glw := List.mem_filter.mpr ⟨List.mem_of_getElem? (i := 411) rfl, rfl⟩
set_option maxRecDepth 100000 in
theorem k_412 : Cond.constantLong RJ13 316 (3689348814741910323) ∈ glw := List.mem_filter.mpr ⟨List.mem_of_getElem? (i := 412) rfl, rfl⟩
set_option maxRecDepth 100000 in
theorem k_413 : Cond.constantLong RJ13 318 (1085102592571150095) ∈ glw := List.mem_filter.mpr ⟨List.mem_of_getElem? (i := 413) rfl, rfl⟩
set_option maxRecDepth 100000 in
theorem k_414 : Cond.methodLink RL 60 yX5_meet ∈ glw := List.mem_filter.mpr ⟨List.mem_of_getElem? (i := 414) rfl, rfl⟩
set_option maxRecDepth 100000 in
theorem k_415 : Cond.instanceMethod yX5_meet ∈ glw := List.mem_filter.mpr ⟨List.mem_of_getElem? (i := 415) rfl, rfl⟩
set_option maxRecDepth 100000 in
theorem k_416 : Cond.selects RX5 yX5_meet yX5_meet ∈ glw := List.mem_filter.mpr ⟨List.mem_of_getElem? (i := 416) rfl, rfl⟩
set_option maxRecDepth 100000 in
theorem k_417 : Cond.code yX5_meet cX5_meet 5 (some .int) ∈ glw := List.mem_filter.mpr ⟨List.mem_of_getElem? (i := 417) rfl, rfl⟩
set_option maxRecDepth 100000 in
theorem k_418 : Cond.methodLink RX5 114 yX2_read ∈ glw := List.mem_filter.mpr ⟨List.mem_of_getElem? (i := 418) rfl, rfl⟩
set_option maxRecDepth 100000 in
theorem k_419 : Cond.methodLink RX5 117 yX2_streamOf ∈ glw := List.mem_filter.mpr ⟨List.mem_of_getElem? (i := 419) rfl, rfl⟩
set_option maxRecDepth 100000 in
theorem k_420 : Cond.instanceMethod yX2_streamOf ∈ glw := List.mem_filter.mpr ⟨List.mem_of_getElem? (i := 420) rfl, rfl⟩
set_option maxRecDepth 100000 in
theorem k_421 : Cond.selects RX2 yX2_streamOf yX2_streamOf ∈ glw := List.mem_filter.mpr ⟨List.mem_of_getElem? (i := 421) rfl, rfl⟩
set_option maxRecDepth 100000 in
theorem k_422 : Cond.code yX2_streamOf cX2_streamOf 6 (some .long) ∈ glw := List.mem_filter.mpr ⟨List.mem_of_getElem? (i := 422) rfl, rfl⟩
set_option maxRecDepth 100000 in
theorem k_423 : Cond.methodLink RX5 121 yX5_leastBit ∈ glw := List.mem_filter.mpr ⟨List.mem_of_getElem? (i := 423) rfl, rfl⟩
set_option maxRecDepth 100000 in
theorem k_424 : Cond.static yX5_leastBit ∈ glw := List.mem_filter.mpr ⟨List.mem_of_getElem? (i := 424) rfl, rfl⟩
set_option maxRecDepth 100000 in
theorem k_425 : Cond.code yX5_leastBit cX5_leastBit 2 (some .int) ∈ glw := List.mem_filter.mpr ⟨List.mem_of_getElem? (i := 425) rfl, rfl⟩
set_option maxRecDepth 100000 in
theorem k_426 : Cond.methodLink RX5 129 yJ13_bitCount_95d88 ∈ glw := List.mem_filter.mpr ⟨List.mem_of_getElem? (i := 426) rfl, rfl⟩
set_option maxRecDepth 100000 in
theorem k_427 : Cond.methodLink RL 64 yX5_pass ∈ glw := List.mem_filter.mpr ⟨List.mem_of_getElem? (i := 427) rfl, rfl⟩
set_option maxRecDepth 100000 in
theorem k_428 : Cond.instanceMethod yX5_pass ∈ glw := List.mem_filter.mpr ⟨List.mem_of_getElem? (i := 428) rfl, rfl⟩
set_option maxRecDepth 100000 in
theorem k_429 : Cond.selects RX5 yX5_pass yX5_pass ∈ glw := List.mem_filter.mpr ⟨List.mem_of_getElem? (i := 429) rfl, rfl⟩
set_option maxRecDepth 100000 in
theorem k_430 : Cond.code yX5_pass cX5_pass 4 (some .int) ∈ glw := List.mem_filter.mpr ⟨List.mem_of_getElem? (i := 430) rfl, rfl⟩
set_option maxRecDepth 100000 in
theorem k_431 : Cond.methodLink RX5 125 yX2_passedByAll ∈ glw := List.mem_filter.mpr ⟨List.mem_of_getElem? (i := 431) rfl, rfl⟩
set_option maxRecDepth 100000 in
theorem k_432 : Cond.instanceMethod yX2_passedByAll ∈ glw := List.mem_filter.mpr ⟨List.mem_of_getElem? (i := 432) rfl, rfl⟩
set_option maxRecDepth 100000 in
theorem k_433 : Cond.selects RX2 yX2_passedByAll yX2_passedByAll ∈ glw := List.mem_filter.mpr ⟨List.mem_of_getElem? (i := 433) rfl, rfl⟩
set_option maxRecDepth 100000 in
theorem k_434 : Cond.code yX2_passedByAll cX2_passedByAll 4 (some .long) ∈ glw := List.mem_filter.mpr ⟨List.mem_of_getElem? (i := 434) rfl, rfl⟩
set_option maxRecDepth 100000 in
theorem k_435 : Cond.constantLong RX2 55 (-1) ∈ glw := List.mem_filter.mpr ⟨List.mem_of_getElem? (i := 435) rfl, rfl⟩
set_option maxRecDepth 100000 in
theorem k_436 : Cond.methodLink RX2 57 yX2_streamOf ∈ glw := List.mem_filter.mpr ⟨List.mem_of_getElem? (i := 436) rfl, rfl⟩
set_option maxRecDepth 100000 in
theorem k_437 : Cond.methodLink RX5 134 yX5_bitAt ∈ glw := List.mem_filter.mpr ⟨List.mem_of_getElem? (i := 437) rfl, rfl⟩
set_option maxRecDepth 100000 in
theorem k_438 : Cond.static yX5_bitAt ∈ glw := List.mem_filter.mpr ⟨List.mem_of_getElem? (i := 438) rfl, rfl⟩
set_option maxRecDepth 100000 in
theorem k_439 : Cond.code yX5_bitAt cX5_bitAt 5 (some .int) ∈ glw := List.mem_filter.mpr ⟨List.mem_of_getElem? (i := 439) rfl, rfl⟩
set_option maxRecDepth 100000 in
theorem k_440 : Cond.methodLink RL 68 yX5_tree ∈ glw := List.mem_filter.mpr ⟨List.mem_of_getElem? (i := 440) rfl, rfl⟩
set_option maxRecDepth 100000 in
theorem k_441 : Cond.instanceMethod yX5_tree ∈ glw := List.mem_filter.mpr ⟨List.mem_of_getElem? (i := 441) rfl, rfl⟩
set_option maxRecDepth 100000 in
theorem k_442 : Cond.selects RX5 yX5_tree yX5_tree ∈ glw := List.mem_filter.mpr ⟨List.mem_of_getElem? (i := 442) rfl, rfl⟩
set_option maxRecDepth 100000 in
theorem k_443 : Cond.code yX5_tree cX5_tree 3 (some .int) ∈ glw := List.mem_filter.mpr ⟨List.mem_of_getElem? (i := 443) rfl, rfl⟩
set_option maxRecDepth 100000 in
theorem k_444 : Cond.methodLink RL 72 yX5_nowhere ∈ glw := List.mem_filter.mpr ⟨List.mem_of_getElem? (i := 444) rfl, rfl⟩
set_option maxRecDepth 100000 in
theorem k_445 : Cond.instanceMethod yX5_nowhere ∈ glw := List.mem_filter.mpr ⟨List.mem_of_getElem? (i := 445) rfl, rfl⟩
set_option maxRecDepth 100000 in
theorem k_446 : Cond.selects RX5 yX5_nowhere yX5_nowhere ∈ glw := List.mem_filter.mpr ⟨List.mem_of_getElem? (i := 446) rfl, rfl⟩
set_option maxRecDepth 100000 in
theorem k_447 : Cond.code yX5_nowhere cX5_nowhere 3 (some .int) ∈ glw := List.mem_filter.mpr ⟨List.mem_of_getElem? (i := 447) rfl, rfl⟩
set_option maxRecDepth 100000 in
theorem k_448 : Cond.methodLink RL 76 yX5_minds ∈ glw := List.mem_filter.mpr ⟨List.mem_of_getElem? (i := 448) rfl, rfl⟩
set_option maxRecDepth 100000 in
theorem k_449 : Cond.instanceMethod yX5_minds ∈ glw := List.mem_filter.mpr ⟨List.mem_of_getElem? (i := 449) rfl, rfl⟩
set_option maxRecDepth 100000 in
theorem k_450 : Cond.selects RX5 yX5_minds yX5_minds ∈ glw := List.mem_filter.mpr ⟨List.mem_of_getElem? (i := 450) rfl, rfl⟩
set_option maxRecDepth 100000 in
theorem k_451 : Cond.code yX5_minds cX5_minds 3 (some .int) ∈ glw := List.mem_filter.mpr ⟨List.mem_of_getElem? (i := 451) rfl, rfl⟩
set_option maxRecDepth 100000 in
theorem k_452 : Cond.methodLink RX5 148 yX2_mindsBy ∈ glw := List.mem_filter.mpr ⟨List.mem_of_getElem? (i := 452) rfl, rfl⟩
set_option maxRecDepth 100000 in
theorem k_453 : Cond.instanceMethod yX2_mindsBy ∈ glw := List.mem_filter.mpr ⟨List.mem_of_getElem? (i := 453) rfl, rfl⟩
set_option maxRecDepth 100000 in
theorem k_454 : Cond.selects RX2 yX2_mindsBy yX2_mindsBy ∈ glw := List.mem_filter.mpr ⟨List.mem_of_getElem? (i := 454) rfl, rfl⟩
set_option maxRecDepth 100000 in
theorem k_455 : Cond.code yX2_mindsBy cX2_mindsBy 3 (some .int) ∈ glw := List.mem_filter.mpr ⟨List.mem_of_getElem? (i := 455) rfl, rfl⟩
set_option maxRecDepth 100000 in
theorem k_456 : Cond.methodLink RL 80 yX5_one ∈ glw := List.mem_filter.mpr ⟨List.mem_of_getElem? (i := 456) rfl, rfl⟩
set_option maxRecDepth 100000 in
theorem k_457 : Cond.instanceMethod yX5_one ∈ glw := List.mem_filter.mpr ⟨List.mem_of_getElem? (i := 457) rfl, rfl⟩
set_option maxRecDepth 100000 in
theorem k_458 : Cond.selects RX5 yX5_one yX5_one ∈ glw := List.mem_filter.mpr ⟨List.mem_of_getElem? (i := 458) rfl, rfl⟩
set_option maxRecDepth 100000 in
theorem k_459 : Cond.code yX5_one cX5_one 8 (some .int) ∈ glw := List.mem_filter.mpr ⟨List.mem_of_getElem? (i := 459) rfl, rfl⟩
set_option maxRecDepth 100000 in
theorem k_460 : Cond.methodLink RL 84 yX5_best ∈ glw := List.mem_filter.mpr ⟨List.mem_of_getElem? (i := 460) rfl, rfl⟩
set_option maxRecDepth 100000 in
theorem k_461 : Cond.instanceMethod yX5_best ∈ glw := List.mem_filter.mpr ⟨List.mem_of_getElem? (i := 461) rfl, rfl⟩
set_option maxRecDepth 100000 in
theorem k_462 : Cond.selects RX5 yX5_best yX5_best ∈ glw := List.mem_filter.mpr ⟨List.mem_of_getElem? (i := 462) rfl, rfl⟩
set_option maxRecDepth 100000 in
theorem k_463 : Cond.code yX5_best cX5_best 6 (some .int) ∈ glw := List.mem_filter.mpr ⟨List.mem_of_getElem? (i := 463) rfl, rfl⟩
set_option maxRecDepth 100000 in
theorem k_464 : Cond.methodLink RX5 152 yX2_mostAtOneEnd ∈ glw := List.mem_filter.mpr ⟨List.mem_of_getElem? (i := 464) rfl, rfl⟩
set_option maxRecDepth 100000 in
theorem k_465 : Cond.instanceMethod yX2_mostAtOneEnd ∈ glw := List.mem_filter.mpr ⟨List.mem_of_getElem? (i := 465) rfl, rfl⟩
set_option maxRecDepth 100000 in
theorem k_466 : Cond.selects RX2 yX2_mostAtOneEnd yX2_mostAtOneEnd ∈ glw := List.mem_filter.mpr ⟨List.mem_of_getElem? (i := 466) rfl, rfl⟩
set_option maxRecDepth 100000 in
theorem k_467 : Cond.code yX2_mostAtOneEnd cX2_mostAtOneEnd 3 (some .int) ∈ glw := List.mem_filter.mpr ⟨List.mem_of_getElem? (i := 467) rfl, rfl⟩
set_option maxRecDepth 100000 in
theorem k_468 : Cond.methodLink RL 88 yX5_likely ∈ glw := List.mem_filter.mpr ⟨List.mem_of_getElem? (i := 468) rfl, rfl⟩
set_option maxRecDepth 100000 in
theorem k_469 : Cond.instanceMethod yX5_likely ∈ glw := List.mem_filter.mpr ⟨List.mem_of_getElem? (i := 469) rfl, rfl⟩
set_option maxRecDepth 100000 in
theorem k_470 : Cond.selects RX5 yX5_likely yX5_likely ∈ glw := List.mem_filter.mpr ⟨List.mem_of_getElem? (i := 470) rfl, rfl⟩
set_option maxRecDepth 100000 in
theorem k_471 : Cond.code yX5_likely cX5_likely 4 (some .long) ∈ glw := List.mem_filter.mpr ⟨List.mem_of_getElem? (i := 471) rfl, rfl⟩
set_option maxRecDepth 100000 in
theorem k_472 : Cond.constantLong RX5 155 (-1000000000000000001) ∈ glw := List.mem_filter.mpr ⟨List.mem_of_getElem? (i := 472) rfl, rfl⟩
set_option maxRecDepth 100000 in
theorem k_473 : Cond.methodLink RX5 157 yX5_isPart ∈ glw := List.mem_filter.mpr ⟨List.mem_of_getElem? (i := 473) rfl, rfl⟩
set_option maxRecDepth 100000 in
theorem k_474 : Cond.static yX5_isPart ∈ glw := List.mem_filter.mpr ⟨List.mem_of_getElem? (i := 474) rfl, rfl⟩
set_option maxRecDepth 100000 in
theorem k_475 : Cond.code yX5_isPart cX5_isPart 1 (some .boolean) ∈ glw := List.mem_filter.mpr ⟨List.mem_of_getElem? (i := 475) rfl, rfl⟩
set_option maxRecDepth 100000 in
theorem k_476 : Cond.constantLong RX5 160 (-1000000000000000002) ∈ glw := List.mem_filter.mpr ⟨List.mem_of_getElem? (i := 476) rfl, rfl⟩
set_option maxRecDepth 100000 in
theorem k_477 : Cond.methodLink RX5 162 yX3_howMany ∈ glw := List.mem_filter.mpr ⟨List.mem_of_getElem? (i := 477) rfl, rfl⟩
set_option maxRecDepth 100000 in
theorem k_478 : Cond.constantLong RX5 166 (-1000000000000000003) ∈ glw := List.mem_filter.mpr ⟨List.mem_of_getElem? (i := 478) rfl, rfl⟩
set_option maxRecDepth 100000 in
theorem k_479 : Cond.methodLink RX5 168 yX5_chanceOfOneStream ∈ glw := List.mem_filter.mpr ⟨List.mem_of_getElem? (i := 479) rfl, rfl⟩
set_option maxRecDepth 100000 in
theorem k_481 : Cond.instanceMethod yX5_chanceOfOneStream ∈ glw := List.mem_filter.mpr ⟨List.mem_of_getElem? (i := 481) rfl, rfl⟩
set_option maxRecDepth 100000 in
theorem k_482 : Cond.code yX5_chanceOfOneStream cX5_chanceOfOneStream 4 (some .long) ∈ glw := List.mem_filter.mpr ⟨List.mem_of_getElem? (i := 482) rfl, rfl⟩
set_option maxRecDepth 100000 in
theorem k_483 : Cond.methodLink RX5 228 yX0_reckon ∈ glw := List.mem_filter.mpr ⟨List.mem_of_getElem? (i := 483) rfl, rfl⟩
set_option maxRecDepth 100000 in
theorem k_484 : Cond.instanceMethod yX0_reckon ∈ glw := List.mem_filter.mpr ⟨List.mem_of_getElem? (i := 484) rfl, rfl⟩
set_option maxRecDepth 100000 in
theorem k_485 : Cond.selects RX0 yX0_reckon yX0_reckon ∈ glw := List.mem_filter.mpr ⟨List.mem_of_getElem? (i := 485) rfl, rfl⟩
set_option maxRecDepth 100000 in
theorem k_486 : Cond.code yX0_reckon cX0_reckon 9 none ∈ glw := List.mem_filter.mpr ⟨List.mem_of_getElem? (i := 486) rfl, rfl⟩
set_option maxRecDepth 100000 in
theorem k_487 : Cond.methodLink RX0 25 yJ7_fill_d0a16 ∈ glw := List.mem_filter.mpr ⟨List.mem_of_getElem? (i := 487) rfl, rfl⟩
set_option maxRecDepth 100000 in
theorem k_488 : Cond.static yJ7_fill_d0a16 ∈ glw := List.mem_filter.mpr ⟨List.mem_of_getElem? (i := 488) rfl, rfl⟩
set_option maxRecDepth 100000 in
theorem k_489 : Cond.code yJ7_fill_d0a16 cJ7_fill_d0a16 5 none ∈ glw := List.mem_filter.mpr ⟨List.mem_of_getElem? (i := 489) rfl, rfl⟩
set_option maxRecDepth 100000 in
theorem k_490 : Cond.constantLong RX0 31 (1023) ∈ glw := List.mem_filter.mpr ⟨List.mem_of_getElem? (i := 490) rfl, rfl⟩
set_option maxRecDepth 100000 in
theorem k_491 : Cond.methodLink RX0 43 yX0_goOnFrom ∈ glw := List.mem_filter.mpr ⟨List.mem_of_getElem? (i := 491) rfl, rfl⟩
set_option maxRecDepth 100000 in
theorem k_493 : Cond.instanceMethod yX0_goOnFrom ∈ glw := List.mem_filter.mpr ⟨List.mem_of_getElem? (i := 493) rfl, rfl⟩
set_option maxRecDepth 100000 in
theorem k_494 : Cond.code yX0_goOnFrom cX0_goOnFrom 13 none ∈ glw := List.mem_filter.mpr ⟨List.mem_of_getElem? (i := 494) rfl, rfl⟩
set_option maxRecDepth 100000 in
theorem k_495 : Cond.methodLink RX0 47 yX0_land ∈ glw := List.mem_filter.mpr ⟨List.mem_of_getElem? (i := 495) rfl, rfl⟩
set_option maxRecDepth 100000 in
theorem k_497 : Cond.instanceMethod yX0_land ∈ glw := List.mem_filter.mpr ⟨List.mem_of_getElem? (i := 497) rfl, rfl⟩
set_option maxRecDepth 100000 in
theorem k_498 : Cond.code yX0_land cX0_land 7 none ∈ glw := List.mem_filter.mpr ⟨List.mem_of_getElem? (i := 498) rfl, rfl⟩
set_option maxRecDepth 100000 in
theorem k_499 : Cond.methodLink RX0 51 yX0_landByWeights ∈ glw := List.mem_filter.mpr ⟨List.mem_of_getElem? (i := 499) rfl, rfl⟩
set_option maxRecDepth 100000 in
theorem k_501 : Cond.instanceMethod yX0_landByWeights ∈ glw := List.mem_filter.mpr ⟨List.mem_of_getElem? (i := 501) rfl, rfl⟩
set_option maxRecDepth 100000 in
theorem k_502 : Cond.code yX0_landByWeights cX0_landByWeights 8 none ∈ glw := List.mem_filter.mpr ⟨List.mem_of_getElem? (i := 502) rfl, rfl⟩
set_option maxRecDepth 100000 in
theorem k_503 : Cond.methodLink RX5 206 yX5_lowestTerms ∈ glw := List.mem_filter.mpr ⟨List.mem_of_getElem? (i := 503) rfl, rfl⟩
set_option maxRecDepth 100000 in
theorem k_504 : Cond.static yX5_lowestTerms ∈ glw := List.mem_filter.mpr ⟨List.mem_of_getElem? (i := 504) rfl, rfl⟩
set_option maxRecDepth 100000 in
theorem k_505 : Cond.code yX5_lowestTerms cX5_lowestTerms 12 (some .long) ∈ glw := List.mem_filter.mpr ⟨List.mem_of_getElem? (i := 505) rfl, rfl⟩
set_option maxRecDepth 100000 in
theorem k_506 : Cond.methodLink RL 93 yX5_all ∈ glw := List.mem_filter.mpr ⟨List.mem_of_getElem? (i := 506) rfl, rfl⟩
set_option maxRecDepth 100000 in
theorem k_507 : Cond.instanceMethod yX5_all ∈ glw := List.mem_filter.mpr ⟨List.mem_of_getElem? (i := 507) rfl, rfl⟩
set_option maxRecDepth 100000 in
theorem k_508 : Cond.selects RX5 yX5_all yX5_all ∈ glw := List.mem_filter.mpr ⟨List.mem_of_getElem? (i := 508) rfl, rfl⟩
set_option maxRecDepth 100000 in
theorem k_509 : Cond.code yX5_all cX5_all 2 (some .long) ∈ glw := List.mem_filter.mpr ⟨List.mem_of_getElem? (i := 509) rfl, rfl⟩
set_option maxRecDepth 100000 in
theorem k_510 : Cond.methodLink RL 98 yX5_write ∈ glw := List.mem_filter.mpr ⟨List.mem_of_getElem? (i := 510) rfl, rfl⟩
set_option maxRecDepth 100000 in
theorem k_511 : Cond.instanceMethod yX5_write ∈ glw := List.mem_filter.mpr ⟨List.mem_of_getElem? (i := 511) rfl, rfl⟩
set_option maxRecDepth 100000 in
theorem k_512 : Cond.selects RX5 yX5_write yX5_write ∈ glw := List.mem_filter.mpr ⟨List.mem_of_getElem? (i := 512) rfl, rfl⟩
set_option maxRecDepth 100000 in
theorem k_513 : Cond.code yX5_write cX5_write 4 (some .int) ∈ glw := List.mem_filter.mpr ⟨List.mem_of_getElem? (i := 513) rfl, rfl⟩
set_option maxRecDepth 100000 in
theorem k_514 : Cond.methodLink RX5 172 yX4_seek ∈ glw := List.mem_filter.mpr ⟨List.mem_of_getElem? (i := 514) rfl, rfl⟩
set_option maxRecDepth 100000 in
theorem k_515 : Cond.instanceMethod yX4_seek ∈ glw := List.mem_filter.mpr ⟨List.mem_of_getElem? (i := 515) rfl, rfl⟩
set_option maxRecDepth 100000 in
theorem k_516 : Cond.selects RX4 yX4_seek yX4_seek ∈ glw := List.mem_filter.mpr ⟨List.mem_of_getElem? (i := 516) rfl, rfl⟩
set_option maxRecDepth 100000 in
theorem k_517 : Cond.code yX4_seek cX4_seek 6 none ∈ glw := List.mem_filter.mpr ⟨List.mem_of_getElem? (i := 517) rfl, rfl⟩
set_option maxRecDepth 100000 in
theorem k_518 : Cond.methodLink RX4 24 arraycopyName ∈ glw := List.mem_filter.mpr ⟨List.mem_of_getElem? (i := 518) rfl, rfl⟩
set_option maxRecDepth 100000 in
theorem k_520 : Cond.methodLink RX4 49 yJ6_bitCount_0f7a4 ∈ glw := List.mem_filter.mpr ⟨List.mem_of_getElem? (i := 520) rfl, rfl⟩
set_option maxRecDepth 100000 in
theorem k_521 : Cond.static yJ6_bitCount_0f7a4 ∈ glw := List.mem_filter.mpr ⟨List.mem_of_getElem? (i := 521) rfl, rfl⟩
set_option maxRecDepth 100000 in
theorem k_522 : Cond.code yJ6_bitCount_0f7a4 cJ6_bitCount_0f7a4 1 (some .int) ∈ glw := List.mem_filter.mpr ⟨List.mem_of_getElem? (i := 522) rfl, rfl⟩
set_option maxRecDepth 100000 in
theorem k_523 : Cond.constant RJ6 265 (1431655765) ∈ glw := List.mem_filter.mpr ⟨List.mem_of_getElem? (i := 523) rfl, rfl⟩
set_option maxRecDepth 100000 in
theorem k_524 : Cond.constant RJ6 266 (858993459) ∈ glw := List.mem_filter.mpr ⟨List.mem_of_getElem? (i := 524) rfl, rfl⟩
set_option maxRecDepth 100000 in
theorem k_525 : Cond.constant RJ6 267 (252645135) ∈ glw := List.mem_filter.mpr ⟨List.mem_of_getElem? (i := 525) rfl, rfl⟩
set_option maxRecDepth 100000 in
theorem k_526 : Cond.methodLink RX4 74 yX4_goOn ∈ glw := List.mem_filter.mpr ⟨List.mem_of_getElem? (i := 526) rfl, rfl⟩
set_option maxRecDepth 100000 in
theorem k_528 : Cond.instanceMethod yX4_goOn ∈ glw := List.mem_filter.mpr ⟨List.mem_of_getElem? (i := 528) rfl, rfl⟩
set_option maxRecDepth 100000 in
theorem k_529 : Cond.code yX4_goOn cX4_goOn 20 none ∈ glw := List.mem_filter.mpr ⟨List.mem_of_getElem? (i := 529) rfl, rfl⟩
set_option maxRecDepth 100000 in
theorem k_530 : Cond.methodLink RX4 78 yX4_tryCounts ∈ glw := List.mem_filter.mpr ⟨List.mem_of_getElem? (i := 530) rfl, rfl⟩
set_option maxRecDepth 100000 in
theorem k_532 : Cond.instanceMethod yX4_tryCounts ∈ glw := List.mem_filter.mpr ⟨List.mem_of_getElem? (i := 532) rfl, rfl⟩
set_option maxRecDepth 100000 in
theorem k_533 : Cond.code yX4_tryCounts cX4_tryCounts 11 none ∈ glw := List.mem_filter.mpr ⟨List.mem_of_getElem? (i := 533) rfl, rfl⟩
set_option maxRecDepth 100000 in
theorem k_534 : Cond.methodLink RX4 81 yX4_weigh ∈ glw := List.mem_filter.mpr ⟨List.mem_of_getElem? (i := 534) rfl, rfl⟩
set_option maxRecDepth 100000 in
theorem k_536 : Cond.instanceMethod yX4_weigh ∈ glw := List.mem_filter.mpr ⟨List.mem_of_getElem? (i := 536) rfl, rfl⟩
set_option maxRecDepth 100000 in
theorem k_537 : Cond.code yX4_weigh cX4_weigh 7 none ∈ glw := List.mem_filter.mpr ⟨List.mem_of_getElem? (i := 537) rfl, rfl⟩
set_option maxRecDepth 100000 in
theorem k_538 : Cond.methodLink RX4 85 yJ13_bitCount_95d88 ∈ glw := List.mem_filter.mpr ⟨List.mem_of_getElem? (i := 538) rfl, rfl⟩
set_option maxRecDepth 100000 in
theorem k_539 : Cond.methodLink RX4 89 yX4_holds ∈ glw := List.mem_filter.mpr ⟨List.mem_of_getElem? (i := 539) rfl, rfl⟩
set_option maxRecDepth 100000 in
theorem k_541 : Cond.instanceMethod yX4_holds ∈ glw := List.mem_filter.mpr ⟨List.mem_of_getElem? (i := 541) rfl, rfl⟩
set_option maxRecDepth 100000 in
theorem k_542 : Cond.code yX4_holds cX4_holds 4 (some .boolean) ∈ glw := List.mem_filter.mpr ⟨List.mem_of_getElem? (i := 542) rfl, rfl⟩
set_option maxRecDepth 100000 in
theorem k_543 : Cond.methodLink RX5 179 yX5_writtenAt ∈ glw := List.mem_filter.mpr ⟨List.mem_of_getElem? (i := 543) rfl, rfl⟩
set_option maxRecDepth 100000 in
theorem k_545 : Cond.instanceMethod yX5_writtenAt ∈ glw := List.mem_filter.mpr ⟨List.mem_of_getElem? (i := 545) rfl, rfl⟩
set_option maxRecDepth 100000 in
theorem k_546 : Cond.code yX5_writtenAt cX5_writtenAt 2 (some .int) ∈ glw := List.mem_filter.mpr ⟨List.mem_of_getElem? (i := 546) rfl, rfl⟩
set_option maxRecDepth 100000 in
theorem k_547 : Cond.methodLink RL 103 yX5_soonest ∈ glw := List.mem_filter.mpr ⟨List.mem_of_getElem? (i := 547) rfl, rfl⟩
set_option maxRecDepth 100000 in
theorem k_548 : Cond.instanceMethod yX5_soonest ∈ glw := List.mem_filter.mpr ⟨List.mem_of_getElem? (i := 548) rfl, rfl⟩
set_option maxRecDepth 100000 in
theorem k_549 : Cond.selects RX5 yX5_soonest yX5_soonest ∈ glw := List.mem_filter.mpr ⟨List.mem_of_getElem? (i := 549) rfl, rfl⟩
set_option maxRecDepth 100000 in
theorem k_550 : Cond.code yX5_soonest cX5_soonest 2 (some .int) ∈ glw := List.mem_filter.mpr ⟨List.mem_of_getElem? (i := 550) rfl, rfl⟩
set_option maxRecDepth 100000 in
theorem k_551 : Cond.methodLink RL 107 yX5_seen ∈ glw := List.mem_filter.mpr ⟨List.mem_of_getElem? (i := 551) rfl, rfl⟩
set_option maxRecDepth 100000 in
theorem k_552 : Cond.instanceMethod yX5_seen ∈ glw := List.mem_filter.mpr ⟨List.mem_of_getElem? (i := 552) rfl, rfl⟩
set_option maxRecDepth 100000 in
theorem k_553 : Cond.selects RX5 yX5_seen yX5_seen ∈ glw := List.mem_filter.mpr ⟨List.mem_of_getElem? (i := 553) rfl, rfl⟩
set_option maxRecDepth 100000 in
theorem k_554 : Cond.code yX5_seen cX5_seen 3 (some .int) ∈ glw := List.mem_filter.mpr ⟨List.mem_of_getElem? (i := 554) rfl, rfl⟩
set_option maxRecDepth 100000 in
theorem k_555 : Cond.methodLink RL 111 yX5_forget ∈ glw := List.mem_filter.mpr ⟨List.mem_of_getElem? (i := 555) rfl, rfl⟩
set_option maxRecDepth 100000 in
theorem k_556 : Cond.instanceMethod yX5_forget ∈ glw := List.mem_filter.mpr ⟨List.mem_of_getElem? (i := 556) rfl, rfl⟩
set_option maxRecDepth 100000 in
theorem k_557 : Cond.selects RX5 yX5_forget yX5_forget ∈ glw := List.mem_filter.mpr ⟨List.mem_of_getElem? (i := 557) rfl, rfl⟩
set_option maxRecDepth 100000 in
theorem k_558 : Cond.code yX5_forget cX5_forget 2 (some .int) ∈ glw := List.mem_filter.mpr ⟨List.mem_of_getElem? (i := 558) rfl, rfl⟩
set_option maxRecDepth 100000 in
theorem k_559 : Cond.methodLink RL 115 yX5_fits ∈ glw := List.mem_filter.mpr ⟨List.mem_of_getElem? (i := 559) rfl, rfl⟩
set_option maxRecDepth 100000 in
theorem k_560 : Cond.instanceMethod yX5_fits ∈ glw := List.mem_filter.mpr ⟨List.mem_of_getElem? (i := 560) rfl, rfl⟩
set_option maxRecDepth 100000 in
theorem k_561 : Cond.selects RX5 yX5_fits yX5_fits ∈ glw := List.mem_filter.mpr ⟨List.mem_of_getElem? (i := 561) rfl, rfl⟩
set_option maxRecDepth 100000 in
theorem k_562 : Cond.code yX5_fits cX5_fits 1 (some .int) ∈ glw := List.mem_filter.mpr ⟨List.mem_of_getElem? (i := 562) rfl, rfl⟩
set_option maxRecDepth 100000 in
theorem k_563 : Cond.methodLink RX5 195 yX1_seek ∈ glw := List.mem_filter.mpr ⟨List.mem_of_getElem? (i := 563) rfl, rfl⟩
set_option maxRecDepth 100000 in
theorem k_564 : Cond.instanceMethod yX1_seek ∈ glw := List.mem_filter.mpr ⟨List.mem_of_getElem? (i := 564) rfl, rfl⟩
set_option maxRecDepth 100000 in
theorem k_565 : Cond.selects RX1 yX1_seek yX1_seek ∈ glw := List.mem_filter.mpr ⟨List.mem_of_getElem? (i := 565) rfl, rfl⟩
set_option maxRecDepth 100000 in
theorem k_566 : Cond.code yX1_seek cX1_seek 6 none ∈ glw := List.mem_filter.mpr ⟨List.mem_of_getElem? (i := 566) rfl, rfl⟩
set_option maxRecDepth 100000 in
theorem k_567 : Cond.methodLink RX1 34 arraycopyName ∈ glw := List.mem_filter.mpr ⟨List.mem_of_getElem? (i := 567) rfl, rfl⟩
set_option maxRecDepth 100000 in
theorem k_568 : Cond.methodLink RX1 40 yX3_weightOfAll ∈ glw := List.mem_filter.mpr ⟨List.mem_of_getElem? (i := 568) rfl, rfl⟩
set_option maxRecDepth 100000 in
theorem k_569 : Cond.methodLink RX1 65 yX1_findSpots ∈ glw := List.mem_filter.mpr ⟨List.mem_of_getElem? (i := 569) rfl, rfl⟩
set_option maxRecDepth 100000 in
theorem k_571 : Cond.instanceMethod yX1_findSpots ∈ glw := List.mem_filter.mpr ⟨List.mem_of_getElem? (i := 571) rfl, rfl⟩
set_option maxRecDepth 100000 in
theorem k_572 : Cond.code yX1_findSpots cX1_findSpots 3 none ∈ glw := List.mem_filter.mpr ⟨List.mem_of_getElem? (i := 572) rfl, rfl⟩
set_option maxRecDepth 100000 in
theorem k_573 : Cond.methodLink RX1 69 yX1_findRoots ∈ glw := List.mem_filter.mpr ⟨List.mem_of_getElem? (i := 573) rfl, rfl⟩
set_option maxRecDepth 100000 in
theorem k_575 : Cond.instanceMethod yX1_findRoots ∈ glw := List.mem_filter.mpr ⟨List.mem_of_getElem? (i := 575) rfl, rfl⟩
set_option maxRecDepth 100000 in
theorem k_576 : Cond.code yX1_findRoots cX1_findRoots 4 none ∈ glw := List.mem_filter.mpr ⟨List.mem_of_getElem? (i := 576) rfl, rfl⟩
set_option maxRecDepth 100000 in
theorem k_577 : Cond.methodLink RX1 86 yX1_rootBy ∈ glw := List.mem_filter.mpr ⟨List.mem_of_getElem? (i := 577) rfl, rfl⟩
set_option maxRecDepth 100000 in
theorem k_579 : Cond.instanceMethod yX1_rootBy ∈ glw := List.mem_filter.mpr ⟨List.mem_of_getElem? (i := 579) rfl, rfl⟩
set_option maxRecDepth 100000 in
theorem k_580 : Cond.code yX1_rootBy cX1_rootBy 4 (some .int) ∈ glw := List.mem_filter.mpr ⟨List.mem_of_getElem? (i := 580) rfl, rfl⟩
set_option maxRecDepth 100000 in
theorem k_581 : Cond.methodLink RX1 72 yX1_takeNeeds ∈ glw := List.mem_filter.mpr ⟨List.mem_of_getElem? (i := 581) rfl, rfl⟩
set_option maxRecDepth 100000 in
theorem k_583 : Cond.instanceMethod yX1_takeNeeds ∈ glw := List.mem_filter.mpr ⟨List.mem_of_getElem? (i := 583) rfl, rfl⟩
set_option maxRecDepth 100000 in
theorem k_584 : Cond.code yX1_takeNeeds cX1_takeNeeds 6 (some .boolean) ∈ glw := List.mem_filter.mpr ⟨List.mem_of_getElem? (i := 584) rfl, rfl⟩
set_option maxRecDepth 100000 in
theorem k_585 : Cond.methodLink RX1 76 yX1_goOn ∈ glw := List.mem_filter.mpr ⟨List.mem_of_getElem? (i := 585) rfl, rfl⟩
set_option maxRecDepth 100000 in
theorem k_587 : Cond.instanceMethod yX1_goOn ∈ glw := List.mem_filter.mpr ⟨List.mem_of_getElem? (i := 587) rfl, rfl⟩
set_option maxRecDepth 100000 in
theorem k_588 : Cond.code yX1_goOn cX1_goOn 8 none ∈ glw := List.mem_filter.mpr ⟨List.mem_of_getElem? (i := 588) rfl, rfl⟩
set_option maxRecDepth 100000 in
theorem k_589 : Cond.methodLink RX1 99 yX1_leadTo ∈ glw := List.mem_filter.mpr ⟨List.mem_of_getElem? (i := 589) rfl, rfl⟩
set_option maxRecDepth 100000 in
theorem k_591 : Cond.instanceMethod yX1_leadTo ∈ glw := List.mem_filter.mpr ⟨List.mem_of_getElem? (i := 591) rfl, rfl⟩
set_option maxRecDepth 100000 in
theorem k_592 : Cond.code yX1_leadTo cX1_leadTo 14 none ∈ glw := List.mem_filter.mpr ⟨List.mem_of_getElem? (i := 592) rfl, rfl⟩
set_option maxRecDepth 100000 in
theorem k_593 : Cond.methodLink RL 119 yX5_drawn ∈ glw := List.mem_filter.mpr ⟨List.mem_of_getElem? (i := 593) rfl, rfl⟩
set_option maxRecDepth 100000 in
theorem k_594 : Cond.instanceMethod yX5_drawn ∈ glw := List.mem_filter.mpr ⟨List.mem_of_getElem? (i := 594) rfl, rfl⟩
set_option maxRecDepth 100000 in
theorem k_595 : Cond.selects RX5 yX5_drawn yX5_drawn ∈ glw := List.mem_filter.mpr ⟨List.mem_of_getElem? (i := 595) rfl, rfl⟩
set_option maxRecDepth 100000 in
theorem k_596 : Cond.code yX5_drawn cX5_drawn 4 (some .long) ∈ glw := List.mem_filter.mpr ⟨List.mem_of_getElem? (i := 596) rfl, rfl⟩
set_option maxRecDepth 100000 in
theorem k_597 : Cond.methodLink RL 123 yX5_shuffle ∈ glw := List.mem_filter.mpr ⟨List.mem_of_getElem? (i := 597) rfl, rfl⟩
set_option maxRecDepth 100000 in
theorem k_598 : Cond.instanceMethod yX5_shuffle ∈ glw := List.mem_filter.mpr ⟨List.mem_of_getElem? (i := 598) rfl, rfl⟩
set_option maxRecDepth 100000 in
theorem k_599 : Cond.selects RX5 yX5_shuffle yX5_shuffle ∈ glw := List.mem_filter.mpr ⟨List.mem_of_getElem? (i := 599) rfl, rfl⟩
set_option maxRecDepth 100000 in
theorem k_600 : Cond.code yX5_shuffle cX5_shuffle 2 (some .int) ∈ glw := List.mem_filter.mpr ⟨List.mem_of_getElem? (i := 600) rfl, rfl⟩
set_option maxRecDepth 100000 in
theorem k_601 : Cond.methodLink RX5 210 yX5_mix ∈ glw := List.mem_filter.mpr ⟨List.mem_of_getElem? (i := 601) rfl, rfl⟩
set_option maxRecDepth 100000 in
theorem k_602 : Cond.static yX5_mix ∈ glw := List.mem_filter.mpr ⟨List.mem_of_getElem? (i := 602) rfl, rfl⟩
set_option maxRecDepth 100000 in
theorem k_603 : Cond.code yX5_mix cX5_mix 7 none ∈ glw := List.mem_filter.mpr ⟨List.mem_of_getElem? (i := 603) rfl, rfl⟩
set_option maxRecDepth 100000 in
theorem k_604 : Cond.constant RX5 240 (65537) ∈ glw := List.mem_filter.mpr ⟨List.mem_of_getElem? (i := 604) rfl, rfl⟩
set_option maxRecDepth 100000 in
theorem k_605 : Cond.methodLink RL 127 yX5_wrong ∈ glw := List.mem_filter.mpr ⟨List.mem_of_getElem? (i := 605) rfl, rfl⟩
set_option maxRecDepth 100000 in
theorem k_606 : Cond.instanceMethod yX5_wrong ∈ glw := List.mem_filter.mpr ⟨List.mem_of_getElem? (i := 606) rfl, rfl⟩
set_option maxRecDepth 100000 in
theorem k_607 : Cond.selects RX5 yX5_wrong yX5_wrong ∈ glw := List.mem_filter.mpr ⟨List.mem_of_getElem? (i := 607) rfl, rfl⟩
set_option maxRecDepth 100000 in
theorem k_608 : Cond.code yX5_wrong cX5_wrong 5 (some .int) ∈ glw := List.mem_filter.mpr ⟨List.mem_of_getElem? (i := 608) rfl, rfl⟩
set_option maxRecDepth 100000 in
theorem k_609 : Cond.methodLink RX5 214 arraycopyName ∈ glw := List.mem_filter.mpr ⟨List.mem_of_getElem? (i := 609) rfl, rfl⟩
set_option maxRecDepth 100000 in
theorem k_610 : Cond.methodLink RL 131 yX5_image ∈ glw := List.mem_filter.mpr ⟨List.mem_of_getElem? (i := 610) rfl, rfl⟩
set_option maxRecDepth 100000 in
theorem k_611 : Cond.instanceMethod yX5_image ∈ glw := List.mem_filter.mpr ⟨List.mem_of_getElem? (i := 611) rfl, rfl⟩
set_option maxRecDepth 100000 in
theorem k_612 : Cond.selects RX5 yX5_image yX5_image ∈ glw := List.mem_filter.mpr ⟨List.mem_of_getElem? (i := 612) rfl, rfl⟩
set_option maxRecDepth 100000 in
theorem k_613 : Cond.code yX5_image cX5_image 2 (some .int) ∈ glw := List.mem_filter.mpr ⟨List.mem_of_getElem? (i := 613) rfl, rfl⟩
set_option maxRecDepth 100000 in
theorem k_614 : Cond.methodLink RX5 220 yX3_copy ∈ glw := List.mem_filter.mpr ⟨List.mem_of_getElem? (i := 614) rfl, rfl⟩
set_option maxRecDepth 100000 in
theorem k_615 : Cond.instanceMethod yX3_copy ∈ glw := List.mem_filter.mpr ⟨List.mem_of_getElem? (i := 615) rfl, rfl⟩
set_option maxRecDepth 100000 in
theorem k_616 : Cond.selects RX3 yX3_copy yX3_copy ∈ glw := List.mem_filter.mpr ⟨List.mem_of_getElem? (i := 616) rfl, rfl⟩
set_option maxRecDepth 100000 in
theorem k_617 : Cond.code yX3_copy cX3_copy 2 none ∈ glw := List.mem_filter.mpr ⟨List.mem_of_getElem? (i := 617) rfl, rfl⟩
set_option maxRecDepth 100000 in
theorem k_618 : Cond.methodLink RL 135 yX5_restore ∈ glw := List.mem_filter.mpr ⟨List.mem_of_getElem? (i := 618) rfl, rfl⟩
set_option maxRecDepth 100000 in
theorem k_619 : Cond.instanceMethod yX5_restore ∈ glw := List.mem_filter.mpr ⟨List.mem_of_getElem? (i := 619) rfl, rfl⟩
set_option maxRecDepth 100000 in
theorem k_620 : Cond.selects RX5 yX5_restore yX5_restore ∈ glw := List.mem_filter.mpr ⟨List.mem_of_getElem? (i := 620) rfl, rfl⟩
set_option maxRecDepth 100000 in
theorem k_621 : Cond.code yX5_restore cX5_restore 2 (some .int) ∈ glw := List.mem_filter.mpr ⟨List.mem_of_getElem? (i := 621) rfl, rfl⟩
set_option maxRecDepth 100000 in
theorem k_622 : Cond.methodLink RL 139 yX5_told ∈ glw := List.mem_filter.mpr ⟨List.mem_of_getElem? (i := 622) rfl, rfl⟩
set_option maxRecDepth 100000 in
theorem k_623 : Cond.instanceMethod yX5_told ∈ glw := List.mem_filter.mpr ⟨List.mem_of_getElem? (i := 623) rfl, rfl⟩
set_option maxRecDepth 100000 in
theorem k_624 : Cond.selects RX5 yX5_told yX5_told ∈ glw := List.mem_filter.mpr ⟨List.mem_of_getElem? (i := 624) rfl, rfl⟩
set_option maxRecDepth 100000 in
theorem k_625 : Cond.code yX5_told cX5_told 2 (some .int) ∈ glw := List.mem_filter.mpr ⟨List.mem_of_getElem? (i := 625) rfl, rfl⟩
set_option maxRecDepth 100000 in
theorem k_626 : Cond.classLink RL 10 "WhereverBegunModel" ∈ glw := List.mem_filter.mpr ⟨List.mem_of_getElem? (i := 626) rfl, rfl⟩
set_option maxRecDepth 100000 in
theorem k_627 : Cond.instantiable RX6 18 ∈ glw := List.mem_filter.mpr ⟨List.mem_of_getElem? (i := 627) rfl, rfl⟩
set_option maxRecDepth 100000 in
theorem k_628 : Cond.methodLink RL 12 yX6_init ∈ glw := List.mem_filter.mpr ⟨List.mem_of_getElem? (i := 628) rfl, rfl⟩
set_option maxRecDepth 100000 in
theorem k_629 : Cond.instanceMethod yX6_init ∈ glw := List.mem_filter.mpr ⟨List.mem_of_getElem? (i := 629) rfl, rfl⟩
set_option maxRecDepth 100000 in
theorem k_630 : Cond.code yX6_init cX6_init 1 none ∈ glw := List.mem_filter.mpr ⟨List.mem_of_getElem? (i := 630) rfl, rfl⟩
set_option maxRecDepth 100000 in
theorem k_631 : Cond.methodLink RX6 1 objectInit ∈ glw := List.mem_filter.mpr ⟨List.mem_of_getElem? (i := 631) rfl, rfl⟩
set_option maxRecDepth 100000 in
theorem k_632 : Cond.fieldLink RX6 61 "WhereverBegunModel" "signs" "I" ∈ glw := List.mem_filter.mpr ⟨List.mem_of_getElem? (i := 632) rfl, rfl⟩
set_option maxRecDepth 100000 in
theorem k_633 : Cond.fieldLink RX6 7 "WhereverBegunModel" "pad" "[I" ∈ glw := List.mem_filter.mpr ⟨List.mem_of_getElem? (i := 633) rfl, rfl⟩
set_option maxRecDepth 100000 in
theorem k_634 : Cond.fieldLink RX6 13 "WhereverBegunModel" "places" "I" ∈ glw := List.mem_filter.mpr ⟨List.mem_of_getElem? (i := 634) rfl, rfl⟩
set_option maxRecDepth 100000 in
theorem k_635 : Cond.fieldLink RX6 17 "WhereverBegunModel" "page" "[I" ∈ glw := List.mem_filter.mpr ⟨List.mem_of_getElem? (i := 635) rfl, rfl⟩
set_option maxRecDepth 100000 in
theorem k_636 : Cond.fieldLink RX6 20 "WhereverBegunModel" "begins" "I" ∈ glw := List.mem_filter.mpr ⟨List.mem_of_getElem? (i := 636) rfl, rfl⟩
set_option maxRecDepth 100000 in
theorem k_637 : Cond.fieldLink RX6 23 "WhereverBegunModel" "court" "I" ∈ glw := List.mem_filter.mpr ⟨List.mem_of_getElem? (i := 637) rfl, rfl⟩
set_option maxRecDepth 100000 in
theorem k_638 : Cond.fieldLink RX6 26 "WhereverBegunModel" "allowed" "I" ∈ glw := List.mem_filter.mpr ⟨List.mem_of_getElem? (i := 638) rfl, rfl⟩
set_option maxRecDepth 100000 in
theorem k_639 : Cond.fieldLink RX6 29 "WhereverBegunModel" "weight" "[I" ∈ glw := List.mem_filter.mpr ⟨List.mem_of_getElem? (i := 639) rfl, rfl⟩
set_option maxRecDepth 100000 in
theorem k_640 : Cond.fieldLink RX6 72 "WhereverBegunModel" "sights" "I" ∈ glw := List.mem_filter.mpr ⟨List.mem_of_getElem? (i := 640) rfl, rfl⟩
set_option maxRecDepth 100000 in
theorem k_641 : Cond.fieldLink RX6 32 "WhereverBegunModel" "sight" "[I" ∈ glw := List.mem_filter.mpr ⟨List.mem_of_getElem? (i := 641) rfl, rfl⟩
set_option maxRecDepth 100000 in
theorem k_642 : Cond.fieldLink RX6 35 "WhereverBegunModel" "count" "[I" ∈ glw := List.mem_filter.mpr ⟨List.mem_of_getElem? (i := 642) rfl, rfl⟩
set_option maxRecDepth 100000 in
theorem k_643 : Cond.fieldLink RX6 89 "WhereverBegunModel" "opens" "I" ∈ glw := List.mem_filter.mpr ⟨List.mem_of_getElem? (i := 643) rfl, rfl⟩
set_option maxRecDepth 100000 in
theorem k_644 : Cond.fieldLink RX6 38 "WhereverBegunModel" "open" "[I" ∈ glw := List.mem_filter.mpr ⟨List.mem_of_getElem? (i := 644) rfl, rfl⟩
set_option maxRecDepth 100000 in
theorem k_645 : Cond.fieldLink RX6 41 "WhereverBegunModel" "behind" "[I" ∈ glw := List.mem_filter.mpr ⟨List.mem_of_getElem? (i := 645) rfl, rfl⟩
set_option maxRecDepth 100000 in
theorem k_646 : Cond.fieldLink RX6 44 "WhereverBegunModel" "outs" "[I" ∈ glw := List.mem_filter.mpr ⟨List.mem_of_getElem? (i := 646) rfl, rfl⟩
set_option maxRecDepth 100000 in
theorem k_647 : Cond.fieldLink RX6 47 "WhereverBegunModel" "pack" "[I" ∈ glw := List.mem_filter.mpr ⟨List.mem_of_getElem? (i := 647) rfl, rfl⟩
set_option maxRecDepth 100000 in
theorem k_648 : Cond.fieldLink RX6 50 "WhereverBegunModel" "image" "[I" ∈ glw := List.mem_filter.mpr ⟨List.mem_of_getElem? (i := 648) rfl, rfl⟩
set_option maxRecDepth 100000 in
theorem k_649 : Cond.fieldLink RX6 53 "WhereverBegunModel" "isKept" "[Z" ∈ glw := List.mem_filter.mpr ⟨List.mem_of_getElem? (i := 649) rfl, rfl⟩
set_option maxRecDepth 100000 in
theorem k_650 : Cond.lays "WhereverBegunModel" "WhereverBegunModel" "signs" "I" ∈ glw := List.mem_filter.mpr ⟨List.mem_of_getElem? (i := 650) rfl, rfl⟩
set_option maxRecDepth 100000 in
theorem k_652 : Cond.laysFinal "WhereverBegunModel" "WhereverBegunModel" "pad" "[I" ∈ glw := List.mem_filter.mpr ⟨List.mem_of_getElem? (i := 652) rfl, rfl⟩
set_option maxRecDepth 100000 in
theorem k_654 : Cond.lays "WhereverBegunModel" "WhereverBegunModel" "places" "I" ∈ glw := List.mem_filter.mpr ⟨List.mem_of_getElem? (i := 654) rfl, rfl⟩
set_option maxRecDepth 100000 in
theorem k_656 : Cond.laysFinal "WhereverBegunModel" "WhereverBegunModel" "page" "[I" ∈ glw := List.mem_filter.mpr ⟨List.mem_of_getElem? (i := 656) rfl, rfl⟩
set_option maxRecDepth 100000 in
theorem k_658 : Cond.lays "WhereverBegunModel" "WhereverBegunModel" "begins" "I" ∈ glw := List.mem_filter.mpr ⟨List.mem_of_getElem? (i := 658) rfl, rfl⟩
set_option maxRecDepth 100000 in
theorem k_660 : Cond.lays "WhereverBegunModel" "WhereverBegunModel" "court" "I" ∈ glw := List.mem_filter.mpr ⟨List.mem_of_getElem? (i := 660) rfl, rfl⟩
set_option maxRecDepth 100000 in
theorem k_662 : Cond.lays "WhereverBegunModel" "WhereverBegunModel" "allowed" "I" ∈ glw := List.mem_filter.mpr ⟨List.mem_of_getElem? (i := 662) rfl, rfl⟩
set_option maxRecDepth 100000 in
theorem k_664 : Cond.laysFinal "WhereverBegunModel" "WhereverBegunModel" "weight" "[I" ∈ glw := List.mem_filter.mpr ⟨List.mem_of_getElem? (i := 664) rfl, rfl⟩
set_option maxRecDepth 100000 in
theorem k_666 : Cond.lays "WhereverBegunModel" "WhereverBegunModel" "sights" "I" ∈ glw := List.mem_filter.mpr ⟨List.mem_of_getElem? (i := 666) rfl, rfl⟩
set_option maxRecDepth 100000 in
theorem k_668 : Cond.laysFinal "WhereverBegunModel" "WhereverBegunModel" "sight" "[I" ∈ glw := List.mem_filter.mpr ⟨List.mem_of_getElem? (i := 668) rfl, rfl⟩
set_option maxRecDepth 100000 in
theorem k_670 : Cond.laysFinal "WhereverBegunModel" "WhereverBegunModel" "count" "[I" ∈ glw := List.mem_filter.mpr ⟨List.mem_of_getElem? (i := 670) rfl, rfl⟩
set_option maxRecDepth 100000 in
theorem k_672 : Cond.lays "WhereverBegunModel" "WhereverBegunModel" "opens" "I" ∈ glw := List.mem_filter.mpr ⟨List.mem_of_getElem? (i := 672) rfl, rfl⟩
set_option maxRecDepth 100000 in
theorem k_674 : Cond.laysFinal "WhereverBegunModel" "WhereverBegunModel" "open" "[I" ∈ glw := List.mem_filter.mpr ⟨List.mem_of_getElem? (i := 674) rfl, rfl⟩
set_option maxRecDepth 100000 in
theorem k_676 : Cond.laysFinal "WhereverBegunModel" "WhereverBegunModel" "behind" "[I" ∈ glw := List.mem_filter.mpr ⟨List.mem_of_getElem? (i := 676) rfl, rfl⟩
set_option maxRecDepth 100000 in
theorem k_678 : Cond.laysFinal "WhereverBegunModel" "WhereverBegunModel" "outs" "[I" ∈ glw := List.mem_filter.mpr ⟨List.mem_of_getElem? (i := 678) rfl, rfl⟩
set_option maxRecDepth 100000 in
theorem k_680 : Cond.laysFinal "WhereverBegunModel" "WhereverBegunModel" "pack" "[I" ∈ glw := List.mem_filter.mpr ⟨List.mem_of_getElem? (i := 680) rfl, rfl⟩
set_option maxRecDepth 100000 in
theorem k_682 : Cond.laysFinal "WhereverBegunModel" "WhereverBegunModel" "image" "[I" ∈ glw := List.mem_filter.mpr ⟨List.mem_of_getElem? (i := 682) rfl, rfl⟩
set_option maxRecDepth 100000 in
theorem k_684 : Cond.laysFinal "WhereverBegunModel" "WhereverBegunModel" "isKept" "[Z" ∈ glw := List.mem_filter.mpr ⟨List.mem_of_getElem? (i := 684) rfl, rfl⟩
set_option maxRecDepth 100000 in
theorem k_687 : Cond.arrayClass FieldType.boolean ∈ glw := List.mem_filter.mpr ⟨List.mem_of_getElem? (i := 687) rfl, rfl⟩
set_option maxRecDepth 100000 in
theorem k_688 : Cond.methodLink RL 17 yX6_say ∈ glw := List.mem_filter.mpr ⟨List.mem_of_getElem? (i := 688) rfl, rfl⟩
set_option maxRecDepth 100000 in
theorem k_689 : Cond.instanceMethod yX6_say ∈ glw := List.mem_filter.mpr ⟨List.mem_of_getElem? (i := 689) rfl, rfl⟩
set_option maxRecDepth 100000 in
theorem k_690 : Cond.selects RX6 yX6_say yX6_say ∈ glw := List.mem_filter.mpr ⟨List.mem_of_getElem? (i := 690) rfl, rfl⟩
set_option maxRecDepth 100000 in
theorem k_691 : Cond.code yX6_say cX6_say 2 (some .int) ∈ glw := List.mem_filter.mpr ⟨List.mem_of_getElem? (i := 691) rfl, rfl⟩
set_option maxRecDepth 100000 in
theorem k_692 : Cond.methodLink RX6 57 yX6_in ∈ glw := List.mem_filter.mpr ⟨List.mem_of_getElem? (i := 692) rfl, rfl⟩
set_option maxRecDepth 100000 in
theorem k_693 : Cond.static yX6_in ∈ glw := List.mem_filter.mpr ⟨List.mem_of_getElem? (i := 693) rfl, rfl⟩
set_option maxRecDepth 100000 in
theorem k_694 : Cond.code yX6_in cX6_in 3 (some .boolean) ∈ glw := List.mem_filter.mpr ⟨List.mem_of_getElem? (i := 694) rfl, rfl⟩
set_option maxRecDepth 100000 in
theorem k_695 : Cond.methodLink RL 22 yX6_wipe ∈ glw := List.mem_filter.mpr ⟨List.mem_of_getElem? (i := 695) rfl, rfl⟩
set_option maxRecDepth 100000 in
theorem k_696 : Cond.instanceMethod yX6_wipe ∈ glw := List.mem_filter.mpr ⟨List.mem_of_getElem? (i := 696) rfl, rfl⟩
set_option maxRecDepth 100000 in
theorem k_697 : Cond.selects RX6 yX6_wipe yX6_wipe ∈ glw := List.mem_filter.mpr ⟨List.mem_of_getElem? (i := 697) rfl, rfl⟩
set_option maxRecDepth 100000 in
theorem k_698 : Cond.code yX6_wipe cX6_wipe 2 (some .int) ∈ glw := List.mem_filter.mpr ⟨List.mem_of_getElem? (i := 698) rfl, rfl⟩
set_option maxRecDepth 100000 in
theorem k_699 : Cond.methodLink RL 26 yX6_fault ∈ glw := List.mem_filter.mpr ⟨List.mem_of_getElem? (i := 699) rfl, rfl⟩
set_option maxRecDepth 100000 in
theorem k_700 : Cond.instanceMethod yX6_fault ∈ glw := List.mem_filter.mpr ⟨List.mem_of_getElem? (i := 700) rfl, rfl⟩
set_option maxRecDepth 100000 in
theorem k_701 : Cond.selects RX6 yX6_fault yX6_fault ∈ glw := List.mem_filter.mpr ⟨List.mem_of_getElem? (i := 701) rfl, rfl⟩
set_option maxRecDepth 100000 in
theorem k_702 : Cond.code yX6_fault cX6_fault 1 (some .int) ∈ glw := List.mem_filter.mpr ⟨List.mem_of_getElem? (i := 702) rfl, rfl⟩
set_option maxRecDepth 100000 in
theorem k_703 : Cond.methodLink RX6 68 yX6_faultOf ∈ glw := List.mem_filter.mpr ⟨List.mem_of_getElem? (i := 703) rfl, rfl⟩
set_option maxRecDepth 100000 in
theorem k_705 : Cond.instanceMethod yX6_faultOf ∈ glw := List.mem_filter.mpr ⟨List.mem_of_getElem? (i := 705) rfl, rfl⟩
set_option maxRecDepth 100000 in
theorem k_706 : Cond.code yX6_faultOf cX6_faultOf 6 (some .int) ∈ glw := List.mem_filter.mpr ⟨List.mem_of_getElem? (i := 706) rfl, rfl⟩
set_option maxRecDepth 100000 in
theorem k_707 : Cond.methodLink RX6 64 yX6_isCourt ∈ glw := List.mem_filter.mpr ⟨List.mem_of_getElem? (i := 707) rfl, rfl⟩
set_option maxRecDepth 100000 in
theorem k_708 : Cond.static yX6_isCourt ∈ glw := List.mem_filter.mpr ⟨List.mem_of_getElem? (i := 708) rfl, rfl⟩
set_option maxRecDepth 100000 in
theorem k_709 : Cond.code yX6_isCourt cX6_isCourt 1 (some .boolean) ∈ glw := List.mem_filter.mpr ⟨List.mem_of_getElem? (i := 709) rfl, rfl⟩
set_option maxRecDepth 100000 in
theorem k_710 : Cond.methodLink RL 30 yX6_page ∈ glw := List.mem_filter.mpr ⟨List.mem_of_getElem? (i := 710) rfl, rfl⟩
set_option maxRecDepth 100000 in
theorem k_711 : Cond.instanceMethod yX6_page ∈ glw := List.mem_filter.mpr ⟨List.mem_of_getElem? (i := 711) rfl, rfl⟩
set_option maxRecDepth 100000 in
theorem k_712 : Cond.selects RX6 yX6_page yX6_page ∈ glw := List.mem_filter.mpr ⟨List.mem_of_getElem? (i := 712) rfl, rfl⟩
set_option maxRecDepth 100000 in
theorem k_713 : Cond.code yX6_page cX6_page 2 (some .int) ∈ glw := List.mem_filter.mpr ⟨List.mem_of_getElem? (i := 713) rfl, rfl⟩
set_option maxRecDepth 100000 in
theorem k_714 : Cond.methodLink RL 34 yX6_begin ∈ glw := List.mem_filter.mpr ⟨List.mem_of_getElem? (i := 714) rfl, rfl⟩
set_option maxRecDepth 100000 in
theorem k_715 : Cond.instanceMethod yX6_begin ∈ glw := List.mem_filter.mpr ⟨List.mem_of_getElem? (i := 715) rfl, rfl⟩
set_option maxRecDepth 100000 in
theorem k_716 : Cond.selects RX6 yX6_begin yX6_begin ∈ glw := List.mem_filter.mpr ⟨List.mem_of_getElem? (i := 716) rfl, rfl⟩
set_option maxRecDepth 100000 in
theorem k_717 : Cond.code yX6_begin cX6_begin 3 (some .int) ∈ glw := List.mem_filter.mpr ⟨List.mem_of_getElem? (i := 717) rfl, rfl⟩
set_option maxRecDepth 100000 in
theorem k_718 : Cond.methodLink RL 38 yX6_court ∈ glw := List.mem_filter.mpr ⟨List.mem_of_getElem? (i := 718) rfl, rfl⟩
set_option maxRecDepth 100000 in
theorem k_719 : Cond.instanceMethod yX6_court ∈ glw := List.mem_filter.mpr ⟨List.mem_of_getElem? (i := 719) rfl, rfl⟩
set_option maxRecDepth 100000 in
theorem k_720 : Cond.selects RX6 yX6_court yX6_court ∈ glw := List.mem_filter.mpr ⟨List.mem_of_getElem? (i := 720) rfl, rfl⟩
set_option maxRecDepth 100000 in
theorem k_721 : Cond.code yX6_court cX6_court 3 (some .int) ∈ glw := List.mem_filter.mpr ⟨List.mem_of_getElem? (i := 721) rfl, rfl⟩
set_option maxRecDepth 100000 in
theorem k_722 : Cond.methodLink RL 42 yX6_allow ∈ glw := List.mem_filter.mpr ⟨List.mem_of_getElem? (i := 722) rfl, rfl⟩
set_option maxRecDepth 100000 in
theorem k_723 : Cond.instanceMethod yX6_allow ∈ glw := List.mem_filter.mpr ⟨List.mem_of_getElem? (i := 723) rfl, rfl⟩
set_option maxRecDepth 100000 in
theorem k_724 : Cond.selects RX6 yX6_allow yX6_allow ∈ glw := List.mem_filter.mpr ⟨List.mem_of_getElem? (i := 724) rfl, rfl⟩
set_option maxRecDepth 100000 in
theorem k_725 : Cond.code yX6_allow cX6_allow 3 (some .int) ∈ glw := List.mem_filter.mpr ⟨List.mem_of_getElem? (i := 725) rfl, rfl⟩
set_option maxRecDepth 100000 in
theorem k_726 : Cond.methodLink RL 47 yX6_weight ∈ glw := List.mem_filter.mpr ⟨List.mem_of_getElem? (i := 726) rfl, rfl⟩
set_option maxRecDepth 100000 in
theorem k_727 : Cond.instanceMethod yX6_weight ∈ glw := List.mem_filter.mpr ⟨List.mem_of_getElem? (i := 727) rfl, rfl⟩
set_option maxRecDepth 100000 in
theorem k_728 : Cond.selects RX6 yX6_weight yX6_weight ∈ glw := List.mem_filter.mpr ⟨List.mem_of_getElem? (i := 728) rfl, rfl⟩
set_option maxRecDepth 100000 in
theorem k_729 : Cond.code yX6_weight cX6_weight 4 (some .int) ∈ glw := List.mem_filter.mpr ⟨List.mem_of_getElem? (i := 729) rfl, rfl⟩
set_option maxRecDepth 100000 in
theorem k_730 : Cond.methodLink RX6 75 yX6_allWeights ∈ glw := List.mem_filter.mpr ⟨List.mem_of_getElem? (i := 730) rfl, rfl⟩
set_option maxRecDepth 100000 in
theorem k_732 : Cond.instanceMethod yX6_allWeights ∈ glw := List.mem_filter.mpr ⟨List.mem_of_getElem? (i := 732) rfl, rfl⟩
set_option maxRecDepth 100000 in
theorem k_733 : Cond.code yX6_allWeights cX6_allWeights 3 (some .int) ∈ glw := List.mem_filter.mpr ⟨List.mem_of_getElem? (i := 733) rfl, rfl⟩
set_option maxRecDepth 100000 in
theorem k_734 : Cond.methodLink RL 51 yX6_place ∈ glw := List.mem_filter.mpr ⟨List.mem_of_getElem? (i := 734) rfl, rfl⟩
set_option maxRecDepth 100000 in
theorem k_735 : Cond.instanceMethod yX6_place ∈ glw := List.mem_filter.mpr ⟨List.mem_of_getElem? (i := 735) rfl, rfl⟩
set_option maxRecDepth 100000 in
theorem k_736 : Cond.selects RX6 yX6_place yX6_place ∈ glw := List.mem_filter.mpr ⟨List.mem_of_getElem? (i := 736) rfl, rfl⟩
set_option maxRecDepth 100000 in
theorem k_737 : Cond.code yX6_place cX6_place 4 (some .int) ∈ glw := List.mem_filter.mpr ⟨List.mem_of_getElem? (i := 737) rfl, rfl⟩
set_option maxRecDepth 100000 in
theorem k_738 : Cond.methodLink RX6 78 yX6_isPlace ∈ glw := List.mem_filter.mpr ⟨List.mem_of_getElem? (i := 738) rfl, rfl⟩
set_option maxRecDepth 100000 in
theorem k_740 : Cond.instanceMethod yX6_isPlace ∈ glw := List.mem_filter.mpr ⟨List.mem_of_getElem? (i := 740) rfl, rfl⟩
set_option maxRecDepth 100000 in
theorem k_741 : Cond.code yX6_isPlace cX6_isPlace 2 (some .boolean) ∈ glw := List.mem_filter.mpr ⟨List.mem_of_getElem? (i := 741) rfl, rfl⟩
set_option maxRecDepth 100000 in
theorem k_742 : Cond.methodLink RX6 81 yX6_countOf ∈ glw := List.mem_filter.mpr ⟨List.mem_of_getElem? (i := 742) rfl, rfl⟩
set_option maxRecDepth 100000 in
theorem k_743 : Cond.static yX6_countOf ∈ glw := List.mem_filter.mpr ⟨List.mem_of_getElem? (i := 743) rfl, rfl⟩
set_option maxRecDepth 100000 in
theorem k_744 : Cond.code yX6_countOf cX6_countOf 2 (some .int) ∈ glw := List.mem_filter.mpr ⟨List.mem_of_getElem? (i := 744) rfl, rfl⟩
set_option maxRecDepth 100000 in
theorem k_745 : Cond.methodLink RL 55 yX6_out ∈ glw := List.mem_filter.mpr ⟨List.mem_of_getElem? (i := 745) rfl, rfl⟩
set_option maxRecDepth 100000 in
theorem k_746 : Cond.instanceMethod yX6_out ∈ glw := List.mem_filter.mpr ⟨List.mem_of_getElem? (i := 746) rfl, rfl⟩
set_option maxRecDepth 100000 in
theorem k_747 : Cond.selects RX6 yX6_out yX6_out ∈ glw := List.mem_filter.mpr ⟨List.mem_of_getElem? (i := 747) rfl, rfl⟩
set_option maxRecDepth 100000 in
theorem k_748 : Cond.code yX6_out cX6_out 2 (some .int) ∈ glw := List.mem_filter.mpr ⟨List.mem_of_getElem? (i := 748) rfl, rfl⟩
set_option maxRecDepth 100000 in
theorem k_749 : Cond.methodLink RX6 92 yX6_isWhole ∈ glw := List.mem_filter.mpr ⟨List.mem_of_getElem? (i := 749) rfl, rfl⟩
set_option maxRecDepth 100000 in
theorem k_751 : Cond.instanceMethod yX6_isWhole ∈ glw := List.mem_filter.mpr ⟨List.mem_of_getElem? (i := 751) rfl, rfl⟩
set_option maxRecDepth 100000 in
theorem k_752 : Cond.code yX6_isWhole cX6_isWhole 1 (some .boolean) ∈ glw := List.mem_filter.mpr ⟨List.mem_of_getElem? (i := 752) rfl, rfl⟩
set_option maxRecDepth 100000 in
theorem k_753 : Cond.methodLink RX6 85 yX6_many ∈ glw := List.mem_filter.mpr ⟨List.mem_of_getElem? (i := 753) rfl, rfl⟩
set_option maxRecDepth 100000 in
theorem k_755 : Cond.instanceMethod yX6_many ∈ glw := List.mem_filter.mpr ⟨List.mem_of_getElem? (i := 755) rfl, rfl⟩
set_option maxRecDepth 100000 in
theorem k_756 : Cond.code yX6_many cX6_many 4 (some .int) ∈ glw := List.mem_filter.mpr ⟨List.mem_of_getElem? (i := 756) rfl, rfl⟩
set_option maxRecDepth 100000 in
theorem k_757 : Cond.methodLink RX6 96 yX6_lay ∈ glw := List.mem_filter.mpr ⟨List.mem_of_getElem? (i := 757) rfl, rfl⟩
set_option maxRecDepth 100000 in
theorem k_759 : Cond.instanceMethod yX6_lay ∈ glw := List.mem_filter.mpr ⟨List.mem_of_getElem? (i := 759) rfl, rfl⟩
set_option maxRecDepth 100000 in
theorem k_760 : Cond.code yX6_lay cX6_lay 3 none ∈ glw := List.mem_filter.mpr ⟨List.mem_of_getElem? (i := 760) rfl, rfl⟩
set_option maxRecDepth 100000 in
theorem k_761 : Cond.methodLink RX6 100 yX6_outOf ∈ glw := List.mem_filter.mpr ⟨List.mem_of_getElem? (i := 761) rfl, rfl⟩
set_option maxRecDepth 100000 in
theorem k_763 : Cond.instanceMethod yX6_outOf ∈ glw := List.mem_filter.mpr ⟨List.mem_of_getElem? (i := 763) rfl, rfl⟩
set_option maxRecDepth 100000 in
theorem k_764 : Cond.code yX6_outOf cX6_outOf 3 (some .int) ∈ glw := List.mem_filter.mpr ⟨List.mem_of_getElem? (i := 764) rfl, rfl⟩
set_option maxRecDepth 100000 in
theorem k_765 : Cond.methodLink RL 59 yX6_streams ∈ glw := List.mem_filter.mpr ⟨List.mem_of_getElem? (i := 765) rfl, rfl⟩
set_option maxRecDepth 100000 in
theorem k_766 : Cond.instanceMethod yX6_streams ∈ glw := List.mem_filter.mpr ⟨List.mem_of_getElem? (i := 766) rfl, rfl⟩
set_option maxRecDepth 100000 in
theorem k_767 : Cond.selects RX6 yX6_streams yX6_streams ∈ glw := List.mem_filter.mpr ⟨List.mem_of_getElem? (i := 767) rfl, rfl⟩
set_option maxRecDepth 100000 in
theorem k_768 : Cond.code yX6_streams cX6_streams 1 (some .int) ∈ glw := List.mem_filter.mpr ⟨List.mem_of_getElem? (i := 768) rfl, rfl⟩
set_option maxRecDepth 100000 in
theorem k_769 : Cond.methodLink RX6 103 yX6_outsOfAll ∈ glw := List.mem_filter.mpr ⟨List.mem_of_getElem? (i := 769) rfl, rfl⟩
set_option maxRecDepth 100000 in
theorem k_771 : Cond.instanceMethod yX6_outsOfAll ∈ glw := List.mem_filter.mpr ⟨List.mem_of_getElem? (i := 771) rfl, rfl⟩
set_option maxRecDepth 100000 in
theorem k_772 : Cond.code yX6_outsOfAll cX6_outsOfAll 5 (some .int) ∈ glw := List.mem_filter.mpr ⟨List.mem_of_getElem? (i := 772) rfl, rfl⟩
set_option maxRecDepth 100000 in
theorem k_773 : Cond.methodLink RL 63 yX6_meet ∈ glw := List.mem_filter.mpr ⟨List.mem_of_getElem? (i := 773) rfl, rfl⟩
set_option maxRecDepth 100000 in
theorem k_774 : Cond.instanceMethod yX6_meet ∈ glw := List.mem_filter.mpr ⟨List.mem_of_getElem? (i := 774) rfl, rfl⟩
set_option maxRecDepth 100000 in
theorem k_775 : Cond.selects RX6 yX6_meet yX6_meet ∈ glw := List.mem_filter.mpr ⟨List.mem_of_getElem? (i := 775) rfl, rfl⟩
set_option maxRecDepth 100000 in
theorem k_776 : Cond.code yX6_meet cX6_meet 3 (some .int) ∈ glw := List.mem_filter.mpr ⟨List.mem_of_getElem? (i := 776) rfl, rfl⟩
set_option maxRecDepth 100000 in
theorem k_777 : Cond.methodLink RX6 106 yX6_meetOf ∈ glw := List.mem_filter.mpr ⟨List.mem_of_getElem? (i := 777) rfl, rfl⟩
set_option maxRecDepth 100000 in
theorem k_779 : Cond.instanceMethod yX6_meetOf ∈ glw := List.mem_filter.mpr ⟨List.mem_of_getElem? (i := 779) rfl, rfl⟩
set_option maxRecDepth 100000 in
theorem k_780 : Cond.code yX6_meetOf cX6_meetOf 7 (some .int) ∈ glw := List.mem_filter.mpr ⟨List.mem_of_getElem? (i := 780) rfl, rfl⟩
set_option maxRecDepth 100000 in
theorem k_781 : Cond.methodLink RL 67 yX6_pass ∈ glw := List.mem_filter.mpr ⟨List.mem_of_getElem? (i := 781) rfl, rfl⟩
set_option maxRecDepth 100000 in
theorem k_782 : Cond.instanceMethod yX6_pass ∈ glw := List.mem_filter.mpr ⟨List.mem_of_getElem? (i := 782) rfl, rfl⟩
set_option maxRecDepth 100000 in
theorem k_783 : Cond.selects RX6 yX6_pass yX6_pass ∈ glw := List.mem_filter.mpr ⟨List.mem_of_getElem? (i := 783) rfl, rfl⟩
set_option maxRecDepth 100000 in
theorem k_784 : Cond.code yX6_pass cX6_pass 4 (some .int) ∈ glw := List.mem_filter.mpr ⟨List.mem_of_getElem? (i := 784) rfl, rfl⟩
set_option maxRecDepth 100000 in
theorem k_785 : Cond.methodLink RX6 113 yX6_isPassed ∈ glw := List.mem_filter.mpr ⟨List.mem_of_getElem? (i := 785) rfl, rfl⟩
set_option maxRecDepth 100000 in
theorem k_787 : Cond.instanceMethod yX6_isPassed ∈ glw := List.mem_filter.mpr ⟨List.mem_of_getElem? (i := 787) rfl, rfl⟩
set_option maxRecDepth 100000 in
theorem k_788 : Cond.code yX6_isPassed cX6_isPassed 4 (some .boolean) ∈ glw := List.mem_filter.mpr ⟨List.mem_of_getElem? (i := 788) rfl, rfl⟩
set_option maxRecDepth 100000 in
theorem k_789 : Cond.methodLink RX6 109 yX6_comesTo ∈ glw := List.mem_filter.mpr ⟨List.mem_of_getElem? (i := 789) rfl, rfl⟩
set_option maxRecDepth 100000 in
theorem k_791 : Cond.instanceMethod yX6_comesTo ∈ glw := List.mem_filter.mpr ⟨List.mem_of_getElem? (i := 791) rfl, rfl⟩
set_option maxRecDepth 100000 in
theorem k_792 : Cond.code yX6_comesTo cX6_comesTo 4 (some .boolean) ∈ glw := List.mem_filter.mpr ⟨List.mem_of_getElem? (i := 792) rfl, rfl⟩
set_option maxRecDepth 100000 in
theorem k_793 : Cond.methodLink RL 71 yX6_tree ∈ glw := List.mem_filter.mpr ⟨List.mem_of_getElem? (i := 793) rfl, rfl⟩
set_option maxRecDepth 100000 in
theorem k_794 : Cond.instanceMethod yX6_tree ∈ glw := List.mem_filter.mpr ⟨List.mem_of_getElem? (i := 794) rfl, rfl⟩
set_option maxRecDepth 100000 in
theorem k_795 : Cond.selects RX6 yX6_tree yX6_tree ∈ glw := List.mem_filter.mpr ⟨List.mem_of_getElem? (i := 795) rfl, rfl⟩
set_option maxRecDepth 100000 in
theorem k_796 : Cond.code yX6_tree cX6_tree 6 (some .int) ∈ glw := List.mem_filter.mpr ⟨List.mem_of_getElem? (i := 796) rfl, rfl⟩
set_option maxRecDepth 100000 in
theorem k_797 : Cond.methodLink RX6 116 yX6_layBehind ∈ glw := List.mem_filter.mpr ⟨List.mem_of_getElem? (i := 797) rfl, rfl⟩
set_option maxRecDepth 100000 in
theorem k_799 : Cond.instanceMethod yX6_layBehind ∈ glw := List.mem_filter.mpr ⟨List.mem_of_getElem? (i := 799) rfl, rfl⟩
set_option maxRecDepth 100000 in
theorem k_800 : Cond.code yX6_layBehind cX6_layBehind 3 none ∈ glw := List.mem_filter.mpr ⟨List.mem_of_getElem? (i := 800) rfl, rfl⟩
set_option maxRecDepth 100000 in
theorem k_801 : Cond.methodLink RL 75 yX6_nowhere ∈ glw := List.mem_filter.mpr ⟨List.mem_of_getElem? (i := 801) rfl, rfl⟩
set_option maxRecDepth 100000 in
theorem k_802 : Cond.instanceMethod yX6_nowhere ∈ glw := List.mem_filter.mpr ⟨List.mem_of_getElem? (i := 802) rfl, rfl⟩
set_option maxRecDepth 100000 in
theorem k_803 : Cond.selects RX6 yX6_nowhere yX6_nowhere ∈ glw := List.mem_filter.mpr ⟨List.mem_of_getElem? (i := 803) rfl, rfl⟩
set_option maxRecDepth 100000 in
theorem k_804 : Cond.code yX6_nowhere cX6_nowhere 3 (some .int) ∈ glw := List.mem_filter.mpr ⟨List.mem_of_getElem? (i := 804) rfl, rfl⟩
set_option maxRecDepth 100000 in
theorem k_805 : Cond.methodLink RL 79 yX6_minds ∈ glw := List.mem_filter.mpr ⟨List.mem_of_getElem? (i := 805) rfl, rfl⟩
set_option maxRecDepth 100000 in
theorem k_806 : Cond.instanceMethod yX6_minds ∈ glw := List.mem_filter.mpr ⟨List.mem_of_getElem? (i := 806) rfl, rfl⟩
set_option maxRecDepth 100000 in
theorem k_807 : Cond.selects RX6 yX6_minds yX6_minds ∈ glw := List.mem_filter.mpr ⟨List.mem_of_getElem? (i := 807) rfl, rfl⟩
set_option maxRecDepth 100000 in
theorem k_808 : Cond.code yX6_minds cX6_minds 3 (some .int) ∈ glw := List.mem_filter.mpr ⟨List.mem_of_getElem? (i := 808) rfl, rfl⟩
set_option maxRecDepth 100000 in
theorem k_809 : Cond.methodLink RX6 119 yX6_keepOuts ∈ glw := List.mem_filter.mpr ⟨List.mem_of_getElem? (i := 809) rfl, rfl⟩
set_option maxRecDepth 100000 in
theorem k_811 : Cond.instanceMethod yX6_keepOuts ∈ glw := List.mem_filter.mpr ⟨List.mem_of_getElem? (i := 811) rfl, rfl⟩
set_option maxRecDepth 100000 in
theorem k_812 : Cond.code yX6_keepOuts cX6_keepOuts 2 none ∈ glw := List.mem_filter.mpr ⟨List.mem_of_getElem? (i := 812) rfl, rfl⟩
set_option maxRecDepth 100000 in
theorem k_813 : Cond.methodLink RX6 122 yX6_mindsBy ∈ glw := List.mem_filter.mpr ⟨List.mem_of_getElem? (i := 813) rfl, rfl⟩
set_option maxRecDepth 100000 in
theorem k_815 : Cond.instanceMethod yX6_mindsBy ∈ glw := List.mem_filter.mpr ⟨List.mem_of_getElem? (i := 815) rfl, rfl⟩
set_option maxRecDepth 100000 in
theorem k_816 : Cond.code yX6_mindsBy cX6_mindsBy 6 (some .int) ∈ glw := List.mem_filter.mpr ⟨List.mem_of_getElem? (i := 816) rfl, rfl⟩
set_option maxRecDepth 100000 in
theorem k_817 : Cond.methodLink RL 83 yX6_one ∈ glw := List.mem_filter.mpr ⟨List.mem_of_getElem? (i := 817) rfl, rfl⟩
set_option maxRecDepth 100000 in
theorem k_818 : Cond.instanceMethod yX6_one ∈ glw := List.mem_filter.mpr ⟨List.mem_of_getElem? (i := 818) rfl, rfl⟩
set_option maxRecDepth 100000 in
theorem k_819 : Cond.selects RX6 yX6_one yX6_one ∈ glw := List.mem_filter.mpr ⟨List.mem_of_getElem? (i := 819) rfl, rfl⟩
set_option maxRecDepth 100000 in
theorem k_820 : Cond.code yX6_one cX6_one 8 (some .int) ∈ glw := List.mem_filter.mpr ⟨List.mem_of_getElem? (i := 820) rfl, rfl⟩
set_option maxRecDepth 100000 in
theorem k_821 : Cond.methodLink RL 87 yX6_best ∈ glw := List.mem_filter.mpr ⟨List.mem_of_getElem? (i := 821) rfl, rfl⟩
set_option maxRecDepth 100000 in
theorem k_822 : Cond.instanceMethod yX6_best ∈ glw := List.mem_filter.mpr ⟨List.mem_of_getElem? (i := 822) rfl, rfl⟩
set_option maxRecDepth 100000 in
theorem k_823 : Cond.selects RX6 yX6_best yX6_best ∈ glw := List.mem_filter.mpr ⟨List.mem_of_getElem? (i := 823) rfl, rfl⟩
set_option maxRecDepth 100000 in
theorem k_824 : Cond.code yX6_best cX6_best 6 (some .int) ∈ glw := List.mem_filter.mpr ⟨List.mem_of_getElem? (i := 824) rfl, rfl⟩
set_option maxRecDepth 100000 in
theorem k_825 : Cond.methodLink RX6 125 yX6_mostAtOne ∈ glw := List.mem_filter.mpr ⟨List.mem_of_getElem? (i := 825) rfl, rfl⟩
set_option maxRecDepth 100000 in
theorem k_827 : Cond.instanceMethod yX6_mostAtOne ∈ glw := List.mem_filter.mpr ⟨List.mem_of_getElem? (i := 827) rfl, rfl⟩
set_option maxRecDepth 100000 in
theorem k_828 : Cond.code yX6_mostAtOne cX6_mostAtOne 5 (some .int) ∈ glw := List.mem_filter.mpr ⟨List.mem_of_getElem? (i := 828) rfl, rfl⟩
set_option maxRecDepth 100000 in
theorem k_829 : Cond.methodLink RL 92 yX6_likely ∈ glw := List.mem_filter.mpr ⟨List.mem_of_getElem? (i := 829) rfl, rfl⟩
set_option maxRecDepth 100000 in
theorem k_830 : Cond.instanceMethod yX6_likely ∈ glw := List.mem_filter.mpr ⟨List.mem_of_getElem? (i := 830) rfl, rfl⟩
set_option maxRecDepth 100000 in
theorem k_831 : Cond.selects RX6 yX6_likely yX6_likely ∈ glw := List.mem_filter.mpr ⟨List.mem_of_getElem? (i := 831) rfl, rfl⟩
set_option maxRecDepth 100000 in
theorem k_832 : Cond.code yX6_likely cX6_likely 8 (some .long) ∈ glw := List.mem_filter.mpr ⟨List.mem_of_getElem? (i := 832) rfl, rfl⟩
set_option maxRecDepth 100000 in
theorem k_833 : Cond.constantLong RX6 128 (-1000000000000000001) ∈ glw := List.mem_filter.mpr ⟨List.mem_of_getElem? (i := 833) rfl, rfl⟩
set_option maxRecDepth 100000 in
theorem k_834 : Cond.constantLong RX6 130 (-1000000000000000002) ∈ glw := List.mem_filter.mpr ⟨List.mem_of_getElem? (i := 834) rfl, rfl⟩
set_option maxRecDepth 100000 in
theorem k_835 : Cond.constantLong RX6 132 (-1000000000000000003) ∈ glw := List.mem_filter.mpr ⟨List.mem_of_getElem? (i := 835) rfl, rfl⟩
set_option maxRecDepth 100000 in
theorem k_836 : Cond.methodLink RX6 134 yX6_codes ∈ glw := List.mem_filter.mpr ⟨List.mem_of_getElem? (i := 836) rfl, rfl⟩
set_option maxRecDepth 100000 in
theorem k_838 : Cond.instanceMethod yX6_codes ∈ glw := List.mem_filter.mpr ⟨List.mem_of_getElem? (i := 838) rfl, rfl⟩
set_option maxRecDepth 100000 in
theorem k_839 : Cond.code yX6_codes cX6_codes 3 (some .int) ∈ glw := List.mem_filter.mpr ⟨List.mem_of_getElem? (i := 839) rfl, rfl⟩
set_option maxRecDepth 100000 in
theorem k_840 : Cond.methodLink RX6 137 yX6_writeIn ∈ glw := List.mem_filter.mpr ⟨List.mem_of_getElem? (i := 840) rfl, rfl⟩
set_option maxRecDepth 100000 in
theorem k_842 : Cond.instanceMethod yX6_writeIn ∈ glw := List.mem_filter.mpr ⟨List.mem_of_getElem? (i := 842) rfl, rfl⟩
set_option maxRecDepth 100000 in
theorem k_843 : Cond.code yX6_writeIn cX6_writeIn 6 (some .int) ∈ glw := List.mem_filter.mpr ⟨List.mem_of_getElem? (i := 843) rfl, rfl⟩
set_option maxRecDepth 100000 in
theorem k_844 : Cond.methodLink RX6 140 yX6_wholeWeight ∈ glw := List.mem_filter.mpr ⟨List.mem_of_getElem? (i := 844) rfl, rfl⟩
set_option maxRecDepth 100000 in
theorem k_846 : Cond.instanceMethod yX6_wholeWeight ∈ glw := List.mem_filter.mpr ⟨List.mem_of_getElem? (i := 846) rfl, rfl⟩
set_option maxRecDepth 100000 in
theorem k_847 : Cond.code yX6_wholeWeight cX6_wholeWeight 4 (some .long) ∈ glw := List.mem_filter.mpr ⟨List.mem_of_getElem? (i := 847) rfl, rfl⟩
set_option maxRecDepth 100000 in
theorem k_848 : Cond.methodLink RX6 144 yX6_term ∈ glw := List.mem_filter.mpr ⟨List.mem_of_getElem? (i := 848) rfl, rfl⟩
set_option maxRecDepth 100000 in
theorem k_849 : Cond.static yX6_term ∈ glw := List.mem_filter.mpr ⟨List.mem_of_getElem? (i := 849) rfl, rfl⟩
set_option maxRecDepth 100000 in
theorem k_850 : Cond.code yX6_term cX6_term 11 (some .long) ∈ glw := List.mem_filter.mpr ⟨List.mem_of_getElem? (i := 850) rfl, rfl⟩
set_option maxRecDepth 100000 in
theorem k_851 : Cond.methodLink RL 97 yX6_all ∈ glw := List.mem_filter.mpr ⟨List.mem_of_getElem? (i := 851) rfl, rfl⟩
set_option maxRecDepth 100000 in
theorem k_852 : Cond.instanceMethod yX6_all ∈ glw := List.mem_filter.mpr ⟨List.mem_of_getElem? (i := 852) rfl, rfl⟩
set_option maxRecDepth 100000 in
theorem k_853 : Cond.selects RX6 yX6_all yX6_all ∈ glw := List.mem_filter.mpr ⟨List.mem_of_getElem? (i := 853) rfl, rfl⟩
set_option maxRecDepth 100000 in
theorem k_854 : Cond.code yX6_all cX6_all 6 (some .long) ∈ glw := List.mem_filter.mpr ⟨List.mem_of_getElem? (i := 854) rfl, rfl⟩
set_option maxRecDepth 100000 in
theorem k_855 : Cond.methodLink RL 102 yX6_write ∈ glw := List.mem_filter.mpr ⟨List.mem_of_getElem? (i := 855) rfl, rfl⟩
set_option maxRecDepth 100000 in
theorem k_856 : Cond.instanceMethod yX6_write ∈ glw := List.mem_filter.mpr ⟨List.mem_of_getElem? (i := 856) rfl, rfl⟩
set_option maxRecDepth 100000 in
theorem k_857 : Cond.selects RX6 yX6_write yX6_write ∈ glw := List.mem_filter.mpr ⟨List.mem_of_getElem? (i := 857) rfl, rfl⟩
set_option maxRecDepth 100000 in
theorem k_858 : Cond.code yX6_write cX6_write 8 (some .int) ∈ glw := List.mem_filter.mpr ⟨List.mem_of_getElem? (i := 858) rfl, rfl⟩
set_option maxRecDepth 100000 in
theorem k_859 : Cond.methodLink RX6 151 yX6_isAllowed ∈ glw := List.mem_filter.mpr ⟨List.mem_of_getElem? (i := 859) rfl, rfl⟩
set_option maxRecDepth 100000 in
theorem k_861 : Cond.instanceMethod yX6_isAllowed ∈ glw := List.mem_filter.mpr ⟨List.mem_of_getElem? (i := 861) rfl, rfl⟩
set_option maxRecDepth 100000 in
theorem k_862 : Cond.code yX6_isAllowed cX6_isAllowed 3 (some .boolean) ∈ glw := List.mem_filter.mpr ⟨List.mem_of_getElem? (i := 862) rfl, rfl⟩
set_option maxRecDepth 100000 in
theorem k_863 : Cond.methodLink RX6 154 yX6_holds ∈ glw := List.mem_filter.mpr ⟨List.mem_of_getElem? (i := 863) rfl, rfl⟩
set_option maxRecDepth 100000 in
theorem k_865 : Cond.instanceMethod yX6_holds ∈ glw := List.mem_filter.mpr ⟨List.mem_of_getElem? (i := 865) rfl, rfl⟩
set_option maxRecDepth 100000 in
theorem k_866 : Cond.code yX6_holds cX6_holds 3 (some .boolean) ∈ glw := List.mem_filter.mpr ⟨List.mem_of_getElem? (i := 866) rfl, rfl⟩
set_option maxRecDepth 100000 in
theorem k_867 : Cond.methodLink RX6 148 yX6_isApart ∈ glw := List.mem_filter.mpr ⟨List.mem_of_getElem? (i := 867) rfl, rfl⟩
set_option maxRecDepth 100000 in
theorem k_869 : Cond.instanceMethod yX6_isApart ∈ glw := List.mem_filter.mpr ⟨List.mem_of_getElem? (i := 869) rfl, rfl⟩
set_option maxRecDepth 100000 in
theorem k_870 : Cond.code yX6_isApart cX6_isApart 4 (some .boolean) ∈ glw := List.mem_filter.mpr ⟨List.mem_of_getElem? (i := 870) rfl, rfl⟩
set_option maxRecDepth 100000 in
theorem k_871 : Cond.methodLink RX6 157 yX6_countIn ∈ glw := List.mem_filter.mpr ⟨List.mem_of_getElem? (i := 871) rfl, rfl⟩
set_option maxRecDepth 100000 in
theorem k_873 : Cond.instanceMethod yX6_countIn ∈ glw := List.mem_filter.mpr ⟨List.mem_of_getElem? (i := 873) rfl, rfl⟩
set_option maxRecDepth 100000 in
theorem k_874 : Cond.code yX6_countIn cX6_countIn 4 (some .int) ∈ glw := List.mem_filter.mpr ⟨List.mem_of_getElem? (i := 874) rfl, rfl⟩
set_option maxRecDepth 100000 in
theorem k_875 : Cond.methodLink RL 106 yX6_soonest ∈ glw := List.mem_filter.mpr ⟨List.mem_of_getElem? (i := 875) rfl, rfl⟩
set_option maxRecDepth 100000 in
theorem k_876 : Cond.instanceMethod yX6_soonest ∈ glw := List.mem_filter.mpr ⟨List.mem_of_getElem? (i := 876) rfl, rfl⟩
set_option maxRecDepth 100000 in
theorem k_877 : Cond.selects RX6 yX6_soonest yX6_soonest ∈ glw := List.mem_filter.mpr ⟨List.mem_of_getElem? (i := 877) rfl, rfl⟩
set_option maxRecDepth 100000 in
theorem k_878 : Cond.code yX6_soonest cX6_soonest 7 (some .int) ∈ glw := List.mem_filter.mpr ⟨List.mem_of_getElem? (i := 878) rfl, rfl⟩
set_option maxRecDepth 100000 in
theorem k_879 : Cond.methodLink RX6 160 yX6_firstPassed ∈ glw := List.mem_filter.mpr ⟨List.mem_of_getElem? (i := 879) rfl, rfl⟩
set_option maxRecDepth 100000 in
theorem k_881 : Cond.instanceMethod yX6_firstPassed ∈ glw := List.mem_filter.mpr ⟨List.mem_of_getElem? (i := 881) rfl, rfl⟩
set_option maxRecDepth 100000 in
theorem k_882 : Cond.code yX6_firstPassed cX6_firstPassed 2 (some .int) ∈ glw := List.mem_filter.mpr ⟨List.mem_of_getElem? (i := 882) rfl, rfl⟩
set_option maxRecDepth 100000 in
theorem k_883 : Cond.methodLink RL 110 yX6_seen ∈ glw := List.mem_filter.mpr ⟨List.mem_of_getElem? (i := 883) rfl, rfl⟩
set_option maxRecDepth 100000 in
theorem k_884 : Cond.instanceMethod yX6_seen ∈ glw := List.mem_filter.mpr ⟨List.mem_of_getElem? (i := 884) rfl, rfl⟩
set_option maxRecDepth 100000 in
theorem k_885 : Cond.selects RX6 yX6_seen yX6_seen ∈ glw := List.mem_filter.mpr ⟨List.mem_of_getElem? (i := 885) rfl, rfl⟩
set_option maxRecDepth 100000 in
theorem k_886 : Cond.code yX6_seen cX6_seen 3 (some .int) ∈ glw := List.mem_filter.mpr ⟨List.mem_of_getElem? (i := 886) rfl, rfl⟩
set_option maxRecDepth 100000 in
theorem k_887 : Cond.methodLink RL 114 yX6_forget ∈ glw := List.mem_filter.mpr ⟨List.mem_of_getElem? (i := 887) rfl, rfl⟩
set_option maxRecDepth 100000 in
theorem k_888 : Cond.instanceMethod yX6_forget ∈ glw := List.mem_filter.mpr ⟨List.mem_of_getElem? (i := 888) rfl, rfl⟩
set_option maxRecDepth 100000 in
theorem k_889 : Cond.selects RX6 yX6_forget yX6_forget ∈ glw := List.mem_filter.mpr ⟨List.mem_of_getElem? (i := 889) rfl, rfl⟩
set_option maxRecDepth 100000 in
theorem k_890 : Cond.code yX6_forget cX6_forget 2 (some .int) ∈ glw := List.mem_filter.mpr ⟨List.mem_of_getElem? (i := 890) rfl, rfl⟩
set_option maxRecDepth 100000 in
theorem k_891 : Cond.methodLink RL 118 yX6_fits ∈ glw := List.mem_filter.mpr ⟨List.mem_of_getElem? (i := 891) rfl, rfl⟩
set_option maxRecDepth 100000 in
theorem k_892 : Cond.instanceMethod yX6_fits ∈ glw := List.mem_filter.mpr ⟨List.mem_of_getElem? (i := 892) rfl, rfl⟩
set_option maxRecDepth 100000 in
theorem k_893 : Cond.selects RX6 yX6_fits yX6_fits ∈ glw := List.mem_filter.mpr ⟨List.mem_of_getElem? (i := 893) rfl, rfl⟩
set_option maxRecDepth 100000 in
theorem k_894 : Cond.code yX6_fits cX6_fits 3 (some .int) ∈ glw := List.mem_filter.mpr ⟨List.mem_of_getElem? (i := 894) rfl, rfl⟩
set_option maxRecDepth 100000 in
theorem k_895 : Cond.methodLink RX6 163 yX6_areSeen ∈ glw := List.mem_filter.mpr ⟨List.mem_of_getElem? (i := 895) rfl, rfl⟩
set_option maxRecDepth 100000 in
theorem k_897 : Cond.instanceMethod yX6_areSeen ∈ glw := List.mem_filter.mpr ⟨List.mem_of_getElem? (i := 897) rfl, rfl⟩
set_option maxRecDepth 100000 in
theorem k_898 : Cond.code yX6_areSeen cX6_areSeen 3 (some .boolean) ∈ glw := List.mem_filter.mpr ⟨List.mem_of_getElem? (i := 898) rfl, rfl⟩
set_option maxRecDepth 100000 in
theorem k_899 : Cond.methodLink RL 122 yX6_drawn ∈ glw := List.mem_filter.mpr ⟨List.mem_of_getElem? (i := 899) rfl, rfl⟩
set_option maxRecDepth 100000 in
theorem k_900 : Cond.instanceMethod yX6_drawn ∈ glw := List.mem_filter.mpr ⟨List.mem_of_getElem? (i := 900) rfl, rfl⟩
set_option maxRecDepth 100000 in
theorem k_901 : Cond.selects RX6 yX6_drawn yX6_drawn ∈ glw := List.mem_filter.mpr ⟨List.mem_of_getElem? (i := 901) rfl, rfl⟩
set_option maxRecDepth 100000 in
theorem k_902 : Cond.code yX6_drawn cX6_drawn 10 (some .long) ∈ glw := List.mem_filter.mpr ⟨List.mem_of_getElem? (i := 902) rfl, rfl⟩
set_option maxRecDepth 100000 in
theorem k_903 : Cond.methodLink RL 126 yX6_shuffle ∈ glw := List.mem_filter.mpr ⟨List.mem_of_getElem? (i := 903) rfl, rfl⟩
set_option maxRecDepth 100000 in
theorem k_904 : Cond.instanceMethod yX6_shuffle ∈ glw := List.mem_filter.mpr ⟨List.mem_of_getElem? (i := 904) rfl, rfl⟩
set_option maxRecDepth 100000 in
theorem k_905 : Cond.selects RX6 yX6_shuffle yX6_shuffle ∈ glw := List.mem_filter.mpr ⟨List.mem_of_getElem? (i := 905) rfl, rfl⟩
set_option maxRecDepth 100000 in
theorem k_906 : Cond.code yX6_shuffle cX6_shuffle 3 (some .int) ∈ glw := List.mem_filter.mpr ⟨List.mem_of_getElem? (i := 906) rfl, rfl⟩
set_option maxRecDepth 100000 in
theorem k_907 : Cond.methodLink RX6 167 yX6_takePack ∈ glw := List.mem_filter.mpr ⟨List.mem_of_getElem? (i := 907) rfl, rfl⟩
set_option maxRecDepth 100000 in
theorem k_909 : Cond.instanceMethod yX6_takePack ∈ glw := List.mem_filter.mpr ⟨List.mem_of_getElem? (i := 909) rfl, rfl⟩
set_option maxRecDepth 100000 in
theorem k_910 : Cond.code yX6_takePack cX6_takePack 2 none ∈ glw := List.mem_filter.mpr ⟨List.mem_of_getElem? (i := 910) rfl, rfl⟩
set_option maxRecDepth 100000 in
theorem k_911 : Cond.methodLink RX6 170 yX6_mix ∈ glw := List.mem_filter.mpr ⟨List.mem_of_getElem? (i := 911) rfl, rfl⟩
set_option maxRecDepth 100000 in
theorem k_913 : Cond.instanceMethod yX6_mix ∈ glw := List.mem_filter.mpr ⟨List.mem_of_getElem? (i := 913) rfl, rfl⟩
set_option maxRecDepth 100000 in
theorem k_914 : Cond.code yX6_mix cX6_mix 6 none ∈ glw := List.mem_filter.mpr ⟨List.mem_of_getElem? (i := 914) rfl, rfl⟩
set_option maxRecDepth 100000 in
theorem k_915 : Cond.constant RX6 166 (65537) ∈ glw := List.mem_filter.mpr ⟨List.mem_of_getElem? (i := 915) rfl, rfl⟩
set_option maxRecDepth 100000 in
theorem k_916 : Cond.methodLink RL 130 yX6_wrong ∈ glw := List.mem_filter.mpr ⟨List.mem_of_getElem? (i := 916) rfl, rfl⟩
set_option maxRecDepth 100000 in
theorem k_917 : Cond.instanceMethod yX6_wrong ∈ glw := List.mem_filter.mpr ⟨List.mem_of_getElem? (i := 917) rfl, rfl⟩
set_option maxRecDepth 100000 in
theorem k_918 : Cond.selects RX6 yX6_wrong yX6_wrong ∈ glw := List.mem_filter.mpr ⟨List.mem_of_getElem? (i := 918) rfl, rfl⟩
set_option maxRecDepth 100000 in
theorem k_919 : Cond.code yX6_wrong cX6_wrong 6 (some .int) ∈ glw := List.mem_filter.mpr ⟨List.mem_of_getElem? (i := 919) rfl, rfl⟩
set_option maxRecDepth 100000 in
theorem k_920 : Cond.methodLink RL 134 yX6_image ∈ glw := List.mem_filter.mpr ⟨List.mem_of_getElem? (i := 920) rfl, rfl⟩
set_option maxRecDepth 100000 in
theorem k_921 : Cond.instanceMethod yX6_image ∈ glw := List.mem_filter.mpr ⟨List.mem_of_getElem? (i := 921) rfl, rfl⟩
set_option maxRecDepth 100000 in
theorem k_922 : Cond.selects RX6 yX6_image yX6_image ∈ glw := List.mem_filter.mpr ⟨List.mem_of_getElem? (i := 922) rfl, rfl⟩
set_option maxRecDepth 100000 in
theorem k_923 : Cond.code yX6_image cX6_image 4 (some .int) ∈ glw := List.mem_filter.mpr ⟨List.mem_of_getElem? (i := 923) rfl, rfl⟩
set_option maxRecDepth 100000 in
theorem k_924 : Cond.methodLink RL 138 yX6_restore ∈ glw := List.mem_filter.mpr ⟨List.mem_of_getElem? (i := 924) rfl, rfl⟩
set_option maxRecDepth 100000 in
theorem k_925 : Cond.instanceMethod yX6_restore ∈ glw := List.mem_filter.mpr ⟨List.mem_of_getElem? (i := 925) rfl, rfl⟩
set_option maxRecDepth 100000 in
theorem k_926 : Cond.selects RX6 yX6_restore yX6_restore ∈ glw := List.mem_filter.mpr ⟨List.mem_of_getElem? (i := 926) rfl, rfl⟩
set_option maxRecDepth 100000 in
theorem k_927 : Cond.code yX6_restore cX6_restore 4 (some .int) ∈ glw := List.mem_filter.mpr ⟨List.mem_of_getElem? (i := 927) rfl, rfl⟩
set_option maxRecDepth 100000 in
theorem k_928 : Cond.methodLink RL 142 yX6_told ∈ glw := List.mem_filter.mpr ⟨List.mem_of_getElem? (i := 928) rfl, rfl⟩
set_option maxRecDepth 100000 in
theorem k_929 : Cond.instanceMethod yX6_told ∈ glw := List.mem_filter.mpr ⟨List.mem_of_getElem? (i := 929) rfl, rfl⟩
set_option maxRecDepth 100000 in
theorem k_930 : Cond.selects RX6 yX6_told yX6_told ∈ glw := List.mem_filter.mpr ⟨List.mem_of_getElem? (i := 930) rfl, rfl⟩
set_option maxRecDepth 100000 in
theorem k_931 : Cond.code yX6_told cX6_told 2 (some .int) ∈ glw := List.mem_filter.mpr ⟨List.mem_of_getElem? (i := 931) rfl, rfl⟩
