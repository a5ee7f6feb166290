set_option maxRecDepth 100000 in
theorem z_ok_0 : z_OK (yX0_init, cX0_init, 1, none, false, zo_X0_init, zc_X0_init, 1, 1) := ⟨1, true, rfl, fun h => rfl, z_okl (by decide +kernel)⟩
set_option maxRecDepth 100000 in
theorem z_ok_1 : z_OK (yX0_forget, cX0_forget, 1, none, false, zo_X0_forget, zc_X0_forget, 1, 1) := ⟨1, false, rfl, fun h => absurd h (by decide), z_okl (by decide +kernel)⟩
set_option maxRecDepth 100000 in
theorem z_ok_2 : z_OK (yX0_kept, cX0_kept, 1, (some .int), false, zo_X0_kept, zc_X0_kept, 1, 1) := ⟨1, false, rfl, fun h => absurd h (by decide), z_okl (by decide +kernel)⟩
set_option maxRecDepth 100000 in
theorem z_ok_3 : z_OK (yX0_run, cX0_run, 4, (some .int), false, zo_X0_run, zc_X0_run, 1, 4) := ⟨1, false, rfl, fun h => absurd h (by decide), z_okl (by decide +kernel)⟩
set_option maxRecDepth 100000 in
theorem z_ok_4 : z_OK (yX0_note, cX0_note, 2, none, false, zo_X0_note, zc_X0_note, 1, 2) := ⟨1, false, rfl, fun h => absurd h (by decide), z_okl (by decide +kernel)⟩
set_option maxRecDepth 100000 in
theorem z_ok_5 : z_OK (yX0_drips, cX0_drips, 3, (some .int), false, zo_X0_drips, zc_X0_drips, 1, 3) := ⟨1, false, rfl, fun h => absurd h (by decide), z_okl (by decide +kernel)⟩
set_option maxRecDepth 100000 in
theorem z_ok_6 : z_OK (yX0_steams, cX0_steams, 3, (some .int), false, zo_X0_steams, zc_X0_steams, 1, 3) := ⟨1, false, rfl, fun h => absurd h (by decide), z_okl (by decide +kernel)⟩
set_option maxRecDepth 100000 in
theorem z_ok_7 : z_OK (yX0_tells, cX0_tells, 3, (some .int), false, zo_X0_tells, zc_X0_tells, 1, 3) := ⟨1, false, rfl, fun h => absurd h (by decide), z_okl (by decide +kernel)⟩
set_option maxRecDepth 100000 in
theorem z_ok_8 : z_OK (yX1_init, cX1_init, 2, none, false, zo_X1_init, zc_X1_init, 2, 2) := ⟨2, true, rfl, fun h => rfl, z_okl (by decide +kernel)⟩
set_option maxRecDepth 100000 in
theorem z_ok_9 : z_OK (yX1_become, cX1_become, 5, none, false, zo_X1_become, zc_X1_become, 2, 5) := ⟨2, false, rfl, fun h => absurd h (by decide), z_okl (by decide +kernel)⟩
set_option maxRecDepth 100000 in
theorem z_ok_10 : z_OK (yX1_copyFrom, cX1_copyFrom, 2, none, false, zo_X1_copyFrom, zc_X1_copyFrom, 2, 2) := ⟨2, false, rfl, fun h => absurd h (by decide), z_okl (by decide +kernel)⟩
set_option maxRecDepth 100000 in
theorem z_ok_11 : z_OK (yX1_driesAt, cX1_driesAt, 5, (some .int), false, zo_X1_driesAt, zc_X1_driesAt, 2, 3) := ⟨2, false, rfl, fun h => absurd h (by decide), z_okl (by decide +kernel)⟩
set_option maxRecDepth 100000 in
theorem z_ok_12 : z_OK (yX1_asLeather, cX1_asLeather, 2, (some .int), false, zo_X1_asLeather, zc_X1_asLeather, 0, 2) := ⟨2, false, rfl, fun h => absurd h (by decide), z_okl (by decide +kernel)⟩
set_option maxRecDepth 100000 in
theorem z_ok_13 : z_OK (yX1_asStuffed, cX1_asStuffed, 2, (some .int), false, zo_X1_asStuffed, zc_X1_asStuffed, 2, 2) := ⟨2, false, rfl, fun h => absurd h (by decide), z_okl (by decide +kernel)⟩
set_option maxRecDepth 100000 in
theorem z_ok_14 : z_OK (yX1_spoils, cX1_spoils, 3, (some .boolean), true, zo_X1_spoils, zc_X1_spoils, 2, 2) := ⟨2, false, rfl, fun h => absurd h (by decide), z_okl (by decide +kernel)⟩
set_option maxRecDepth 100000 in
theorem z_ok_15 : z_OK (yX1_letHourGo, cX1_letHourGo, 2, none, false, zo_X1_letHourGo, zc_X1_letHourGo, 2, 2) := ⟨2, false, rfl, fun h => absurd h (by decide), z_okl (by decide +kernel)⟩
set_option maxRecDepth 100000 in
theorem z_ok_16 : z_OK (yX2_init, cX2_init, 2, none, false, zo_X2_init, zc_X2_init, 3, 2) := ⟨3, true, rfl, fun h => rfl, z_okl (by decide +kernel)⟩
set_option maxRecDepth 100000 in
theorem z_ok_17 : z_OK (yX2_begin, cX2_begin, 3, none, false, zo_X2_begin, zc_X2_begin, 3, 3) := ⟨3, false, rfl, fun h => absurd h (by decide), z_okl (by decide +kernel)⟩
set_option maxRecDepth 100000 in
theorem z_ok_18 : z_OK (yX2_letHourGo, cX2_letHourGo, 1, none, false, zo_X2_letHourGo, zc_X2_letHourGo, 3, 1) := ⟨3, false, rfl, fun h => absurd h (by decide), z_okl (by decide +kernel)⟩
set_option maxRecDepth 100000 in
theorem z_ok_19 : z_OK (yX2_wetBehind, cX2_wetBehind, 6, (some .int), false, zo_X2_wetBehind, zc_X2_wetBehind, 3, 5) := ⟨3, false, rfl, fun h => absurd h (by decide), z_okl (by decide +kernel)⟩
set_option maxRecDepth 100000 in
theorem z_ok_20 : z_OK (yX3_init, cX3_init, 1, none, false, zo_X3_init, zc_X3_init, 4, 1) := ⟨4, true, rfl, fun h => rfl, z_okl (by decide +kernel)⟩
set_option maxRecDepth 100000 in
theorem z_ok_21 : z_OK (yX3_clear, cX3_clear, 1, none, false, zo_X3_clear, zc_X3_clear, 4, 1) := ⟨4, false, rfl, fun h => absurd h (by decide), z_okl (by decide +kernel)⟩
set_option maxRecDepth 100000 in
theorem z_ok_22 : z_OK (yX3_append, cX3_append, 2, none, false, zo_X3_append, zc_X3_append, 4, 2) := ⟨4, false, rfl, fun h => absurd h (by decide), z_okl (by decide +kernel)⟩
set_option maxRecDepth 100000 in
theorem z_ok_23 : z_OK (yX3_codeOfTest, cX3_codeOfTest, 3, (some .int), false, zo_X3_codeOfTest, zc_X3_codeOfTest, 0, 3) := ⟨4, false, rfl, fun h => absurd h (by decide), z_okl (by decide +kernel)⟩
set_option maxRecDepth 100000 in
theorem z_ok_24 : z_OK (yX3_appendEnd, cX3_appendEnd, 2, none, false, zo_X3_appendEnd, zc_X3_appendEnd, 4, 2) := ⟨4, false, rfl, fun h => absurd h (by decide), z_okl (by decide +kernel)⟩
set_option maxRecDepth 100000 in
theorem z_ok_25 : z_OK (yX3_extraFor, cX3_extraFor, 10, (some .int), false, zo_X3_extraFor, zc_X3_extraFor, 4, 4) := ⟨4, false, rfl, fun h => absurd h (by decide), z_okl (by decide +kernel)⟩
set_option maxRecDepth 100000 in
theorem z_ok_26 : z_OK (yX3_isTrue, cX3_isTrue, 6, (some .boolean), true, zo_X3_isTrue, zc_X3_isTrue, 4, 2) := ⟨4, false, rfl, fun h => absurd h (by decide), z_okl (by decide +kernel)⟩
set_option maxRecDepth 100000 in
theorem z_ok_27 : z_OK (yX4_init, cX4_init, 2, none, false, zo_X4_init, zc_X4_init, 5, 2) := ⟨5, true, rfl, fun h => rfl, z_okl (by decide +kernel)⟩
set_option maxRecDepth 100000 in
theorem z_ok_28 : z_OK (yX4_append, cX4_append, 2, (some .int), false, zo_X4_append, zc_X4_append, 5, 2) := ⟨5, false, rfl, fun h => absurd h (by decide), z_okl (by decide +kernel)⟩
set_option maxRecDepth 100000 in
theorem z_ok_29 : z_OK (yX4_faultReadingInto, cX4_faultReadingInto, 3, (some .int), false, zo_X4_faultReadingInto, zc_X4_faultReadingInto, 5, 2) := ⟨5, false, rfl, fun h => absurd h (by decide), z_okl (by decide +kernel)⟩
set_option maxRecDepth 100000 in
theorem z_ok_30 : z_OK (yX4_readClause, cX4_readClause, 3, (some .boolean), true, zo_X4_readClause, zc_X4_readClause, 5, 1) := ⟨5, false, rfl, fun h => absurd h (by decide), z_okl (by decide +kernel)⟩
set_option maxRecDepth 100000 in
theorem z_ok_31 : z_OK (yX4_readWord, cX4_readWord, 1, (some .int), false, zo_X4_readWord, zc_X4_readWord, 5, 1) := ⟨5, false, rfl, fun h => absurd h (by decide), z_okl (by decide +kernel)⟩
set_option maxRecDepth 100000 in
theorem z_ok_32 : z_OK (yX4_readNumber, cX4_readNumber, 4, (some .int), false, zo_X4_readNumber, zc_X4_readNumber, 5, 1) := ⟨5, false, rfl, fun h => absurd h (by decide), z_okl (by decide +kernel)⟩
set_option maxRecDepth 100000 in
theorem z_ok_33 : z_OK (yX4_readAny, cX4_readAny, 3, (some .boolean), true, zo_X4_readAny, zc_X4_readAny, 5, 2) := ⟨5, false, rfl, fun h => absurd h (by decide), z_okl (by decide +kernel)⟩
set_option maxRecDepth 100000 in
theorem z_ok_34 : z_OK (yX4_readAll, cX4_readAll, 3, (some .boolean), true, zo_X4_readAll, zc_X4_readAll, 5, 2) := ⟨5, false, rfl, fun h => absurd h (by decide), z_okl (by decide +kernel)⟩
set_option maxRecDepth 100000 in
theorem z_ok_35 : z_OK (yX4_readPart, cX4_readPart, 3, (some .boolean), true, zo_X4_readPart, zc_X4_readPart, 5, 2) := ⟨5, false, rfl, fun h => absurd h (by decide), z_okl (by decide +kernel)⟩
set_option maxRecDepth 100000 in
theorem z_ok_36 : z_OK (yX4_readTest, cX4_readTest, 4, (some .boolean), true, zo_X4_readTest, zc_X4_readTest, 5, 1) := ⟨5, false, rfl, fun h => absurd h (by decide), z_okl (by decide +kernel)⟩
set_option maxRecDepth 100000 in
theorem z_ok_37 : z_OK (yX4_letterOf, cX4_letterOf, 1, (some .int), false, zo_X4_letterOf, zc_X4_letterOf, 0, 1) := ⟨5, false, rfl, fun h => absurd h (by decide), z_okl (by decide +kernel)⟩
set_option maxRecDepth 100000 in
theorem z_ok_38 : z_OK (yX4_comparisonOf, cX4_comparisonOf, 1, (some .int), false, zo_X4_comparisonOf, zc_X4_comparisonOf, 0, 1) := ⟨5, false, rfl, fun h => absurd h (by decide), z_okl (by decide +kernel)⟩
set_option maxRecDepth 100000 in
theorem z_ok_39 : z_OK (yX4_sign, cX4_sign, 1, (some .int), false, zo_X4_sign, zc_X4_sign, 5, 1) := ⟨5, false, rfl, fun h => absurd h (by decide), z_okl (by decide +kernel)⟩
set_option maxRecDepth 100000 in
theorem z_ok_40 : z_OK (yX4_skip, cX4_skip, 2, (some .boolean), true, zo_X4_skip, zc_X4_skip, 5, 2) := ⟨5, false, rfl, fun h => absurd h (by decide), z_okl (by decide +kernel)⟩
set_option maxRecDepth 100000 in
theorem z_ok_41 : z_OK (yX5_above, cX5_above, 1, (some .int), false, zo_X5_above, zc_X5_above, 0, 1) := ⟨13, false, rfl, fun h => absurd h (by decide), z_okl (by decide +kernel)⟩
set_option maxRecDepth 100000 in
theorem z_ok_42 : z_OK (yX5_isOrIsUnder, cX5_isOrIsUnder, 4, (some .boolean), true, zo_X5_isOrIsUnder, zc_X5_isOrIsUnder, 0, 2) := ⟨13, false, rfl, fun h => absurd h (by decide), z_okl (by decide +kernel)⟩
set_option maxRecDepth 100000 in
theorem z_ok_43 : z_OK (yX6_init, cX6_init, 1, none, false, zo_X6_init, zc_X6_init, 6, 1) := ⟨6, true, rfl, fun h => rfl, z_okl (by decide +kernel)⟩
set_option maxRecDepth 100000 in
theorem z_ok_44 : z_OK (yX6_foresee, cX6_foresee, 6, none, false, zo_X6_foresee, zc_X6_foresee, 6, 4) := ⟨6, false, rfl, fun h => absurd h (by decide), z_okl (by decide +kernel)⟩
set_option maxRecDepth 100000 in
theorem z_ok_45 : z_OK (yX6_moreByChange, cX6_moreByChange, 3, (some .int), false, zo_X6_moreByChange, zc_X6_moreByChange, 6, 3) := ⟨6, false, rfl, fun h => absurd h (by decide), z_okl (by decide +kernel)⟩
set_option maxRecDepth 100000 in
theorem z_ok_46 : z_OK (yX6_moreByMove, cX6_moreByMove, 4, (some .int), false, zo_X6_moreByMove, zc_X6_moreByMove, 6, 3) := ⟨6, false, rfl, fun h => absurd h (by decide), z_okl (by decide +kernel)⟩
set_option maxRecDepth 100000 in
theorem z_ok_47 : z_OK (yX6_findBest, cX6_findBest, 1, none, false, zo_X6_findBest, zc_X6_findBest, 6, 1) := ⟨6, false, rfl, fun h => absurd h (by decide), z_okl (by decide +kernel)⟩
set_option maxRecDepth 100000 in
theorem z_ok_48 : z_OK (yX6_tryFrom, cX6_tryFrom, 8, none, false, zo_X6_tryFrom, zc_X6_tryFrom, 6, 5) := ⟨6, false, rfl, fun h => absurd h (by decide), z_okl (by decide +kernel)⟩
set_option maxRecDepth 100000 in
theorem z_ok_49 : z_OK (yX6_keepIfBetter, cX6_keepIfBetter, 3, none, false, zo_X6_keepIfBetter, zc_X6_keepIfBetter, 6, 3) := ⟨6, false, rfl, fun h => absurd h (by decide), z_okl (by decide +kernel)⟩
set_option maxRecDepth 100000 in
theorem z_ok_50 : z_OK (yX7_init, cX7_init, 3, none, false, zo_X7_init, zc_X7_init, 7, 2) := ⟨7, true, rfl, fun h => rfl, z_okl (by decide +kernel)⟩
set_option maxRecDepth 100000 in
theorem z_ok_51 : z_OK (yX7_copyFrom, cX7_copyFrom, 3, none, false, zo_X7_copyFrom, zc_X7_copyFrom, 7, 2) := ⟨7, false, rfl, fun h => absurd h (by decide), z_okl (by decide +kernel)⟩
set_option maxRecDepth 100000 in
theorem z_ok_52 : z_OK (yX7_whoIsAt, cX7_whoIsAt, 3, (some .int), false, zo_X7_whoIsAt, zc_X7_whoIsAt, 7, 2) := ⟨7, false, rfl, fun h => absurd h (by decide), z_okl (by decide +kernel)⟩
set_option maxRecDepth 100000 in
theorem z_ok_53 : z_OK (yX7_freePlace, cX7_freePlace, 2, (some .int), false, zo_X7_freePlace, zc_X7_freePlace, 7, 1) := ⟨7, false, rfl, fun h => absurd h (by decide), z_okl (by decide +kernel)⟩
set_option maxRecDepth 100000 in
theorem z_ok_54 : z_OK (yX7_letHourGo, cX7_letHourGo, 2, none, false, zo_X7_letHourGo, zc_X7_letHourGo, 7, 1) := ⟨7, false, rfl, fun h => absurd h (by decide), z_okl (by decide +kernel)⟩
set_option maxRecDepth 100000 in
theorem z_ok_55 : z_OK (yX7_letHoursGo, cX7_letHoursGo, 3, none, false, zo_X7_letHoursGo, zc_X7_letHoursGo, 7, 2) := ⟨7, false, rfl, fun h => absurd h (by decide), z_okl (by decide +kernel)⟩
set_option maxRecDepth 100000 in
theorem z_ok_56 : z_OK (yX7_follow, cX7_follow, 3, none, false, zo_X7_follow, zc_X7_follow, 7, 3) := ⟨7, false, rfl, fun h => absurd h (by decide), z_okl (by decide +kernel)⟩
set_option maxRecDepth 100000 in
theorem z_ok_57 : z_OK (yX7_wetOfThoseHere, cX7_wetOfThoseHere, 3, (some .int), false, zo_X7_wetOfThoseHere, zc_X7_wetOfThoseHere, 7, 1) := ⟨7, false, rfl, fun h => absurd h (by decide), z_okl (by decide +kernel)⟩
set_option maxRecDepth 100000 in
theorem z_ok_58 : z_OK (yX7_cracksOfAll, cX7_cracksOfAll, 3, (some .int), false, zo_X7_cracksOfAll, zc_X7_cracksOfAll, 7, 1) := ⟨7, false, rfl, fun h => absurd h (by decide), z_okl (by decide +kernel)⟩
set_option maxRecDepth 100000 in
theorem z_ok_59 : z_OK (yX7_dryOfThoseHere, cX7_dryOfThoseHere, 3, (some .int), false, zo_X7_dryOfThoseHere, zc_X7_dryOfThoseHere, 7, 1) := ⟨7, false, rfl, fun h => absurd h (by decide), z_okl (by decide +kernel)⟩
set_option maxRecDepth 100000 in
theorem z_ok_60 : z_OK (yX7_dryBits, cX7_dryBits, 3, (some .int), false, zo_X7_dryBits, zc_X7_dryBits, 7, 1) := ⟨7, false, rfl, fun h => absurd h (by decide), z_okl (by decide +kernel)⟩
set_option maxRecDepth 100000 in
theorem z_ok_61 : z_OK (yX8_init, cX8_init, 2, none, false, zo_X8_init, zc_X8_init, 8, 2) := ⟨8, true, rfl, fun h => rfl, z_okl (by decide +kernel)⟩
set_option maxRecDepth 100000 in
theorem z_ok_62 : z_OK (yX8_isFull, cX8_isFull, 1, (some .boolean), true, zo_X8_isFull, zc_X8_isFull, 8, 1) := ⟨8, false, rfl, fun h => absurd h (by decide), z_okl (by decide +kernel)⟩
set_option maxRecDepth 100000 in
theorem z_ok_63 : z_OK (yX8_append, cX8_append, 4, (some .int), false, zo_X8_append, zc_X8_append, 8, 4) := ⟨8, false, rfl, fun h => absurd h (by decide), z_okl (by decide +kernel)⟩
set_option maxRecDepth 100000 in
theorem z_ok_64 : z_OK (yX8_copyFrom, cX8_copyFrom, 2, none, false, zo_X8_copyFrom, zc_X8_copyFrom, 8, 2) := ⟨8, false, rfl, fun h => absurd h (by decide), z_okl (by decide +kernel)⟩
set_option maxRecDepth 100000 in
theorem z_ok_65 : z_OK (yX8_mostThirdOf, cX8_mostThirdOf, 4, (some .int), false, zo_X8_mostThirdOf, zc_X8_mostThirdOf, 8, 2) := ⟨8, false, rfl, fun h => absurd h (by decide), z_okl (by decide +kernel)⟩
set_option maxRecDepth 100000 in
theorem z_ok_66 : z_OK (yX9_init, cX9_init, 2, none, false, zo_X9_init, zc_X9_init, 9, 2) := ⟨9, true, rfl, fun h => rfl, z_okl (by decide +kernel)⟩
set_option maxRecDepth 100000 in
theorem z_ok_67 : z_OK (yX9_copyFrom, cX9_copyFrom, 2, none, false, zo_X9_copyFrom, zc_X9_copyFrom, 9, 2) := ⟨9, false, rfl, fun h => absurd h (by decide), z_okl (by decide +kernel)⟩
set_option maxRecDepth 100000 in
theorem z_ok_68 : z_OK (yX9_warmAt, cX9_warmAt, 2, (some .int), false, zo_X9_warmAt, zc_X9_warmAt, 9, 2) := ⟨9, false, rfl, fun h => absurd h (by decide), z_okl (by decide +kernel)⟩
set_option maxRecDepth 100000 in
theorem z_ok_69 : z_OK (yX9_burnLog, cX9_burnLog, 1, none, false, zo_X9_burnLog, zc_X9_burnLog, 9, 1) := ⟨9, false, rfl, fun h => absurd h (by decide), z_okl (by decide +kernel)⟩
set_option maxRecDepth 100000 in
theorem z_ok_70 : z_OK (yX9_letHourGo, cX9_letHourGo, 1, none, false, zo_X9_letHourGo, zc_X9_letHourGo, 9, 1) := ⟨9, false, rfl, fun h => absurd h (by decide), z_okl (by decide +kernel)⟩
set_option maxRecDepth 100000 in
theorem z_ok_71 : z_OK (yX10_init, cX10_init, 1, none, false, zo_X10_init, zc_X10_init, 10, 1) := ⟨10, true, rfl, fun h => rfl, z_okl (by decide +kernel)⟩
set_option maxRecDepth 100000 in
theorem z_ok_72 : z_OK (yX10_become, cX10_become, 3, none, false, zo_X10_become, zc_X10_become, 10, 3) := ⟨10, false, rfl, fun h => absurd h (by decide), z_okl (by decide +kernel)⟩
set_option maxRecDepth 100000 in
theorem z_ok_73 : z_OK (yX10_holds, cX10_holds, 3, (some .boolean), true, zo_X10_holds, zc_X10_holds, 10, 3) := ⟨10, false, rfl, fun h => absurd h (by decide), z_okl (by decide +kernel)⟩
set_option maxRecDepth 100000 in
theorem z_ok_74 : z_OK (yX10_narrowed, cX10_narrowed, 3, (some .long), false, zo_X10_narrowed, zc_X10_narrowed, 10, 2) := ⟨10, false, rfl, fun h => absurd h (by decide), z_okl (by decide +kernel)⟩
set_option maxRecDepth 100000 in
theorem z_ok_228 : z_OK (yJ6_bitCount_0f7a4, cJ6_bitCount_0f7a4, 1, (some .int), false, zo_J6_bitCount_0f7a4, zc_J6_bitCount_0f7a4, 0, 1) := ⟨14, false, rfl, fun h => absurd h (by decide), z_okl (by decide +kernel)⟩
set_option maxRecDepth 100000 in
theorem z_ok_229 : z_OK (yJ7_fill_d0a16, cJ7_fill_d0a16, 5, none, false, zo_J7_fill_d0a16, zc_J7_fill_d0a16, 0, 2) := ⟨15, false, rfl, fun h => absurd h (by decide), z_okl (by decide +kernel)⟩
set_option maxRecDepth 100000 in
theorem z_ok_230 : z_OK (yJ7_fill_53178, cJ7_fill_53178, 4, none, false, zo_J7_fill_53178, zc_J7_fill_53178, 0, 2) := ⟨15, false, rfl, fun h => absurd h (by decide), z_okl (by decide +kernel)⟩
