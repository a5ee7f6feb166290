set_option maxRecDepth 100000 in
theorem z_ok_75 : z_OK (yX11_init, cX11_init, 3, none, false, zo_X11_init, zc_X11_init, 11, 1) := ⟨11, true, rfl, fun h => rfl, z_okl (by decide +kernel)⟩
set_option maxRecDepth 100000 in
theorem z_ok_76 : z_OK (yX11_pair, cX11_pair, 4, (some .int), false, zo_X11_pair, zc_X11_pair, 11, 4) := ⟨11, false, rfl, fun h => absurd h (by decide), z_okl (by decide +kernel)⟩
set_option maxRecDepth 100000 in
theorem z_ok_77 : z_OK (yX11_of, cX11_of, 4, (some .int), false, zo_X11_of, zc_X11_of, 11, 3) := ⟨11, false, rfl, fun h => absurd h (by decide), z_okl (by decide +kernel)⟩
set_option maxRecDepth 100000 in
theorem z_ok_78 : z_OK (yX11_wet, cX11_wet, 4, (some .int), false, zo_X11_wet, zc_X11_wet, 11, 3) := ⟨11, false, rfl, fun h => absurd h (by decide), z_okl (by decide +kernel)⟩
set_option maxRecDepth 100000 in
theorem z_ok_79 : z_OK (yX11_put, cX11_put, 5, (some .int), false, zo_X11_put, zc_X11_put, 11, 3) := ⟨11, false, rfl, fun h => absurd h (by decide), z_okl (by decide +kernel)⟩
set_option maxRecDepth 100000 in
theorem z_ok_80 : z_OK (yX11_take, cX11_take, 4, (some .int), false, zo_X11_take, zc_X11_take, 11, 3) := ⟨11, false, rfl, fun h => absurd h (by decide), z_okl (by decide +kernel)⟩
set_option maxRecDepth 100000 in
theorem z_ok_81 : z_OK (yX11_stoke, cX11_stoke, 1, (some .int), false, zo_X11_stoke, zc_X11_stoke, 11, 1) := ⟨11, false, rfl, fun h => absurd h (by decide), z_okl (by decide +kernel)⟩
set_option maxRecDepth 100000 in
theorem z_ok_82 : z_OK (yX11_set, cX11_set, 5, (some .int), false, zo_X11_set, zc_X11_set, 11, 3) := ⟨11, false, rfl, fun h => absurd h (by decide), z_okl (by decide +kernel)⟩
set_option maxRecDepth 100000 in
theorem z_ok_83 : z_OK (yX11_row, cX11_row, 6, (some .int), false, zo_X11_row, zc_X11_row, 11, 4) := ⟨11, false, rfl, fun h => absurd h (by decide), z_okl (by decide +kernel)⟩
set_option maxRecDepth 100000 in
theorem z_ok_84 : z_OK (yX11_feed, cX11_feed, 2, (some .int), false, zo_X11_feed, zc_X11_feed, 11, 2) := ⟨11, false, rfl, fun h => absurd h (by decide), z_okl (by decide +kernel)⟩
set_option maxRecDepth 100000 in
theorem z_ok_85 : z_OK (yX11_hut, cX11_hut, 3, (some .int), false, zo_X11_hut, zc_X11_hut, 11, 1) := ⟨11, false, rfl, fun h => absurd h (by decide), z_okl (by decide +kernel)⟩
set_option maxRecDepth 100000 in
theorem z_ok_86 : z_OK (yX11_told, cX11_told, 2, (some .int), false, zo_X11_told, zc_X11_told, 11, 2) := ⟨11, false, rfl, fun h => absurd h (by decide), z_okl (by decide +kernel)⟩
set_option maxRecDepth 100000 in
theorem z_ok_87 : z_OK (yX11_pass, cX11_pass, 2, (some .int), false, zo_X11_pass, zc_X11_pass, 11, 2) := ⟨11, false, rfl, fun h => absurd h (by decide), z_okl (by decide +kernel)⟩
set_option maxRecDepth 100000 in
theorem z_ok_88 : z_OK (yX11_on, cX11_on, 4, (some .int), false, zo_X11_on, zc_X11_on, 11, 3) := ⟨11, false, rfl, fun h => absurd h (by decide), z_okl (by decide +kernel)⟩
set_option maxRecDepth 100000 in
theorem z_ok_89 : z_OK (yX11_done, cX11_done, 3, (some .int), false, zo_X11_done, zc_X11_done, 11, 2) := ⟨11, false, rfl, fun h => absurd h (by decide), z_okl (by decide +kernel)⟩
set_option maxRecDepth 100000 in
theorem z_ok_90 : z_OK (yX11_night, cX11_night, 2, (some .int), false, zo_X11_night, zc_X11_night, 11, 2) := ⟨11, false, rfl, fun h => absurd h (by decide), z_okl (by decide +kernel)⟩
set_option maxRecDepth 100000 in
theorem z_ok_91 : z_OK (yX11_placed, cX11_placed, 4, (some .int), false, zo_X11_placed, zc_X11_placed, 11, 3) := ⟨11, false, rfl, fun h => absurd h (by decide), z_okl (by decide +kernel)⟩
set_option maxRecDepth 100000 in
theorem z_ok_92 : z_OK (yX11_change, cX11_change, 6, (some .int), false, zo_X11_change, zc_X11_change, 11, 1) := ⟨11, false, rfl, fun h => absurd h (by decide), z_okl (by decide +kernel)⟩
set_option maxRecDepth 100000 in
theorem z_ok_93 : z_OK (yX11_logs, cX11_logs, 8, (some .int), false, zo_X11_logs, zc_X11_logs, 11, 3) := ⟨11, false, rfl, fun h => absurd h (by decide), z_okl (by decide +kernel)⟩
set_option maxRecDepth 100000 in
theorem z_ok_94 : z_OK (yX11_see, cX11_see, 4, (some .int), false, zo_X11_see, zc_X11_see, 11, 4) := ⟨11, false, rfl, fun h => absurd h (by decide), z_okl (by decide +kernel)⟩
set_option maxRecDepth 100000 in
theorem z_ok_95 : z_OK (yX11_wets, cX11_wets, 6, (some .int), false, zo_X11_wets, zc_X11_wets, 11, 3) := ⟨11, false, rfl, fun h => absurd h (by decide), z_okl (by decide +kernel)⟩
set_option maxRecDepth 100000 in
theorem z_ok_96 : z_OK (yX11_can, cX11_can, 6, (some .int), false, zo_X11_can, zc_X11_can, 11, 3) := ⟨11, false, rfl, fun h => absurd h (by decide), z_okl (by decide +kernel)⟩
set_option maxRecDepth 100000 in
theorem z_ok_97 : z_OK (yX11_where, cX11_where, 4, (some .int), false, zo_X11_where, zc_X11_where, 11, 2) := ⟨11, false, rfl, fun h => absurd h (by decide), z_okl (by decide +kernel)⟩
set_option maxRecDepth 100000 in
theorem z_ok_98 : z_OK (yX11_odds, cX11_odds, 9, (some .long), false, zo_X11_odds, zc_X11_odds, 11, 4) := ⟨11, false, rfl, fun h => absurd h (by decide), z_okl (by decide +kernel)⟩
set_option maxRecDepth 100000 in
theorem z_ok_99 : z_OK (yX11_mean, cX11_mean, 5, (some .long), false, zo_X11_mean, zc_X11_mean, 11, 3) := ⟨11, false, rfl, fun h => absurd h (by decide), z_okl (by decide +kernel)⟩
set_option maxRecDepth 100000 in
theorem z_ok_100 : z_OK (yX11_rota, cX11_rota, 4, (some .int), false, zo_X11_rota, zc_X11_rota, 11, 3) := ⟨11, false, rfl, fun h => absurd h (by decide), z_okl (by decide +kernel)⟩
set_option maxRecDepth 100000 in
theorem z_ok_101 : z_OK (yX11_ends, cX11_ends, 3, (some .int), false, zo_X11_ends, zc_X11_ends, 11, 2) := ⟨11, false, rfl, fun h => absurd h (by decide), z_okl (by decide +kernel)⟩
set_option maxRecDepth 100000 in
theorem z_ok_102 : z_OK (yX11_book, cX11_book, 3, (some .int), false, zo_X11_book, zc_X11_book, 11, 3) := ⟨11, false, rfl, fun h => absurd h (by decide), z_okl (by decide +kernel)⟩
set_option maxRecDepth 100000 in
theorem z_ok_103 : z_OK (yX11_looked, cX11_looked, 3, (some .int), false, zo_X11_looked, zc_X11_looked, 11, 1) := ⟨11, false, rfl, fun h => absurd h (by decide), z_okl (by decide +kernel)⟩
set_option maxRecDepth 100000 in
theorem z_ok_104 : z_OK (yX11_judge, cX11_judge, 5, (some .int), false, zo_X11_judge, zc_X11_judge, 11, 3) := ⟨11, false, rfl, fun h => absurd h (by decide), z_okl (by decide +kernel)⟩
set_option maxRecDepth 100000 in
theorem z_ok_105 : z_OK (yX11_image, cX11_image, 1, (some .int), false, zo_X11_image, zc_X11_image, 11, 1) := ⟨11, false, rfl, fun h => absurd h (by decide), z_okl (by decide +kernel)⟩
set_option maxRecDepth 100000 in
theorem z_ok_106 : z_OK (yX11_undo, cX11_undo, 1, (some .int), false, zo_X11_undo, zc_X11_undo, 11, 1) := ⟨11, false, rfl, fun h => absurd h (by decide), z_okl (by decide +kernel)⟩
set_option maxRecDepth 100000 in
theorem z_ok_107 : z_OK (yX11_act, cX11_act, 4, (some .int), false, zo_X11_act, zc_X11_act, 11, 4) := ⟨11, false, rfl, fun h => absurd h (by decide), z_okl (by decide +kernel)⟩
set_option maxRecDepth 100000 in
theorem z_ok_108 : z_OK (yX11_trace, cX11_trace, 2, (some .int), false, zo_X11_trace, zc_X11_trace, 11, 2) := ⟨11, false, rfl, fun h => absurd h (by decide), z_okl (by decide +kernel)⟩
set_option maxRecDepth 100000 in
theorem z_ok_109 : z_OK (yX11_taken, cX11_taken, 4, (some .int), false, zo_X11_taken, zc_X11_taken, 11, 3) := ⟨11, false, rfl, fun h => absurd h (by decide), z_okl (by decide +kernel)⟩
set_option maxRecDepth 100000 in
theorem z_ok_110 : z_OK (yX11_count, cX11_count, 2, (some .int), false, zo_X11_count, zc_X11_count, 11, 2) := ⟨11, false, rfl, fun h => absurd h (by decide), z_okl (by decide +kernel)⟩
set_option maxRecDepth 100000 in
theorem z_ok_111 : z_OK (yX11_tape, cX11_tape, 4, (some .int), false, zo_X11_tape, zc_X11_tape, 11, 4) := ⟨11, false, rfl, fun h => absurd h (by decide), z_okl (by decide +kernel)⟩
set_option maxRecDepth 100000 in
theorem z_ok_112 : z_OK (yX11_item, cX11_item, 6, (some .int), false, zo_X11_item, zc_X11_item, 11, 4) := ⟨11, false, rfl, fun h => absurd h (by decide), z_okl (by decide +kernel)⟩
set_option maxRecDepth 100000 in
theorem z_ok_113 : z_OK (yX11_read, cX11_read, 4, (some .long), false, zo_X11_read, zc_X11_read, 11, 3) := ⟨11, false, rfl, fun h => absurd h (by decide), z_okl (by decide +kernel)⟩
set_option maxRecDepth 100000 in
theorem z_ok_114 : z_OK (yX11_shift, cX11_shift, 8, (some .int), false, zo_X11_shift, zc_X11_shift, 11, 6) := ⟨11, false, rfl, fun h => absurd h (by decide), z_okl (by decide +kernel)⟩
set_option maxRecDepth 100000 in
theorem z_ok_115 : z_OK (yX11_outside, cX11_outside, 2, (some .boolean), true, zo_X11_outside, zc_X11_outside, 0, 2) := ⟨11, false, rfl, fun h => absurd h (by decide), z_okl (by decide +kernel)⟩
set_option maxRecDepth 100000 in
theorem z_ok_116 : z_OK (yX11_noPair, cX11_noPair, 2, (some .boolean), true, zo_X11_noPair, zc_X11_noPair, 11, 2) := ⟨11, false, rfl, fun h => absurd h (by decide), z_okl (by decide +kernel)⟩
set_option maxRecDepth 100000 in
theorem z_ok_117 : z_OK (yX11_tryHours, cX11_tryHours, 2, none, false, zo_X11_tryHours, zc_X11_tryHours, 11, 2) := ⟨11, false, rfl, fun h => absurd h (by decide), z_okl (by decide +kernel)⟩
set_option maxRecDepth 100000 in
theorem z_ok_118 : z_OK (yX11_wetByLogs, cX11_wetByLogs, 4, (some .int), false, zo_X11_wetByLogs, zc_X11_wetByLogs, 11, 3) := ⟨11, false, rfl, fun h => absurd h (by decide), z_okl (by decide +kernel)⟩
set_option maxRecDepth 100000 in
theorem z_ok_119 : z_OK (yX11_courseIsAsSeen, cX11_courseIsAsSeen, 6, (some .boolean), true, zo_X11_courseIsAsSeen, zc_X11_courseIsAsSeen, 11, 1) := ⟨11, false, rfl, fun h => absurd h (by decide), z_okl (by decide +kernel)⟩
set_option maxRecDepth 100000 in
theorem z_ok_120 : z_OK (yX11_allIsAsSeenWith, cX11_allIsAsSeenWith, 8, (some .boolean), true, zo_X11_allIsAsSeenWith, zc_X11_allIsAsSeenWith, 11, 3) := ⟨11, false, rfl, fun h => absurd h (by decide), z_okl (by decide +kernel)⟩
set_option maxRecDepth 100000 in
theorem z_ok_121 : z_OK (yX11_partOfFraction, cX11_partOfFraction, 4, (some .long), false, zo_X11_partOfFraction, zc_X11_partOfFraction, 0, 3) := ⟨11, false, rfl, fun h => absurd h (by decide), z_okl (by decide +kernel)⟩
set_option maxRecDepth 100000 in
theorem z_ok_122 : z_OK (yX11_commonDivisor, cX11_commonDivisor, 6, (some .int), false, zo_X11_commonDivisor, zc_X11_commonDivisor, 0, 2) := ⟨11, false, rfl, fun h => absurd h (by decide), z_okl (by decide +kernel)⟩
