set_option maxRecDepth 100000 in
theorem z_ok_123 : z_OK (yX12_init, cX12_init, 1, none, false, zo_X12_init, zc_X12_init, 12, 1) := ⟨12, true, rfl, fun h => rfl, z_okl (by decide +kernel)⟩
set_option maxRecDepth 100000 in
theorem z_ok_124 : z_OK (yX12_in, cX12_in, 4, (some .boolean), true, zo_X12_in, zc_X12_in, 12, 4) := ⟨12, false, rfl, fun h => absurd h (by decide), z_okl (by decide +kernel)⟩
set_option maxRecDepth 100000 in
theorem z_ok_125 : z_OK (yX12_has, cX12_has, 3, (some .boolean), true, zo_X12_has, zc_X12_has, 12, 3) := ⟨12, false, rfl, fun h => absurd h (by decide), z_okl (by decide +kernel)⟩
set_option maxRecDepth 100000 in
theorem z_ok_126 : z_OK (yX12_least, cX12_least, 3, (some .int), false, zo_X12_least, zc_X12_least, 12, 3) := ⟨12, false, rfl, fun h => absurd h (by decide), z_okl (by decide +kernel)⟩
set_option maxRecDepth 100000 in
theorem z_ok_127 : z_OK (yX12_atLeast0, cX12_atLeast0, 2, (some .int), false, zo_X12_atLeast0, zc_X12_atLeast0, 12, 2) := ⟨12, false, rfl, fun h => absurd h (by decide), z_okl (by decide +kernel)⟩
set_option maxRecDepth 100000 in
theorem z_ok_128 : z_OK (yX12_bits, cX12_bits, 4, (some .int), false, zo_X12_bits, zc_X12_bits, 12, 2) := ⟨12, false, rfl, fun h => absurd h (by decide), z_okl (by decide +kernel)⟩
set_option maxRecDepth 100000 in
theorem z_ok_129 : z_OK (yX12_isPair, cX12_isPair, 2, (some .boolean), true, zo_X12_isPair, zc_X12_isPair, 12, 2) := ⟨12, false, rfl, fun h => absurd h (by decide), z_okl (by decide +kernel)⟩
set_option maxRecDepth 100000 in
theorem z_ok_130 : z_OK (yX12_isPlace, cX12_isPlace, 2, (some .boolean), true, zo_X12_isPlace, zc_X12_isPlace, 12, 2) := ⟨12, false, rfl, fun h => absurd h (by decide), z_okl (by decide +kernel)⟩
set_option maxRecDepth 100000 in
theorem z_ok_131 : z_OK (yX12_isWet, cX12_isWet, 2, (some .boolean), true, zo_X12_isWet, zc_X12_isWet, 12, 2) := ⟨12, false, rfl, fun h => absurd h (by decide), z_okl (by decide +kernel)⟩
set_option maxRecDepth 100000 in
theorem z_ok_132 : z_OK (yX12_isHours, cX12_isHours, 2, (some .boolean), true, zo_X12_isHours, zc_X12_isHours, 12, 2) := ⟨12, false, rfl, fun h => absurd h (by decide), z_okl (by decide +kernel)⟩
set_option maxRecDepth 100000 in
theorem z_ok_133 : z_OK (yX12_whoIs, cX12_whoIs, 3, (some .int), false, zo_X12_whoIs, zc_X12_whoIs, 12, 2) := ⟨12, false, rfl, fun h => absurd h (by decide), z_okl (by decide +kernel)⟩
set_option maxRecDepth 100000 in
theorem z_ok_134 : z_OK (yX12_pair, cX12_pair, 6, (some .int), false, zo_X12_pair, zc_X12_pair, 12, 4) := ⟨12, false, rfl, fun h => absurd h (by decide), z_okl (by decide +kernel)⟩
set_option maxRecDepth 100000 in
theorem z_ok_135 : z_OK (yX12_wet, cX12_wet, 4, (some .int), false, zo_X12_wet, zc_X12_wet, 12, 3) := ⟨12, false, rfl, fun h => absurd h (by decide), z_okl (by decide +kernel)⟩
set_option maxRecDepth 100000 in
theorem z_ok_136 : z_OK (yX12_comesTo, cX12_comesTo, 4, none, false, zo_X12_comesTo, zc_X12_comesTo, 12, 3) := ⟨12, false, rfl, fun h => absurd h (by decide), z_okl (by decide +kernel)⟩
set_option maxRecDepth 100000 in
theorem z_ok_137 : z_OK (yX12_put, cX12_put, 4, (some .int), false, zo_X12_put, zc_X12_put, 12, 3) := ⟨12, false, rfl, fun h => absurd h (by decide), z_okl (by decide +kernel)⟩
set_option maxRecDepth 100000 in
theorem z_ok_138 : z_OK (yX12_goes, cX12_goes, 3, none, false, zo_X12_goes, zc_X12_goes, 12, 3) := ⟨12, false, rfl, fun h => absurd h (by decide), z_okl (by decide +kernel)⟩
set_option maxRecDepth 100000 in
theorem z_ok_139 : z_OK (yX12_take, cX12_take, 4, (some .int), false, zo_X12_take, zc_X12_take, 12, 3) := ⟨12, false, rfl, fun h => absurd h (by decide), z_okl (by decide +kernel)⟩
set_option maxRecDepth 100000 in
theorem z_ok_140 : z_OK (yX12_set, cX12_set, 4, (some .int), false, zo_X12_set, zc_X12_set, 12, 3) := ⟨12, false, rfl, fun h => absurd h (by decide), z_okl (by decide +kernel)⟩
set_option maxRecDepth 100000 in
theorem z_ok_141 : z_OK (yX12_row, cX12_row, 5, (some .int), false, zo_X12_row, zc_X12_row, 12, 4) := ⟨12, false, rfl, fun h => absurd h (by decide), z_okl (by decide +kernel)⟩
set_option maxRecDepth 100000 in
theorem z_ok_142 : z_OK (yX12_feed, cX12_feed, 2, (some .int), false, zo_X12_feed, zc_X12_feed, 12, 2) := ⟨12, false, rfl, fun h => absurd h (by decide), z_okl (by decide +kernel)⟩
set_option maxRecDepth 100000 in
theorem z_ok_143 : z_OK (yX12_next, cX12_next, 1, (some .int), false, zo_X12_next, zc_X12_next, 12, 1) := ⟨12, false, rfl, fun h => absurd h (by decide), z_okl (by decide +kernel)⟩
set_option maxRecDepth 100000 in
theorem z_ok_144 : z_OK (yX12_second, cX12_second, 1, (some .int), false, zo_X12_second, zc_X12_second, 12, 1) := ⟨12, false, rfl, fun h => absurd h (by decide), z_okl (by decide +kernel)⟩
set_option maxRecDepth 100000 in
theorem z_ok_145 : z_OK (yX12_takes, cX12_takes, 2, (some .boolean), true, zo_X12_takes, zc_X12_takes, 12, 2) := ⟨12, false, rfl, fun h => absurd h (by decide), z_okl (by decide +kernel)⟩
set_option maxRecDepth 100000 in
theorem z_ok_146 : z_OK (yX12_takesWord, cX12_takesWord, 4, (some .boolean), true, zo_X12_takesWord, zc_X12_takesWord, 12, 3) := ⟨12, false, rfl, fun h => absurd h (by decide), z_okl (by decide +kernel)⟩
set_option maxRecDepth 100000 in
theorem z_ok_147 : z_OK (yX12_isDigit, cX12_isDigit, 1, (some .boolean), true, zo_X12_isDigit, zc_X12_isDigit, 12, 1) := ⟨12, false, rfl, fun h => absurd h (by decide), z_okl (by decide +kernel)⟩
set_option maxRecDepth 100000 in
theorem z_ok_148 : z_OK (yX12_takesNumber, cX12_takesNumber, 2, (some .boolean), true, zo_X12_takesNumber, zc_X12_takesNumber, 12, 1) := ⟨12, false, rfl, fun h => absurd h (by decide), z_okl (by decide +kernel)⟩
set_option maxRecDepth 100000 in
theorem z_ok_149 : z_OK (yX12_emits, cX12_emits, 2, none, false, zo_X12_emits, zc_X12_emits, 12, 2) := ⟨12, false, rfl, fun h => absurd h (by decide), z_okl (by decide +kernel)⟩
set_option maxRecDepth 100000 in
theorem z_ok_150 : z_OK (yX12_whole, cX12_whole, 1, none, false, zo_X12_whole, zc_X12_whole, 12, 1) := ⟨12, false, rfl, fun h => absurd h (by decide), z_okl (by decide +kernel)⟩
set_option maxRecDepth 100000 in
theorem z_ok_151 : z_OK (yX12_settle, cX12_settle, 2, none, false, zo_X12_settle, zc_X12_settle, 12, 2) := ⟨12, false, rfl, fun h => absurd h (by decide), z_okl (by decide +kernel)⟩
set_option maxRecDepth 100000 in
theorem z_ok_152 : z_OK (yX12_place, cX12_place, 2, (some .int), false, zo_X12_place, zc_X12_place, 12, 2) := ⟨12, false, rfl, fun h => absurd h (by decide), z_okl (by decide +kernel)⟩
set_option maxRecDepth 100000 in
theorem z_ok_153 : z_OK (yX12_takesTest, cX12_takesTest, 3, (some .boolean), true, zo_X12_takesTest, zc_X12_takesTest, 12, 1) := ⟨12, false, rfl, fun h => absurd h (by decide), z_okl (by decide +kernel)⟩
set_option maxRecDepth 100000 in
theorem z_ok_154 : z_OK (yX12_takesE, cX12_takesE, 4, (some .boolean), true, zo_X12_takesE, zc_X12_takesE, 12, 2) := ⟨12, false, rfl, fun h => absurd h (by decide), z_okl (by decide +kernel)⟩
set_option maxRecDepth 100000 in
theorem z_ok_155 : z_OK (yX12_takesHead, cX12_takesHead, 2, (some .boolean), true, zo_X12_takesHead, zc_X12_takesHead, 12, 2) := ⟨12, false, rfl, fun h => absurd h (by decide), z_okl (by decide +kernel)⟩
set_option maxRecDepth 100000 in
theorem z_ok_156 : z_OK (yX12_takesClause, cX12_takesClause, 2, (some .boolean), true, zo_X12_takesClause, zc_X12_takesClause, 12, 2) := ⟨12, false, rfl, fun h => absurd h (by decide), z_okl (by decide +kernel)⟩
set_option maxRecDepth 100000 in
theorem z_ok_157 : z_OK (yX12_goesText, cX12_goesText, 3, (some .boolean), true, zo_X12_goesText, zc_X12_goesText, 12, 2) := ⟨12, false, rfl, fun h => absurd h (by decide), z_okl (by decide +kernel)⟩
set_option maxRecDepth 100000 in
theorem z_ok_158 : z_OK (yX12_hut, cX12_hut, 2, (some .int), false, zo_X12_hut, zc_X12_hut, 12, 1) := ⟨12, false, rfl, fun h => absurd h (by decide), z_okl (by decide +kernel)⟩
set_option maxRecDepth 100000 in
theorem z_ok_159 : z_OK (yX12_begin, cX12_begin, 1, (some .int), false, zo_X12_begin, zc_X12_begin, 12, 1) := ⟨12, false, rfl, fun h => absurd h (by decide), z_okl (by decide +kernel)⟩
set_option maxRecDepth 100000 in
theorem z_ok_160 : z_OK (yX12_behind, cX12_behind, 1, (some .int), false, zo_X12_behind, zc_X12_behind, 12, 1) := ⟨12, false, rfl, fun h => absurd h (by decide), z_okl (by decide +kernel)⟩
set_option maxRecDepth 100000 in
theorem z_ok_161 : z_OK (yX12_lastOf, cX12_lastOf, 5, (some .int), false, zo_X12_lastOf, zc_X12_lastOf, 12, 3) := ⟨12, false, rfl, fun h => absurd h (by decide), z_okl (by decide +kernel)⟩
set_option maxRecDepth 100000 in
theorem z_ok_162 : z_OK (yX12_factOf, cX12_factOf, 4, (some .int), false, zo_X12_factOf, zc_X12_factOf, 12, 4) := ⟨12, false, rfl, fun h => absurd h (by decide), z_okl (by decide +kernel)⟩
set_option maxRecDepth 100000 in
theorem z_ok_163 : z_OK (yX12_holds, cX12_holds, 9, (some .boolean), true, zo_X12_holds, zc_X12_holds, 12, 4) := ⟨12, false, rfl, fun h => absurd h (by decide), z_okl (by decide +kernel)⟩
set_option maxRecDepth 100000 in
theorem z_ok_164 : z_OK (yX12_warm, cX12_warm, 2, (some .int), false, zo_X12_warm, zc_X12_warm, 12, 2) := ⟨12, false, rfl, fun h => absurd h (by decide), z_okl (by decide +kernel)⟩
set_option maxRecDepth 100000 in
theorem z_ok_165 : z_OK (yX12_sum, cX12_sum, 5, (some .int), false, zo_X12_sum, zc_X12_sum, 12, 3) := ⟨12, false, rfl, fun h => absurd h (by decide), z_okl (by decide +kernel)⟩
set_option maxRecDepth 100000 in
theorem z_ok_166 : z_OK (yX12_plainDries, cX12_plainDries, 6, (some .int), false, zo_X12_plainDries, zc_X12_plainDries, 12, 3) := ⟨12, false, rfl, fun h => absurd h (by decide), z_okl (by decide +kernel)⟩
set_option maxRecDepth 100000 in
theorem z_ok_167 : z_OK (yX12_dries, cX12_dries, 3, (some .int), false, zo_X12_dries, zc_X12_dries, 12, 3) := ⟨12, false, rfl, fun h => absurd h (by decide), z_okl (by decide +kernel)⟩
set_option maxRecDepth 100000 in
theorem z_ok_168 : z_OK (yX12_spoils, cX12_spoils, 2, (some .boolean), true, zo_X12_spoils, zc_X12_spoils, 12, 2) := ⟨12, false, rfl, fun h => absurd h (by decide), z_okl (by decide +kernel)⟩
set_option maxRecDepth 100000 in
theorem z_ok_169 : z_OK (yX12_of, cX12_of, 3, (some .int), false, zo_X12_of, zc_X12_of, 12, 3) := ⟨12, false, rfl, fun h => absurd h (by decide), z_okl (by decide +kernel)⟩
set_option maxRecDepth 100000 in
theorem z_ok_170 : z_OK (yX12_wetHere, cX12_wetHere, 3, (some .int), false, zo_X12_wetHere, zc_X12_wetHere, 12, 1) := ⟨12, false, rfl, fun h => absurd h (by decide), z_okl (by decide +kernel)⟩
set_option maxRecDepth 100000 in
theorem z_ok_171 : z_OK (yX12_wetAll, cX12_wetAll, 3, (some .int), false, zo_X12_wetAll, zc_X12_wetAll, 12, 1) := ⟨12, false, rfl, fun h => absurd h (by decide), z_okl (by decide +kernel)⟩
set_option maxRecDepth 100000 in
theorem z_ok_172 : z_OK (yX12_allCracks, cX12_allCracks, 3, (some .int), false, zo_X12_allCracks, zc_X12_allCracks, 12, 1) := ⟨12, false, rfl, fun h => absurd h (by decide), z_okl (by decide +kernel)⟩
set_option maxRecDepth 100000 in
theorem z_ok_173 : z_OK (yX12_drySet, cX12_drySet, 3, (some .int), false, zo_X12_drySet, zc_X12_drySet, 12, 1) := ⟨12, false, rfl, fun h => absurd h (by decide), z_okl (by decide +kernel)⟩
set_option maxRecDepth 100000 in
theorem z_ok_174 : z_OK (yX12_told, cX12_told, 2, (some .int), false, zo_X12_told, zc_X12_told, 12, 2) := ⟨12, false, rfl, fun h => absurd h (by decide), z_okl (by decide +kernel)⟩
set_option maxRecDepth 100000 in
theorem z_ok_175 : z_OK (yX12_goHour, cX12_goHour, 3, none, false, zo_X12_goHour, zc_X12_goHour, 12, 1) := ⟨12, false, rfl, fun h => absurd h (by decide), z_okl (by decide +kernel)⟩
set_option maxRecDepth 100000 in
theorem z_ok_176 : z_OK (yX12_goHours, cX12_goHours, 3, none, false, zo_X12_goHours, zc_X12_goHours, 12, 2) := ⟨12, false, rfl, fun h => absurd h (by decide), z_okl (by decide +kernel)⟩
set_option maxRecDepth 100000 in
theorem z_ok_177 : z_OK (yX12_stokes, cX12_stokes, 1, none, false, zo_X12_stokes, zc_X12_stokes, 12, 1) := ⟨12, false, rfl, fun h => absurd h (by decide), z_okl (by decide +kernel)⟩
set_option maxRecDepth 100000 in
theorem z_ok_178 : z_OK (yX12_stoke, cX12_stoke, 1, (some .int), false, zo_X12_stoke, zc_X12_stoke, 12, 1) := ⟨12, false, rfl, fun h => absurd h (by decide), z_okl (by decide +kernel)⟩
set_option maxRecDepth 100000 in
theorem z_ok_179 : z_OK (yX12_pass, cX12_pass, 2, (some .int), false, zo_X12_pass, zc_X12_pass, 12, 2) := ⟨12, false, rfl, fun h => absurd h (by decide), z_okl (by decide +kernel)⟩
set_option maxRecDepth 100000 in
theorem z_ok_180 : z_OK (yX12_save, cX12_save, 2, none, false, zo_X12_save, zc_X12_save, 12, 1) := ⟨12, false, rfl, fun h => absurd h (by decide), z_okl (by decide +kernel)⟩
set_option maxRecDepth 100000 in
theorem z_ok_181 : z_OK (yX12_putBack, cX12_putBack, 2, none, false, zo_X12_putBack, zc_X12_putBack, 12, 1) := ⟨12, false, rfl, fun h => absurd h (by decide), z_okl (by decide +kernel)⟩
set_option maxRecDepth 100000 in
theorem z_ok_182 : z_OK (yX12_on, cX12_on, 4, (some .int), false, zo_X12_on, zc_X12_on, 12, 3) := ⟨12, false, rfl, fun h => absurd h (by decide), z_okl (by decide +kernel)⟩
set_option maxRecDepth 100000 in
theorem z_ok_183 : z_OK (yX12_done, cX12_done, 3, (some .int), false, zo_X12_done, zc_X12_done, 12, 2) := ⟨12, false, rfl, fun h => absurd h (by decide), z_okl (by decide +kernel)⟩
set_option maxRecDepth 100000 in
theorem z_ok_184 : z_OK (yX12_night, cX12_night, 3, (some .int), false, zo_X12_night, zc_X12_night, 12, 2) := ⟨12, false, rfl, fun h => absurd h (by decide), z_okl (by decide +kernel)⟩
set_option maxRecDepth 100000 in
theorem z_ok_185 : z_OK (yX12_layWets, cX12_layWets, 4, none, false, zo_X12_layWets, zc_X12_layWets, 12, 2) := ⟨12, false, rfl, fun h => absurd h (by decide), z_okl (by decide +kernel)⟩
set_option maxRecDepth 100000 in
theorem z_ok_186 : z_OK (yX12_layPlaces, cX12_layPlaces, 5, (some .boolean), true, zo_X12_layPlaces, zc_X12_layPlaces, 12, 2) := ⟨12, false, rfl, fun h => absurd h (by decide), z_okl (by decide +kernel)⟩
set_option maxRecDepth 100000 in
theorem z_ok_187 : z_OK (yX12_layBest, cX12_layBest, 8, none, false, zo_X12_layBest, zc_X12_layBest, 12, 2) := ⟨12, false, rfl, fun h => absurd h (by decide), z_okl (by decide +kernel)⟩
set_option maxRecDepth 100000 in
theorem z_ok_188 : z_OK (yX12_placed, cX12_placed, 3, (some .int), false, zo_X12_placed, zc_X12_placed, 12, 3) := ⟨12, false, rfl, fun h => absurd h (by decide), z_okl (by decide +kernel)⟩
set_option maxRecDepth 100000 in
theorem z_ok_189 : z_OK (yX12_wetBy, cX12_wetBy, 6, (some .int), false, zo_X12_wetBy, zc_X12_wetBy, 12, 3) := ⟨12, false, rfl, fun h => absurd h (by decide), z_okl (by decide +kernel)⟩
set_option maxRecDepth 100000 in
theorem z_ok_190 : z_OK (yX12_change, cX12_change, 6, (some .int), false, zo_X12_change, zc_X12_change, 12, 1) := ⟨12, false, rfl, fun h => absurd h (by decide), z_okl (by decide +kernel)⟩
set_option maxRecDepth 100000 in
theorem z_ok_191 : z_OK (yX12_wetStoked, cX12_wetStoked, 4, (some .int), false, zo_X12_wetStoked, zc_X12_wetStoked, 12, 3) := ⟨12, false, rfl, fun h => absurd h (by decide), z_okl (by decide +kernel)⟩
set_option maxRecDepth 100000 in
theorem z_ok_192 : z_OK (yX12_logs, cX12_logs, 7, (some .int), false, zo_X12_logs, zc_X12_logs, 12, 3) := ⟨12, false, rfl, fun h => absurd h (by decide), z_okl (by decide +kernel)⟩
set_option maxRecDepth 100000 in
theorem z_ok_193 : z_OK (yX12_see, cX12_see, 4, (some .int), false, zo_X12_see, zc_X12_see, 12, 4) := ⟨12, false, rfl, fun h => absurd h (by decide), z_okl (by decide +kernel)⟩
set_option maxRecDepth 100000 in
theorem z_ok_194 : z_OK (yX12_isSeen, cX12_isSeen, 4, (some .boolean), true, zo_X12_isSeen, zc_X12_isSeen, 12, 2) := ⟨12, false, rfl, fun h => absurd h (by decide), z_okl (by decide +kernel)⟩
set_option maxRecDepth 100000 in
theorem z_ok_195 : z_OK (yX12_wets, cX12_wets, 7, (some .int), false, zo_X12_wets, zc_X12_wets, 12, 3) := ⟨12, false, rfl, fun h => absurd h (by decide), z_okl (by decide +kernel)⟩
set_option maxRecDepth 100000 in
theorem z_ok_196 : z_OK (yX12_can, cX12_can, 7, (some .int), false, zo_X12_can, zc_X12_can, 12, 3) := ⟨12, false, rfl, fun h => absurd h (by decide), z_okl (by decide +kernel)⟩
set_option maxRecDepth 100000 in
theorem z_ok_197 : z_OK (yX12_where, cX12_where, 5, (some .int), false, zo_X12_where, zc_X12_where, 12, 2) := ⟨12, false, rfl, fun h => absurd h (by decide), z_okl (by decide +kernel)⟩
set_option maxRecDepth 100000 in
theorem z_ok_198 : z_OK (yX12_divisor, cX12_divisor, 6, (some .int), false, zo_X12_divisor, zc_X12_divisor, 12, 3) := ⟨12, false, rfl, fun h => absurd h (by decide), z_okl (by decide +kernel)⟩
set_option maxRecDepth 100000 in
theorem z_ok_199 : z_OK (yX12_lowest, cX12_lowest, 5, (some .long), false, zo_X12_lowest, zc_X12_lowest, 12, 4) := ⟨12, false, rfl, fun h => absurd h (by decide), z_okl (by decide +kernel)⟩
set_option maxRecDepth 100000 in
theorem z_ok_200 : z_OK (yX12_odds, cX12_odds, 6, (some .long), false, zo_X12_odds, zc_X12_odds, 12, 4) := ⟨12, false, rfl, fun h => absurd h (by decide), z_okl (by decide +kernel)⟩
set_option maxRecDepth 100000 in
theorem z_ok_201 : z_OK (yX12_mean, cX12_mean, 4, (some .long), false, zo_X12_mean, zc_X12_mean, 12, 3) := ⟨12, false, rfl, fun h => absurd h (by decide), z_okl (by decide +kernel)⟩
set_option maxRecDepth 100000 in
theorem z_ok_202 : z_OK (yX12_rota, cX12_rota, 3, (some .int), false, zo_X12_rota, zc_X12_rota, 12, 3) := ⟨12, false, rfl, fun h => absurd h (by decide), z_okl (by decide +kernel)⟩
set_option maxRecDepth 100000 in
theorem z_ok_203 : z_OK (yX12_goRota, cX12_goRota, 3, none, false, zo_X12_goRota, zc_X12_goRota, 12, 3) := ⟨12, false, rfl, fun h => absurd h (by decide), z_okl (by decide +kernel)⟩
set_option maxRecDepth 100000 in
theorem z_ok_204 : z_OK (yX12_ends, cX12_ends, 3, (some .int), false, zo_X12_ends, zc_X12_ends, 12, 2) := ⟨12, false, rfl, fun h => absurd h (by decide), z_okl (by decide +kernel)⟩
set_option maxRecDepth 100000 in
theorem z_ok_205 : z_OK (yX12_book, cX12_book, 3, (some .int), false, zo_X12_book, zc_X12_book, 12, 3) := ⟨12, false, rfl, fun h => absurd h (by decide), z_okl (by decide +kernel)⟩
set_option maxRecDepth 100000 in
theorem z_ok_206 : z_OK (yX12_looked, cX12_looked, 2, (some .int), false, zo_X12_looked, zc_X12_looked, 12, 1) := ⟨12, false, rfl, fun h => absurd h (by decide), z_okl (by decide +kernel)⟩
set_option maxRecDepth 100000 in
theorem z_ok_207 : z_OK (yX12_judge, cX12_judge, 4, (some .int), false, zo_X12_judge, zc_X12_judge, 12, 3) := ⟨12, false, rfl, fun h => absurd h (by decide), z_okl (by decide +kernel)⟩
set_option maxRecDepth 100000 in
theorem z_ok_208 : z_OK (yX12_image, cX12_image, 2, (some .int), false, zo_X12_image, zc_X12_image, 12, 1) := ⟨12, false, rfl, fun h => absurd h (by decide), z_okl (by decide +kernel)⟩
set_option maxRecDepth 100000 in
theorem z_ok_209 : z_OK (yX12_undo, cX12_undo, 2, (some .int), false, zo_X12_undo, zc_X12_undo, 12, 1) := ⟨12, false, rfl, fun h => absurd h (by decide), z_okl (by decide +kernel)⟩
set_option maxRecDepth 100000 in
theorem z_ok_210 : z_OK (yX12_body, cX12_body, 2, none, false, zo_X12_body, zc_X12_body, 12, 2) := ⟨12, false, rfl, fun h => absurd h (by decide), z_okl (by decide +kernel)⟩
set_option maxRecDepth 100000 in
theorem z_ok_211 : z_OK (yX12_pairDrips, cX12_pairDrips, 3, (some .int), false, zo_X12_pairDrips, zc_X12_pairDrips, 12, 3) := ⟨12, false, rfl, fun h => absurd h (by decide), z_okl (by decide +kernel)⟩
set_option maxRecDepth 100000 in
theorem z_ok_212 : z_OK (yX12_dripsAct, cX12_dripsAct, 3, (some .int), false, zo_X12_dripsAct, zc_X12_dripsAct, 12, 3) := ⟨12, false, rfl, fun h => absurd h (by decide), z_okl (by decide +kernel)⟩
set_option maxRecDepth 100000 in
theorem z_ok_213 : z_OK (yX12_pairSteams, cX12_pairSteams, 3, (some .int), false, zo_X12_pairSteams, zc_X12_pairSteams, 12, 3) := ⟨12, false, rfl, fun h => absurd h (by decide), z_okl (by decide +kernel)⟩
set_option maxRecDepth 100000 in
theorem z_ok_214 : z_OK (yX12_leatherSteams, cX12_leatherSteams, 3, (some .int), false, zo_X12_leatherSteams, zc_X12_leatherSteams, 12, 3) := ⟨12, false, rfl, fun h => absurd h (by decide), z_okl (by decide +kernel)⟩
set_option maxRecDepth 100000 in
theorem z_ok_215 : z_OK (yX12_steamsAct, cX12_steamsAct, 4, (some .int), false, zo_X12_steamsAct, zc_X12_steamsAct, 12, 3) := ⟨12, false, rfl, fun h => absurd h (by decide), z_okl (by decide +kernel)⟩
set_option maxRecDepth 100000 in
theorem z_ok_216 : z_OK (yX12_pairTells, cX12_pairTells, 3, (some .int), false, zo_X12_pairTells, zc_X12_pairTells, 12, 3) := ⟨12, false, rfl, fun h => absurd h (by decide), z_okl (by decide +kernel)⟩
set_option maxRecDepth 100000 in
theorem z_ok_217 : z_OK (yX12_tellsAct, cX12_tellsAct, 4, (some .int), false, zo_X12_tellsAct, zc_X12_tellsAct, 12, 3) := ⟨12, false, rfl, fun h => absurd h (by decide), z_okl (by decide +kernel)⟩
set_option maxRecDepth 100000 in
theorem z_ok_218 : z_OK (yX12_act, cX12_act, 4, (some .int), false, zo_X12_act, zc_X12_act, 12, 4) := ⟨12, false, rfl, fun h => absurd h (by decide), z_okl (by decide +kernel)⟩
set_option maxRecDepth 100000 in
theorem z_ok_219 : z_OK (yX12_trace, cX12_trace, 2, (some .int), false, zo_X12_trace, zc_X12_trace, 12, 2) := ⟨12, false, rfl, fun h => absurd h (by decide), z_okl (by decide +kernel)⟩
set_option maxRecDepth 100000 in
theorem z_ok_220 : z_OK (yX12_taken, cX12_taken, 4, (some .int), false, zo_X12_taken, zc_X12_taken, 12, 3) := ⟨12, false, rfl, fun h => absurd h (by decide), z_okl (by decide +kernel)⟩
set_option maxRecDepth 100000 in
theorem z_ok_221 : z_OK (yX12_count, cX12_count, 2, (some .int), false, zo_X12_count, zc_X12_count, 12, 2) := ⟨12, false, rfl, fun h => absurd h (by decide), z_okl (by decide +kernel)⟩
set_option maxRecDepth 100000 in
theorem z_ok_222 : z_OK (yX12_isTape, cX12_isTape, 2, (some .boolean), true, zo_X12_isTape, zc_X12_isTape, 12, 2) := ⟨12, false, rfl, fun h => absurd h (by decide), z_okl (by decide +kernel)⟩
set_option maxRecDepth 100000 in
theorem z_ok_223 : z_OK (yX12_tape, cX12_tape, 5, (some .int), false, zo_X12_tape, zc_X12_tape, 12, 4) := ⟨12, false, rfl, fun h => absurd h (by decide), z_okl (by decide +kernel)⟩
set_option maxRecDepth 100000 in
theorem z_ok_224 : z_OK (yX12_narrow, cX12_narrow, 4, (some .long), false, zo_X12_narrow, zc_X12_narrow, 12, 3) := ⟨12, false, rfl, fun h => absurd h (by decide), z_okl (by decide +kernel)⟩
set_option maxRecDepth 100000 in
theorem z_ok_225 : z_OK (yX12_item, cX12_item, 5, (some .int), false, zo_X12_item, zc_X12_item, 12, 4) := ⟨12, false, rfl, fun h => absurd h (by decide), z_okl (by decide +kernel)⟩
set_option maxRecDepth 100000 in
theorem z_ok_226 : z_OK (yX12_read, cX12_read, 3, (some .long), false, zo_X12_read, zc_X12_read, 12, 3) := ⟨12, false, rfl, fun h => absurd h (by decide), z_okl (by decide +kernel)⟩
set_option maxRecDepth 100000 in
theorem z_ok_227 : z_OK (yX12_shift, cX12_shift, 7, (some .int), false, zo_X12_shift, zc_X12_shift, 12, 6) := ⟨12, false, rfl, fun h => absurd h (by decide), z_okl (by decide +kernel)⟩
