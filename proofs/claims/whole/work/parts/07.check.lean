def mi_ (n : Nat) : MethodName × ByteArray × Nat × Option FieldType := cond (Nat.ble 94 n) (cond (Nat.ble 141 n) (cond (Nat.ble 164 n) (cond (Nat.ble 176 n) (cond (Nat.ble 182 n) (cond (Nat.ble 185 n) (cond (Nat.ble 186 n) (cond (Nat.ble 187 n) (cond (Nat.beq n 187) (yL_law, cL_law, 4, (some .boolean)) (yL_law, cL_law, 4, none)) (cond (Nat.beq n 186) (yJ7_fill_53178, cJ7_fill_53178, 4, none) (yL_law, cL_law, 4, none))) (cond (Nat.beq n 185) (yJ7_fill_d0a16, cJ7_fill_d0a16, 5, none) (yL_law, cL_law, 4, none))) (cond (Nat.ble 183 n) (cond (Nat.ble 184 n) (cond (Nat.beq n 184) (yJ13_bitCount_95d88, cJ13_bitCount_95d88, 2, (some .int)) (yL_law, cL_law, 4, none)) (cond (Nat.beq n 183) (yX9_mapping, cX9_mapping, 6, (some .int)) (yL_law, cL_law, 4, none))) (cond (Nat.beq n 182) (yX9_different, cX9_different, 8, (some .int)) (yL_law, cL_law, 4, none)))) (cond (Nat.ble 179 n) (cond (Nat.ble 180 n) (cond (Nat.ble 181 n) (cond (Nat.beq n 181) (yX9_isOneInEitherOrder, cX9_isOneInEitherOrder, 5, (some .boolean)) (yL_law, cL_law, 4, none)) (cond (Nat.beq n 180) (yX9_comesToRest, cX9_comesToRest, 6, (some .boolean)) (yL_law, cL_law, 4, none))) (cond (Nat.beq n 179) (yX9_isTwiceItself, cX9_isTwiceItself, 5, (some .boolean)) (yL_law, cL_law, 4, none))) (cond (Nat.ble 177 n) (cond (Nat.ble 178 n) (cond (Nat.beq n 178) (yX9_maps, cX9_maps, 3, (some .int)) (yL_law, cL_law, 4, none)) (cond (Nat.beq n 177) (yX9_mappings, cX9_mappings, 6, (some .int)) (yL_law, cL_law, 4, none))) (cond (Nat.beq n 176) (yX9_isSame, cX9_isSame, 5, (some .boolean)) (yL_law, cL_law, 4, none))))) (cond (Nat.ble 170 n) (cond (Nat.ble 173 n) (cond (Nat.ble 174 n) (cond (Nat.ble 175 n) (cond (Nat.beq n 175) (yX9_bytes, cX9_bytes, 1, (some .int)) (yL_law, cL_law, 4, none)) (cond (Nat.beq n 174) (yX9_octet, cX9_octet, 2, (some .int)) (yL_law, cL_law, 4, none))) (cond (Nat.beq n 173) (yX9_number, cX9_number, 9, (some .long)) (yL_law, cL_law, 4, none))) (cond (Nat.ble 171 n) (cond (Nat.ble 172 n) (cond (Nat.beq n 172) (yX9_word, cX9_word, 10, (some .int)) (yL_law, cL_law, 4, none)) (cond (Nat.beq n 171) (yX9_words, cX9_words, 3, (some .long)) (yL_law, cL_law, 4, none))) (cond (Nat.beq n 170) (yX9_countAll, cX9_countAll, 7, none) (yL_law, cL_law, 4, none)))) (cond (Nat.ble 167 n) (cond (Nat.ble 168 n) (cond (Nat.ble 169 n) (cond (Nat.beq n 169) (yX9_apart, cX9_apart, 4, (some .int)) (yL_law, cL_law, 4, none)) (cond (Nat.beq n 168) (yX9_same, cX9_same, 3, (some .int)) (yL_law, cL_law, 4, none))) (cond (Nat.beq n 167) (yX9_layWord, cX9_layWord, 5, (some .int)) (yL_law, cL_law, 4, none))) (cond (Nat.ble 165 n) (cond (Nat.ble 166 n) (cond (Nat.beq n 166) (yX9_tellApart, cX9_tellApart, 11, (some .int)) (yL_law, cL_law, 4, none)) (cond (Nat.beq n 165) (yX9_takes, cX9_takes, 3, (some .int)) (yL_law, cL_law, 4, none))) (cond (Nat.beq n 164) (yX9_lead, cX9_lead, 5, (some .int)) (yL_law, cL_law, 4, none)))))) (cond (Nat.ble 152 n) (cond (Nat.ble 158 n) (cond (Nat.ble 161 n) (cond (Nat.ble 162 n) (cond (Nat.ble 163 n) (cond (Nat.beq n 163) (yX9_read, cX9_read, 6, (some .int)) (yL_law, cL_law, 4, none)) (cond (Nat.beq n 162) (yX9_work, cX9_work, 2, none) (yL_law, cL_law, 4, none))) (cond (Nat.beq n 161) (yX9_atom, cX9_atom, 1, none) (yL_law, cL_law, 4, none))) (cond (Nat.ble 159 n) (cond (Nat.ble 160 n) (cond (Nat.beq n 160) (yX9_endAnd, cX9_endAnd, 3, none) (yL_law, cL_law, 4, none)) (cond (Nat.beq n 159) (yX9_endRow, cX9_endRow, 4, none) (yL_law, cL_law, 4, none))) (cond (Nat.beq n 158) (yX9_flush, cX9_flush, 2, none) (yL_law, cL_law, 4, none)))) (cond (Nat.ble 155 n) (cond (Nat.ble 156 n) (cond (Nat.ble 157 n) (cond (Nat.beq n 157) (yX9_push, cX9_push, 1, none) (yL_law, cL_law, 4, none)) (cond (Nat.beq n 156) (yX9_simple, cX9_simple, 5, none) (yL_law, cL_law, 4, none))) (cond (Nat.beq n 155) (yX9_joinIn, cX9_joinIn, 5, none) (yL_law, cL_law, 4, none))) (cond (Nat.ble 153 n) (cond (Nat.ble 154 n) (cond (Nat.beq n 154) (yX9_copy, cX9_copy, 4, none) (yL_law, cL_law, 4, none)) (cond (Nat.beq n 153) (yX9_orOf, cX9_orOf, 1, (some .int)) (yL_law, cL_law, 4, none))) (cond (Nat.beq n 152) (yX9_close, cX9_close, 3, (some .int)) (yL_law, cL_law, 4, none))))) (cond (Nat.ble 146 n) (cond (Nat.ble 149 n) (cond (Nat.ble 150 n) (cond (Nat.ble 151 n) (cond (Nat.beq n 151) (yX9_wrongAt, cX9_wrongAt, 7, (some .int)) (yL_law, cL_law, 4, none)) (cond (Nat.beq n 150) (yX9_isPlain, cX9_isPlain, 2, (some .boolean)) (yL_law, cL_law, 4, none))) (cond (Nat.beq n 149) (yX9_isPost, cX9_isPost, 1, (some .boolean)) (yL_law, cL_law, 4, none))) (cond (Nat.ble 147 n) (cond (Nat.ble 148 n) (cond (Nat.beq n 148) (yX9_at, cX9_at, 2, (some .int)) (yL_law, cL_law, 4, none)) (cond (Nat.beq n 147) (yX9_end, cX9_end, 2, (some .int)) (yL_law, cL_law, 4, none))) (cond (Nat.beq n 146) (yX9_feed, cX9_feed, 8, (some .int)) (yL_law, cL_law, 4, none)))) (cond (Nat.ble 143 n) (cond (Nat.ble 144 n) (cond (Nat.ble 145 n) (cond (Nat.beq n 145) (yX9_join, cX9_join, 5, (some .int)) (yL_law, cL_law, 4, none)) (cond (Nat.beq n 144) (yX9_joinTo, cX9_joinTo, 7, (some .boolean)) (yL_law, cL_law, 4, none))) (cond (Nat.beq n 143) (yX9_often, cX9_often, 7, (some .boolean)) (yL_law, cL_law, 4, none))) (cond (Nat.ble 142 n) (cond (Nat.beq n 142) (yX9_behind, cX9_behind, 9, (some .boolean)) (yL_law, cL_law, 4, none)) (cond (Nat.beq n 141) (yX9_hasAccepting, cX9_hasAccepting, 6, (some .boolean)) (yL_law, cL_law, 4, none))))))) (cond (Nat.ble 117 n) (cond (Nat.ble 129 n) (cond (Nat.ble 135 n) (cond (Nat.ble 138 n) (cond (Nat.ble 139 n) (cond (Nat.ble 140 n) (cond (Nat.beq n 140) (yX9_step, cX9_step, 8, (some .long)) (yL_law, cL_law, 4, none)) (cond (Nat.beq n 139) (yX9_pairs, cX9_pairs, 9, none) (yL_law, cL_law, 4, none))) (cond (Nat.beq n 138) (yX9_isIn, cX9_isIn, 3, (some .boolean)) (yL_law, cL_law, 4, none))) (cond (Nat.ble 136 n) (cond (Nat.ble 137 n) (cond (Nat.beq n 137) (yX9_smaller, cX9_smaller, 4, (some .int)) (yL_law, cL_law, 4, none)) (cond (Nat.beq n 136) (yX9_turn, cX9_turn, 9, (some .boolean)) (yL_law, cL_law, 4, none))) (cond (Nat.beq n 135) (yX9_meet, cX9_meet, 5, (some .int)) (yL_law, cL_law, 4, none)))) (cond (Nat.ble 132 n) (cond (Nat.ble 133 n) (cond (Nat.ble 134 n) (cond (Nat.beq n 134) (yX9_divide, cX9_divide, 6, none) (yL_law, cL_law, 4, none)) (cond (Nat.beq n 133) (yX9_bySplitters, cX9_bySplitters, 5, (some .int)) (yL_law, cL_law, 4, none))) (cond (Nat.beq n 132) (yX9_waits, cX9_waits, 5, (some .boolean)) (yL_law, cL_law, 4, none))) (cond (Nat.ble 130 n) (cond (Nat.ble 131 n) (cond (Nat.beq n 131) (yX9_wait, cX9_wait, 3, none) (yL_law, cL_law, 4, none)) (cond (Nat.beq n 130) (yX9_byRounds, cX9_byRounds, 8, (some .int)) (yL_law, cL_law, 4, none))) (cond (Nat.beq n 129) (yX9_staysWith, cX9_staysWith, 5, (some .boolean)) (yL_law, cL_law, 4, none))))) (cond (Nat.ble 123 n) (cond (Nat.ble 126 n) (cond (Nat.ble 127 n) (cond (Nat.ble 128 n) (cond (Nat.beq n 128) (yX9_order, cX9_order, 2, (some .int)) (yL_law, cL_law, 4, none)) (cond (Nat.beq n 127) (yX9_shrink, cX9_shrink, 5, none) (yL_law, cL_law, 4, none))) (cond (Nat.beq n 126) (yX9_findClasses, cX9_findClasses, 5, none) (yL_law, cL_law, 4, none))) (cond (Nat.ble 124 n) (cond (Nat.ble 125 n) (cond (Nat.beq n 125) (yX9_emptyTable, cX9_emptyTable, 2, none) (yL_law, cL_law, 4, none)) (cond (Nat.beq n 124) (yX9_paired, cX9_paired, 5, (some .int)) (yL_law, cL_law, 4, none))) (cond (Nat.beq n 123) (yX9_drop, cX9_drop, 4, (some .boolean)) (yL_law, cL_law, 4, none)))) (cond (Nat.ble 120 n) (cond (Nat.ble 121 n) (cond (Nat.ble 122 n) (cond (Nat.beq n 122) (yX9_lift, cX9_lift, 5, none) (yL_law, cL_law, 4, none)) (cond (Nat.beq n 121) (yX9_to, cX9_to, 4, (some .int)) (yL_law, cL_law, 4, none))) (cond (Nat.beq n 120) (yX9_about, cX9_about, 5, (some .int)) (yL_law, cL_law, 4, none))) (cond (Nat.ble 118 n) (cond (Nat.ble 119 n) (cond (Nat.beq n 119) (yX9_start, cX9_start, 4, (some .int)) (yL_law, cL_law, 4, none)) (cond (Nat.beq n 118) (yX9_accept, cX9_accept, 5, (some .int)) (yL_law, cL_law, 4, none))) (cond (Nat.beq n 117) (yX9_edge, cX9_edge, 6, (some .int)) (yL_law, cL_law, 4, none)))))) (cond (Nat.ble 105 n) (cond (Nat.ble 111 n) (cond (Nat.ble 114 n) (cond (Nat.ble 115 n) (cond (Nat.ble 116 n) (cond (Nat.beq n 116) (yX9_isState, cX9_isState, 3, (some .boolean)) (yL_law, cL_law, 4, none)) (cond (Nat.beq n 115) (yX9_make, cX9_make, 6, (some .int)) (yL_law, cL_law, 4, none))) (cond (Nat.beq n 114) (yX9_isSlot, cX9_isSlot, 1, (some .boolean)) (yL_law, cL_law, 4, none))) (cond (Nat.ble 112 n) (cond (Nat.ble 113 n) (cond (Nat.beq n 113) (yX9_accepts, cX9_accepts, 3, (some .boolean)) (yL_law, cL_law, 4, none)) (cond (Nat.beq n 112) (yX9_go, cX9_go, 4, (some .int)) (yL_law, cL_law, 4, none))) (cond (Nat.beq n 111) (yX9_in, cX9_in, 6, (some .boolean)) (yL_law, cL_law, 4, none)))) (cond (Nat.ble 108 n) (cond (Nat.ble 109 n) (cond (Nat.ble 110 n) (cond (Nat.beq n 110) (yX9_init, cX9_init, 2, none) (yL_law, cL_law, 4, none)) (cond (Nat.beq n 109) (yX8_pairFault, cX8_pairFault, 3, (some .int)) (yL_law, cL_law, 4, none))) (cond (Nat.beq n 108) (yX8_isState, cX8_isState, 3, (some .boolean)) (yL_law, cL_law, 4, none))) (cond (Nat.ble 106 n) (cond (Nat.ble 107 n) (cond (Nat.beq n 107) (yX8_isAlphabet, cX8_isAlphabet, 1, (some .boolean)) (yL_law, cL_law, 4, none)) (cond (Nat.beq n 106) (yX8_isSlot, cX8_isSlot, 1, (some .boolean)) (yL_law, cL_law, 4, none))) (cond (Nat.beq n 105) (yX8_asNumber, cX8_asNumber, 1, (some .int)) (yL_law, cL_law, 4, none))))) (cond (Nat.ble 99 n) (cond (Nat.ble 102 n) (cond (Nat.ble 103 n) (cond (Nat.ble 104 n) (cond (Nat.beq n 104) (yX8_mapping, cX8_mapping, 2, (some .int)) (yL_law, cL_law, 4, none)) (cond (Nat.beq n 103) (yX8_maps, cX8_maps, 3, (some .int)) (yL_law, cL_law, 4, none))) (cond (Nat.beq n 102) (yX8_mappings, cX8_mappings, 2, (some .int)) (yL_law, cL_law, 4, none))) (cond (Nat.ble 100 n) (cond (Nat.ble 101 n) (cond (Nat.beq n 101) (yX8_bytes, cX8_bytes, 1, (some .int)) (yL_law, cL_law, 4, none)) (cond (Nat.beq n 100) (yX8_octet, cX8_octet, 2, (some .int)) (yL_law, cL_law, 4, none))) (cond (Nat.beq n 99) (yX8_number, cX8_number, 2, (some .long)) (yL_law, cL_law, 4, none)))) (cond (Nat.ble 96 n) (cond (Nat.ble 97 n) (cond (Nat.ble 98 n) (cond (Nat.beq n 98) (yX8_word, cX8_word, 4, (some .int)) (yL_law, cL_law, 4, none)) (cond (Nat.beq n 97) (yX8_words, cX8_words, 3, (some .long)) (yL_law, cL_law, 4, none))) (cond (Nat.beq n 96) (yX8_apart, cX8_apart, 4, (some .int)) (yL_law, cL_law, 4, none))) (cond (Nat.ble 95 n) (cond (Nat.beq n 95) (yX8_same, cX8_same, 4, (some .int)) (yL_law, cL_law, 4, none)) (cond (Nat.beq n 94) (yX8_takes, cX8_takes, 2, (some .int)) (yL_law, cL_law, 4, none)))))))) (cond (Nat.ble 47 n) (cond (Nat.ble 70 n) (cond (Nat.ble 82 n) (cond (Nat.ble 88 n) (cond (Nat.ble 91 n) (cond (Nat.ble 92 n) (cond (Nat.ble 93 n) (cond (Nat.beq n 93) (yX8_read, cX8_read, 4, (some .int)) (yL_law, cL_law, 4, none)) (cond (Nat.beq n 92) (yX8_end, cX8_end, 2, (some .int)) (yL_law, cL_law, 4, none))) (cond (Nat.beq n 91) (yX8_feed, cX8_feed, 6, (some .int)) (yL_law, cL_law, 4, none))) (cond (Nat.ble 89 n) (cond (Nat.ble 90 n) (cond (Nat.beq n 90) (yX8_join, cX8_join, 6, (some .int)) (yL_law, cL_law, 4, none)) (cond (Nat.beq n 89) (yX8_smaller, cX8_smaller, 3, (some .int)) (yL_law, cL_law, 4, none))) (cond (Nat.beq n 88) (yX8_order, cX8_order, 2, (some .int)) (yL_law, cL_law, 4, none)))) (cond (Nat.ble 85 n) (cond (Nat.ble 86 n) (cond (Nat.ble 87 n) (cond (Nat.beq n 87) (yX8_to, cX8_to, 4, (some .int)) (yL_law, cL_law, 4, none)) (cond (Nat.beq n 86) (yX8_about, cX8_about, 3, (some .int)) (yL_law, cL_law, 4, none))) (cond (Nat.beq n 85) (yX8_start, cX8_start, 4, (some .int)) (yL_law, cL_law, 4, none))) (cond (Nat.ble 83 n) (cond (Nat.ble 84 n) (cond (Nat.beq n 84) (yX8_accept, cX8_accept, 5, (some .int)) (yL_law, cL_law, 4, none)) (cond (Nat.beq n 83) (yX8_edge, cX8_edge, 6, (some .int)) (yL_law, cL_law, 4, none))) (cond (Nat.beq n 82) (yX8_make, cX8_make, 4, (some .int)) (yL_law, cL_law, 4, none))))) (cond (Nat.ble 76 n) (cond (Nat.ble 79 n) (cond (Nat.ble 80 n) (cond (Nat.ble 81 n) (cond (Nat.beq n 81) (yX8_init, cX8_init, 2, none) (yL_law, cL_law, 4, none)) (cond (Nat.beq n 80) (yX7_lookBack, cX7_lookBack, 6, none) (yL_law, cL_law, 4, none))) (cond (Nat.beq n 79) (yX7_lookOn, cX7_lookOn, 6, none) (yL_law, cL_law, 4, none))) (cond (Nat.ble 77 n) (cond (Nat.ble 78 n) (cond (Nat.beq n 78) (yX7_lookAhead, cX7_lookAhead, 8, none) (yL_law, cL_law, 4, none)) (cond (Nat.beq n 77) (yX7_meetFirst, cX7_meetFirst, 4, none) (yL_law, cL_law, 4, none))) (cond (Nat.beq n 76) (yX7_gather, cX7_gather, 10, (some .boolean)) (yL_law, cL_law, 4, none)))) (cond (Nat.ble 73 n) (cond (Nat.ble 74 n) (cond (Nat.ble 75 n) (cond (Nat.beq n 75) (yX7_accepts, cX7_accepts, 3, (some .boolean)) (yL_law, cL_law, 4, none)) (cond (Nat.beq n 74) (yX7_meet, cX7_meet, 3, (some .int)) (yL_law, cL_law, 4, none))) (cond (Nat.beq n 73) (yX7_forgetPairs, cX7_forgetPairs, 5, none) (yL_law, cL_law, 4, none))) (cond (Nat.ble 71 n) (cond (Nat.ble 72 n) (cond (Nat.beq n 72) (yX7_pair, cX7_pair, 11, none) (yL_law, cL_law, 4, none)) (cond (Nat.beq n 71) (yX7_spellWayTo, cX7_spellWayTo, 6, none) (yL_law, cL_law, 4, none))) (cond (Nat.beq n 70) (yX7_tellApart, cX7_tellApart, 7, (some .boolean)) (yL_law, cL_law, 4, none)))))) (cond (Nat.ble 58 n) (cond (Nat.ble 64 n) (cond (Nat.ble 67 n) (cond (Nat.ble 68 n) (cond (Nat.ble 69 n) (cond (Nat.beq n 69) (yX7_combine, cX7_combine, 5, (some .int)) (yL_law, cL_law, 4, none)) (cond (Nat.beq n 68) (yX7_countTurned, cX7_countTurned, 2, (some .int)) (yL_law, cL_law, 4, none))) (cond (Nat.beq n 67) (yX7_countSplitters, cX7_countSplitters, 1, (some .int)) (yL_law, cL_law, 4, none))) (cond (Nat.ble 65 n) (cond (Nat.ble 66 n) (cond (Nat.beq n 66) (yX7_shrink, cX7_shrink, 4, (some .int)) (yL_law, cL_law, 4, none)) (cond (Nat.beq n 65) (yX7_makeSmallest, cX7_makeSmallest, 3, none) (yL_law, cL_law, 4, none))) (cond (Nat.beq n 64) (yX7_arrange, cX7_arrange, 2, none) (yL_law, cL_law, 4, none)))) (cond (Nat.ble 61 n) (cond (Nat.ble 62 n) (cond (Nat.ble 63 n) (cond (Nat.beq n 63) (yX7_init, cX7_init, 1, none) (yL_law, cL_law, 4, none)) (cond (Nat.beq n 62) (yX6_sumAhead, cX6_sumAhead, 7, (some .long)) (yL_law, cL_law, 4, none))) (cond (Nat.beq n 61) (yX6_countRow, cX6_countRow, 4, none) (yL_law, cL_law, 4, none))) (cond (Nat.ble 59 n) (cond (Nat.ble 60 n) (cond (Nat.beq n 60) (yX6_from, cX6_from, 3, (some .long)) (yL_law, cL_law, 4, none)) (cond (Nat.beq n 59) (yX6_spellOfLength, cX6_spellOfLength, 13, none) (yL_law, cL_law, 4, none))) (cond (Nat.beq n 58) (yX6_rank, cX6_rank, 9, (some .long)) (yL_law, cL_law, 4, none))))) (cond (Nat.ble 52 n) (cond (Nat.ble 55 n) (cond (Nat.ble 56 n) (cond (Nat.ble 57 n) (cond (Nat.beq n 57) (yX6_spell, cX6_spell, 10, (some .int)) (yL_law, cL_law, 4, none)) (cond (Nat.beq n 56) (yX6_ofLength, cX6_ofLength, 4, (some .long)) (yL_law, cL_law, 4, none))) (cond (Nat.beq n 55) (yX6_init, cX6_init, 1, none) (yL_law, cL_law, 4, none))) (cond (Nat.ble 53 n) (cond (Nat.ble 54 n) (cond (Nat.beq n 54) (yX5_walk, cX5_walk, 4, (some .int)) (yL_law, cL_law, 4, none)) (cond (Nat.beq n 53) (yX5_isWordOf, cX5_isWordOf, 3, (some .boolean)) (yL_law, cL_law, 4, none))) (cond (Nat.beq n 52) (yX5_letter, cX5_letter, 2, (some .int)) (yL_law, cL_law, 4, none)))) (cond (Nat.ble 49 n) (cond (Nat.ble 50 n) (cond (Nat.ble 51 n) (cond (Nat.beq n 51) (yX5_setLetter, cX5_setLetter, 3, none) (yL_law, cL_law, 4, none)) (cond (Nat.beq n 50) (yX5_addNumber, cX5_addNumber, 3, none) (yL_law, cL_law, 4, none))) (cond (Nat.beq n 49) (yX5_init, cX5_init, 1, none) (yL_law, cL_law, 4, none))) (cond (Nat.ble 48 n) (cond (Nat.beq n 48) (yX4_numberOf, cX4_numberOf, 7, (some .int)) (yL_law, cL_law, 4, none)) (cond (Nat.beq n 47) (yX4_clear, cX4_clear, 1, none) (yL_law, cL_law, 4, none))))))) (cond (Nat.ble 23 n) (cond (Nat.ble 35 n) (cond (Nat.ble 41 n) (cond (Nat.ble 44 n) (cond (Nat.ble 45 n) (cond (Nat.ble 46 n) (cond (Nat.beq n 46) (yX4_init, cX4_init, 1, none) (yL_law, cL_law, 4, none)) (cond (Nat.beq n 45) (yX3_isSound, cX3_isSound, 1, (some .boolean)) (yL_law, cL_law, 4, none))) (cond (Nat.beq n 44) (yX3_fold, cX3_fold, 2, none) (yL_law, cL_law, 4, none))) (cond (Nat.ble 42 n) (cond (Nat.ble 43 n) (cond (Nat.beq n 43) (yX3_change, cX3_change, 3, none) (yL_law, cL_law, 4, none)) (cond (Nat.beq n 42) (yX3_pushLetters, cX3_pushLetters, 2, none) (yL_law, cL_law, 4, none))) (cond (Nat.beq n 41) (yX3_pushEmptyWord, cX3_pushEmptyWord, 2, none) (yL_law, cL_law, 4, none)))) (cond (Nat.ble 38 n) (cond (Nat.ble 39 n) (cond (Nat.ble 40 n) (cond (Nat.beq n 40) (yX3_pushCopy, cX3_pushCopy, 2, none) (yL_law, cL_law, 4, none)) (cond (Nat.beq n 39) (yX3_push, cX3_push, 1, (some (.object "StateShop$Machine"))) (yL_law, cL_law, 4, none))) (cond (Nat.beq n 38) (yX3_giveUp, cX3_giveUp, 1, none) (yL_law, cL_law, 4, none))) (cond (Nat.ble 36 n) (cond (Nat.ble 37 n) (cond (Nat.beq n 37) (yX3_seesLetter, cX3_seesLetter, 2, (some .boolean)) (yL_law, cL_law, 4, none)) (cond (Nat.beq n 36) (yX3_seesAtom, cX3_seesAtom, 1, (some .boolean)) (yL_law, cL_law, 4, none))) (cond (Nat.beq n 35) (yX3_sees, cX3_sees, 2, (some .boolean)) (yL_law, cL_law, 4, none))))) (cond (Nat.ble 29 n) (cond (Nat.ble 32 n) (cond (Nat.ble 33 n) (cond (Nat.ble 34 n) (cond (Nat.beq n 34) (yX3_readAtom, cX3_readAtom, 3, none) (yL_law, cL_law, 4, none)) (cond (Nat.beq n 33) (yX3_readPost, cX3_readPost, 3, none) (yL_law, cL_law, 4, none))) (cond (Nat.beq n 32) (yX3_readBoth, cX3_readBoth, 3, none) (yL_law, cL_law, 4, none))) (cond (Nat.ble 30 n) (cond (Nat.ble 31 n) (cond (Nat.beq n 31) (yX3_readAll, cX3_readAll, 3, none) (yL_law, cL_law, 4, none)) (cond (Nat.beq n 30) (yX3_readAny, cX3_readAny, 3, none) (yL_law, cL_law, 4, none))) (cond (Nat.beq n 29) (yX3_evaluate, cX3_evaluate, 2, (some .int)) (yL_law, cL_law, 4, none)))) (cond (Nat.ble 26 n) (cond (Nat.ble 27 n) (cond (Nat.ble 28 n) (cond (Nat.beq n 28) (yX3_result, cX3_result, 1, (some (.object "StateShop$Machine"))) (yL_law, cL_law, 4, none)) (cond (Nat.beq n 27) (yX3_init, cX3_init, 4, none) (yL_law, cL_law, 4, none))) (cond (Nat.beq n 26) (yX2_squareTrial, cX2_squareTrial, 2, none) (yL_law, cL_law, 4, none))) (cond (Nat.ble 24 n) (cond (Nat.ble 25 n) (cond (Nat.beq n 25) (yX2_settles, cX2_settles, 3, (some .boolean)) (yL_law, cL_law, 4, none)) (cond (Nat.beq n 24) (yX2_allSettle, cX2_allSettle, 2, (some .boolean)) (yL_law, cL_law, 4, none))) (cond (Nat.beq n 23) (yX2_allCommute, cX2_allCommute, 4, (some .boolean)) (yL_law, cL_law, 4, none)))))) (cond (Nat.ble 11 n) (cond (Nat.ble 17 n) (cond (Nat.ble 20 n) (cond (Nat.ble 21 n) (cond (Nat.ble 22 n) (cond (Nat.beq n 22) (yX2_countWithImages, cX2_countWithImages, 7, (some .int)) (yL_law, cL_law, 4, none)) (cond (Nat.beq n 21) (yX2_countIdempotent, cX2_countIdempotent, 5, (some .int)) (yL_law, cL_law, 4, none))) (cond (Nat.beq n 20) (yX2_isTrial, cX2_isTrial, 3, (some .boolean)) (yL_law, cL_law, 4, none))) (cond (Nat.ble 18 n) (cond (Nat.ble 19 n) (cond (Nat.beq n 19) (yX2_bucketOfTrial, cX2_bucketOfTrial, 3, (some .int)) (yL_law, cL_law, 4, none)) (cond (Nat.beq n 18) (yX2_keepTrial, cX2_keepTrial, 4, (some .boolean)) (yL_law, cL_law, 4, none))) (cond (Nat.beq n 17) (yX2_image, cX2_image, 3, (some .int)) (yL_law, cL_law, 4, none)))) (cond (Nat.ble 14 n) (cond (Nat.ble 15 n) (cond (Nat.ble 16 n) (cond (Nat.beq n 16) (yX2_findAll, cX2_findAll, 4, (some .int)) (yL_law, cL_law, 4, none)) (cond (Nat.beq n 15) (yX2_init, cX2_init, 1, none) (yL_law, cL_law, 4, none))) (cond (Nat.beq n 14) (yX1_copyOf, cX1_copyOf, 3, none) (yL_law, cL_law, 4, none))) (cond (Nat.ble 12 n) (cond (Nat.ble 13 n) (cond (Nat.beq n 13) (yX1_endSet, cX1_endSet, 4, (some .long)) (yL_law, cL_law, 4, none)) (cond (Nat.beq n 12) (yX1_countEnds, cX1_countEnds, 3, (some .int)) (yL_law, cL_law, 4, none))) (cond (Nat.beq n 11) (yX1_leadAll, cX1_leadAll, 4, none) (yL_law, cL_law, 4, none))))) (cond (Nat.ble 5 n) (cond (Nat.ble 8 n) (cond (Nat.ble 9 n) (cond (Nat.ble 10 n) (cond (Nat.beq n 10) (yX1_lead, cX1_lead, 4, none) (yL_law, cL_law, 4, none)) (cond (Nat.beq n 9) (yX1_next, cX1_next, 3, (some .int)) (yL_law, cL_law, 4, none))) (cond (Nat.beq n 8) (yX1_hasLetter, cX1_hasLetter, 2, (some .boolean)) (yL_law, cL_law, 4, none))) (cond (Nat.ble 6 n) (cond (Nat.ble 7 n) (cond (Nat.beq n 7) (yX1_hasState, cX1_hasState, 2, (some .boolean)) (yL_law, cL_law, 4, none)) (cond (Nat.beq n 6) (yX1_reset, cX1_reset, 4, none) (yL_law, cL_law, 4, none))) (cond (Nat.beq n 5) (yX1_init, cX1_init, 2, none) (yL_law, cL_law, 4, none)))) (cond (Nat.ble 2 n) (cond (Nat.ble 3 n) (cond (Nat.ble 4 n) (cond (Nat.beq n 4) (yX0_put, cX0_put, 6, none) (yL_law, cL_law, 4, none)) (cond (Nat.beq n 3) (yX0_divideBy, cX0_divideBy, 6, none) (yL_law, cL_law, 4, none))) (cond (Nat.beq n 2) (yX0_begin, cX0_begin, 3, none) (yL_law, cL_law, 4, none))) (cond (Nat.ble 1 n) (cond (Nat.beq n 1) (yX0_reduce, cX0_reduce, 5, (some .int)) (yL_law, cL_law, 4, none)) (cond (Nat.beq n 0) (yX0_init, cX0_init, 1, none) (yL_law, cL_law, 4, none))))))))
def mk_k (n : Nat) : Nat := cond (Nat.ble 94 n) (cond (Nat.ble 141 n) (cond (Nat.ble 164 n) (cond (Nat.ble 176 n) (cond (Nat.ble 182 n) (cond (Nat.ble 185 n) (cond (Nat.ble 186 n) (cond (Nat.ble 187 n) (cond (Nat.beq n 187) (0) (9)) (cond (Nat.beq n 186) (0) (9))) (cond (Nat.beq n 185) (0) (9))) (cond (Nat.ble 183 n) (cond (Nat.ble 184 n) (cond (Nat.beq n 184) (0) (9)) (cond (Nat.beq n 183) (1) (9))) (cond (Nat.beq n 182) (1) (9)))) (cond (Nat.ble 179 n) (cond (Nat.ble 180 n) (cond (Nat.ble 181 n) (cond (Nat.beq n 181) (1) (9)) (cond (Nat.beq n 180) (1) (9))) (cond (Nat.beq n 179) (1) (9))) (cond (Nat.ble 177 n) (cond (Nat.ble 178 n) (cond (Nat.beq n 178) (1) (9)) (cond (Nat.beq n 177) (1) (9))) (cond (Nat.beq n 176) (1) (9))))) (cond (Nat.ble 170 n) (cond (Nat.ble 173 n) (cond (Nat.ble 174 n) (cond (Nat.ble 175 n) (cond (Nat.beq n 175) (1) (9)) (cond (Nat.beq n 174) (1) (9))) (cond (Nat.beq n 173) (1) (9))) (cond (Nat.ble 171 n) (cond (Nat.ble 172 n) (cond (Nat.beq n 172) (1) (9)) (cond (Nat.beq n 171) (1) (9))) (cond (Nat.beq n 170) (1) (9)))) (cond (Nat.ble 167 n) (cond (Nat.ble 168 n) (cond (Nat.ble 169 n) (cond (Nat.beq n 169) (1) (9)) (cond (Nat.beq n 168) (1) (9))) (cond (Nat.beq n 167) (1) (9))) (cond (Nat.ble 165 n) (cond (Nat.ble 166 n) (cond (Nat.beq n 166) (1) (9)) (cond (Nat.beq n 165) (1) (9))) (cond (Nat.beq n 164) (1) (9)))))) (cond (Nat.ble 152 n) (cond (Nat.ble 158 n) (cond (Nat.ble 161 n) (cond (Nat.ble 162 n) (cond (Nat.ble 163 n) (cond (Nat.beq n 163) (1) (9)) (cond (Nat.beq n 162) (1) (9))) (cond (Nat.beq n 161) (1) (9))) (cond (Nat.ble 159 n) (cond (Nat.ble 160 n) (cond (Nat.beq n 160) (1) (9)) (cond (Nat.beq n 159) (1) (9))) (cond (Nat.beq n 158) (1) (9)))) (cond (Nat.ble 155 n) (cond (Nat.ble 156 n) (cond (Nat.ble 157 n) (cond (Nat.beq n 157) (1) (9)) (cond (Nat.beq n 156) (1) (9))) (cond (Nat.beq n 155) (1) (9))) (cond (Nat.ble 153 n) (cond (Nat.ble 154 n) (cond (Nat.beq n 154) (1) (9)) (cond (Nat.beq n 153) (0) (9))) (cond (Nat.beq n 152) (1) (9))))) (cond (Nat.ble 146 n) (cond (Nat.ble 149 n) (cond (Nat.ble 150 n) (cond (Nat.ble 151 n) (cond (Nat.beq n 151) (1) (9)) (cond (Nat.beq n 150) (0) (9))) (cond (Nat.beq n 149) (0) (9))) (cond (Nat.ble 147 n) (cond (Nat.ble 148 n) (cond (Nat.beq n 148) (1) (9)) (cond (Nat.beq n 147) (1) (9))) (cond (Nat.beq n 146) (1) (9)))) (cond (Nat.ble 143 n) (cond (Nat.ble 144 n) (cond (Nat.ble 145 n) (cond (Nat.beq n 145) (1) (9)) (cond (Nat.beq n 144) (1) (9))) (cond (Nat.beq n 143) (1) (9))) (cond (Nat.ble 142 n) (cond (Nat.beq n 142) (1) (9)) (cond (Nat.beq n 141) (1) (9))))))) (cond (Nat.ble 117 n) (cond (Nat.ble 129 n) (cond (Nat.ble 135 n) (cond (Nat.ble 138 n) (cond (Nat.ble 139 n) (cond (Nat.ble 140 n) (cond (Nat.beq n 140) (1) (9)) (cond (Nat.beq n 139) (1) (9))) (cond (Nat.beq n 138) (0) (9))) (cond (Nat.ble 136 n) (cond (Nat.ble 137 n) (cond (Nat.beq n 137) (1) (9)) (cond (Nat.beq n 136) (1) (9))) (cond (Nat.beq n 135) (1) (9)))) (cond (Nat.ble 132 n) (cond (Nat.ble 133 n) (cond (Nat.ble 134 n) (cond (Nat.beq n 134) (1) (9)) (cond (Nat.beq n 133) (1) (9))) (cond (Nat.beq n 132) (1) (9))) (cond (Nat.ble 130 n) (cond (Nat.ble 131 n) (cond (Nat.beq n 131) (1) (9)) (cond (Nat.beq n 130) (1) (9))) (cond (Nat.beq n 129) (1) (9))))) (cond (Nat.ble 123 n) (cond (Nat.ble 126 n) (cond (Nat.ble 127 n) (cond (Nat.ble 128 n) (cond (Nat.beq n 128) (1) (9)) (cond (Nat.beq n 127) (1) (9))) (cond (Nat.beq n 126) (1) (9))) (cond (Nat.ble 124 n) (cond (Nat.ble 125 n) (cond (Nat.beq n 125) (1) (9)) (cond (Nat.beq n 124) (1) (9))) (cond (Nat.beq n 123) (1) (9)))) (cond (Nat.ble 120 n) (cond (Nat.ble 121 n) (cond (Nat.ble 122 n) (cond (Nat.beq n 122) (1) (9)) (cond (Nat.beq n 121) (1) (9))) (cond (Nat.beq n 120) (1) (9))) (cond (Nat.ble 118 n) (cond (Nat.ble 119 n) (cond (Nat.beq n 119) (1) (9)) (cond (Nat.beq n 118) (1) (9))) (cond (Nat.beq n 117) (1) (9)))))) (cond (Nat.ble 105 n) (cond (Nat.ble 111 n) (cond (Nat.ble 114 n) (cond (Nat.ble 115 n) (cond (Nat.ble 116 n) (cond (Nat.beq n 116) (1) (9)) (cond (Nat.beq n 115) (1) (9))) (cond (Nat.beq n 114) (0) (9))) (cond (Nat.ble 112 n) (cond (Nat.ble 113 n) (cond (Nat.beq n 113) (1) (9)) (cond (Nat.beq n 112) (1) (9))) (cond (Nat.beq n 111) (0) (9)))) (cond (Nat.ble 108 n) (cond (Nat.ble 109 n) (cond (Nat.ble 110 n) (cond (Nat.beq n 110) (2) (9)) (cond (Nat.beq n 109) (1) (9))) (cond (Nat.beq n 108) (1) (9))) (cond (Nat.ble 106 n) (cond (Nat.ble 107 n) (cond (Nat.beq n 107) (0) (9)) (cond (Nat.beq n 106) (0) (9))) (cond (Nat.beq n 105) (0) (9))))) (cond (Nat.ble 99 n) (cond (Nat.ble 102 n) (cond (Nat.ble 103 n) (cond (Nat.ble 104 n) (cond (Nat.beq n 104) (1) (9)) (cond (Nat.beq n 103) (1) (9))) (cond (Nat.beq n 102) (1) (9))) (cond (Nat.ble 100 n) (cond (Nat.ble 101 n) (cond (Nat.beq n 101) (1) (9)) (cond (Nat.beq n 100) (1) (9))) (cond (Nat.beq n 99) (1) (9)))) (cond (Nat.ble 96 n) (cond (Nat.ble 97 n) (cond (Nat.ble 98 n) (cond (Nat.beq n 98) (1) (9)) (cond (Nat.beq n 97) (1) (9))) (cond (Nat.beq n 96) (1) (9))) (cond (Nat.ble 95 n) (cond (Nat.beq n 95) (1) (9)) (cond (Nat.beq n 94) (1) (9)))))))) (cond (Nat.ble 47 n) (cond (Nat.ble 70 n) (cond (Nat.ble 82 n) (cond (Nat.ble 88 n) (cond (Nat.ble 91 n) (cond (Nat.ble 92 n) (cond (Nat.ble 93 n) (cond (Nat.beq n 93) (1) (9)) (cond (Nat.beq n 92) (1) (9))) (cond (Nat.beq n 91) (1) (9))) (cond (Nat.ble 89 n) (cond (Nat.ble 90 n) (cond (Nat.beq n 90) (1) (9)) (cond (Nat.beq n 89) (1) (9))) (cond (Nat.beq n 88) (1) (9)))) (cond (Nat.ble 85 n) (cond (Nat.ble 86 n) (cond (Nat.ble 87 n) (cond (Nat.beq n 87) (1) (9)) (cond (Nat.beq n 86) (1) (9))) (cond (Nat.beq n 85) (1) (9))) (cond (Nat.ble 83 n) (cond (Nat.ble 84 n) (cond (Nat.beq n 84) (1) (9)) (cond (Nat.beq n 83) (1) (9))) (cond (Nat.beq n 82) (1) (9))))) (cond (Nat.ble 76 n) (cond (Nat.ble 79 n) (cond (Nat.ble 80 n) (cond (Nat.ble 81 n) (cond (Nat.beq n 81) (2) (9)) (cond (Nat.beq n 80) (1) (9))) (cond (Nat.beq n 79) (1) (9))) (cond (Nat.ble 77 n) (cond (Nat.ble 78 n) (cond (Nat.beq n 78) (1) (9)) (cond (Nat.beq n 77) (1) (9))) (cond (Nat.beq n 76) (1) (9)))) (cond (Nat.ble 73 n) (cond (Nat.ble 74 n) (cond (Nat.ble 75 n) (cond (Nat.beq n 75) (0) (9)) (cond (Nat.beq n 74) (1) (9))) (cond (Nat.beq n 73) (1) (9))) (cond (Nat.ble 71 n) (cond (Nat.ble 72 n) (cond (Nat.beq n 72) (1) (9)) (cond (Nat.beq n 71) (1) (9))) (cond (Nat.beq n 70) (1) (9)))))) (cond (Nat.ble 58 n) (cond (Nat.ble 64 n) (cond (Nat.ble 67 n) (cond (Nat.ble 68 n) (cond (Nat.ble 69 n) (cond (Nat.beq n 69) (1) (9)) (cond (Nat.beq n 68) (1) (9))) (cond (Nat.beq n 67) (0) (9))) (cond (Nat.ble 65 n) (cond (Nat.ble 66 n) (cond (Nat.beq n 66) (1) (9)) (cond (Nat.beq n 65) (1) (9))) (cond (Nat.beq n 64) (1) (9)))) (cond (Nat.ble 61 n) (cond (Nat.ble 62 n) (cond (Nat.ble 63 n) (cond (Nat.beq n 63) (2) (9)) (cond (Nat.beq n 62) (1) (9))) (cond (Nat.beq n 61) (1) (9))) (cond (Nat.ble 59 n) (cond (Nat.ble 60 n) (cond (Nat.beq n 60) (1) (9)) (cond (Nat.beq n 59) (1) (9))) (cond (Nat.beq n 58) (1) (9))))) (cond (Nat.ble 52 n) (cond (Nat.ble 55 n) (cond (Nat.ble 56 n) (cond (Nat.ble 57 n) (cond (Nat.beq n 57) (1) (9)) (cond (Nat.beq n 56) (1) (9))) (cond (Nat.beq n 55) (2) (9))) (cond (Nat.ble 53 n) (cond (Nat.ble 54 n) (cond (Nat.beq n 54) (1) (9)) (cond (Nat.beq n 53) (1) (9))) (cond (Nat.beq n 52) (1) (9)))) (cond (Nat.ble 49 n) (cond (Nat.ble 50 n) (cond (Nat.ble 51 n) (cond (Nat.beq n 51) (1) (9)) (cond (Nat.beq n 50) (1) (9))) (cond (Nat.beq n 49) (2) (9))) (cond (Nat.ble 48 n) (cond (Nat.beq n 48) (1) (9)) (cond (Nat.beq n 47) (1) (9))))))) (cond (Nat.ble 23 n) (cond (Nat.ble 35 n) (cond (Nat.ble 41 n) (cond (Nat.ble 44 n) (cond (Nat.ble 45 n) (cond (Nat.ble 46 n) (cond (Nat.beq n 46) (2) (9)) (cond (Nat.beq n 45) (1) (9))) (cond (Nat.beq n 44) (1) (9))) (cond (Nat.ble 42 n) (cond (Nat.ble 43 n) (cond (Nat.beq n 43) (1) (9)) (cond (Nat.beq n 42) (1) (9))) (cond (Nat.beq n 41) (1) (9)))) (cond (Nat.ble 38 n) (cond (Nat.ble 39 n) (cond (Nat.ble 40 n) (cond (Nat.beq n 40) (1) (9)) (cond (Nat.beq n 39) (1) (9))) (cond (Nat.beq n 38) (1) (9))) (cond (Nat.ble 36 n) (cond (Nat.ble 37 n) (cond (Nat.beq n 37) (1) (9)) (cond (Nat.beq n 36) (1) (9))) (cond (Nat.beq n 35) (1) (9))))) (cond (Nat.ble 29 n) (cond (Nat.ble 32 n) (cond (Nat.ble 33 n) (cond (Nat.ble 34 n) (cond (Nat.beq n 34) (1) (9)) (cond (Nat.beq n 33) (1) (9))) (cond (Nat.beq n 32) (1) (9))) (cond (Nat.ble 30 n) (cond (Nat.ble 31 n) (cond (Nat.beq n 31) (1) (9)) (cond (Nat.beq n 30) (1) (9))) (cond (Nat.beq n 29) (1) (9)))) (cond (Nat.ble 26 n) (cond (Nat.ble 27 n) (cond (Nat.ble 28 n) (cond (Nat.beq n 28) (1) (9)) (cond (Nat.beq n 27) (2) (9))) (cond (Nat.beq n 26) (1) (9))) (cond (Nat.ble 24 n) (cond (Nat.ble 25 n) (cond (Nat.beq n 25) (1) (9)) (cond (Nat.beq n 24) (1) (9))) (cond (Nat.beq n 23) (1) (9)))))) (cond (Nat.ble 11 n) (cond (Nat.ble 17 n) (cond (Nat.ble 20 n) (cond (Nat.ble 21 n) (cond (Nat.ble 22 n) (cond (Nat.beq n 22) (1) (9)) (cond (Nat.beq n 21) (1) (9))) (cond (Nat.beq n 20) (1) (9))) (cond (Nat.ble 18 n) (cond (Nat.ble 19 n) (cond (Nat.beq n 19) (1) (9)) (cond (Nat.beq n 18) (1) (9))) (cond (Nat.beq n 17) (1) (9)))) (cond (Nat.ble 14 n) (cond (Nat.ble 15 n) (cond (Nat.ble 16 n) (cond (Nat.beq n 16) (1) (9)) (cond (Nat.beq n 15) (2) (9))) (cond (Nat.beq n 14) (1) (9))) (cond (Nat.ble 12 n) (cond (Nat.ble 13 n) (cond (Nat.beq n 13) (1) (9)) (cond (Nat.beq n 12) (1) (9))) (cond (Nat.beq n 11) (1) (9))))) (cond (Nat.ble 5 n) (cond (Nat.ble 8 n) (cond (Nat.ble 9 n) (cond (Nat.ble 10 n) (cond (Nat.beq n 10) (1) (9)) (cond (Nat.beq n 9) (1) (9))) (cond (Nat.beq n 8) (1) (9))) (cond (Nat.ble 6 n) (cond (Nat.ble 7 n) (cond (Nat.beq n 7) (1) (9)) (cond (Nat.beq n 6) (1) (9))) (cond (Nat.beq n 5) (2) (9)))) (cond (Nat.ble 2 n) (cond (Nat.ble 3 n) (cond (Nat.ble 4 n) (cond (Nat.beq n 4) (1) (9)) (cond (Nat.beq n 3) (1) (9))) (cond (Nat.beq n 2) (1) (9))) (cond (Nat.ble 1 n) (cond (Nat.beq n 1) (1) (9)) (cond (Nat.beq n 0) (2) (9))))))))
def nw_ : List Jvm.Cond := [.methodLinkNest RX8 20 yX5_init "StateShop", .methodLinkNest RX7 31 yX4_init "StateShop", .methodLinkNest RX7 38 yX0_init "StateShop", .methodLinkNest RX8 43 yX6_init "StateShop", .methodLinkNest RX8 50 yX2_init "StateShop", .methodLinkNest RX0 61 yX8_asNumber "StateShop", .methodLinkNest RX6 60 yX8_asNumber "StateShop"]
def fkl_ : List (List Nat) := [[2, 2, 2, 2, 0, 0, 0], [2, 2, 0, 0, 0], [2, 2, 2, 2, 2, 2, 0], [2, 2, 2, 0, 0, 0, 0, 1], [2, 2, 2, 2, 0], [2, 0], [2], [2, 2, 2, 2, 2, 2, 2, 2, 2, 2], [2, 2, 2, 2, 2, 2], [0, 2, 2, 2, 2, 2, 2, 0, 0, 0, 2, 2, 2, 2, 2, 2, 2, 2, 0, 2, 2, 2, 0, 2, 0, 0, 2, 2, 2, 2, 2, 0, 0, 2, 2, 0, 1, 0, 0, 2, 2, 2, 2, 1, 2, 2, 2, 0, 0, 0, 2, 2]]
def fk_ (c k : Nat) : Nat := (fkl_.getD c []).getD k 9
def tyc_ (c : Nat) : Nat → FieldType := match c with
  | 0 => tyX0
  | 1 => tyX1
  | 2 => tyX2
  | 3 => tyX3
  | 4 => tyX4
  | 5 => tyX5
  | 6 => tyX6
  | 7 => tyX7
  | 8 => tyX8
  | _ => tyX9
/-! WHAT A TABLE MUST SATISFY: a check, entry by entry, against the bytes and the words -/
def ww_ : List Jvm.Cond := lw_tbl.filter goodWord
theorem ww_in {w : Jvm.Cond} (h : w ∈ lw_tbl) (hg : goodWord w = true) : w ∈ ww_ := List.mem_filter.mpr ⟨h, hg⟩
theorem ww_tbl : ∀ w ∈ ww_, w ∈ lw_tbl := fun _ h => (List.mem_filter.mp h).1
theorem ww_good : GoodIn ww_ ww_ := fun _ h => ⟨h, good_of_word (List.mem_filter.mp h).2⟩
def wa_fl (own : String) (idx : Nat) (r n d : String) : Bool := lw_tbl.any fun w => match w with
  | .fieldLink o i r' n' d' => i == idx && (d' == d && (n' == n && (o == own && r' == r)))
  | _ => false
theorem wa_fl_in {own : String} {idx : Nat} {r n d : String} (h : wa_fl own idx r n d = true) : Jvm.Cond.fieldLink own idx r n d ∈ ww_ := by
  obtain ⟨w, hw, h⟩ := List.any_eq_true.mp h
  split at h
  · simp only [Bool.and_eq_true, beq_iff_eq] at h
    obtain ⟨rfl, rfl, rfl, rfl, rfl⟩ := h
    exact ww_in hw rfl
  · cases h
def wa_ml (own : String) (idx : Nat) (y : MethodName) : Bool := lw_tbl.any fun w => match w with
  | .methodLink o i y' => i == idx && (o == own && y' == y)
  | _ => false
theorem wa_ml_in {own : String} {idx : Nat} {y : MethodName} (h : wa_ml own idx y = true) : Jvm.Cond.methodLink own idx y ∈ ww_ := by
  obtain ⟨w, hw, h⟩ := List.any_eq_true.mp h
  split at h
  · simp only [Bool.and_eq_true, beq_iff_eq] at h
    obtain ⟨rfl, rfl, rfl⟩ := h
    exact ww_in hw rfl
  · cases h
def wa_nl (own : String) (idx : Nat) (y : MethodName) : Bool := nw_.any fun w => match w with
  | .methodLinkNest o i y' _ => i == idx && (o == own && y' == y)
  | _ => false
theorem wa_nl_in {own : String} {idx : Nat} {y : MethodName} (h : wa_nl own idx y = true) : ∃ host, Jvm.Cond.methodLinkNest own idx y host ∈ nw_ := by
  obtain ⟨w, hw, h⟩ := List.any_eq_true.mp h
  split at h
  · simp only [Bool.and_eq_true, beq_iff_eq] at h
    obtain ⟨rfl, rfl, rfl⟩ := h
    exact ⟨_, hw⟩
  · cases h
def wa_kl (own : String) (idx : Nat) (k : String) : Bool := lw_tbl.any fun w => match w with
  | .classLink o i k' => i == idx && (o == own && k' == k)
  | _ => false
theorem wa_kl_in {own : String} {idx : Nat} {k : String} (h : wa_kl own idx k = true) : Jvm.Cond.classLink own idx k ∈ ww_ := by
  obtain ⟨w, hw, h⟩ := List.any_eq_true.mp h
  split at h
  · simp only [Bool.and_eq_true, beq_iff_eq] at h
    obtain ⟨rfl, rfl, rfl⟩ := h
    exact ww_in hw rfl
  · cases h
def wa_ci (own : String) (idx : Nat) (v : Int32) : Bool := lw_tbl.any fun w => match w with
  | .constant o i v' => i == idx && (o == own && v' == v)
  | _ => false
theorem wa_ci_in {own : String} {idx : Nat} {v : Int32} (h : wa_ci own idx v = true) : Jvm.Cond.constant own idx v ∈ ww_ := by
  obtain ⟨w, hw, h⟩ := List.any_eq_true.mp h
  split at h
  · simp only [Bool.and_eq_true, beq_iff_eq] at h
    obtain ⟨rfl, rfl, rfl⟩ := h
    exact ww_in hw rfl
  · cases h
def wa_cl (own : String) (idx : Nat) (v : Int64) : Bool := lw_tbl.any fun w => match w with
  | .constantLong o i v' => i == idx && (o == own && v' == v)
  | _ => false
theorem wa_cl_in {own : String} {idx : Nat} {v : Int64} (h : wa_cl own idx v = true) : Jvm.Cond.constantLong own idx v ∈ ww_ := by
  obtain ⟨w, hw, h⟩ := List.any_eq_true.mp h
  split at h
  · simp only [Bool.and_eq_true, beq_iff_eq] at h
    obtain ⟨rfl, rfl, rfl⟩ := h
    exact ww_in hw rfl
  · cases h
def ch_0 (own : String) (i : Instr) (ln : Nat) (w : Int) : Bool := match i with
  | .iconst n => ln == 1 && Int32.ofInt n == Int32.ofInt w
  | .bipush n => ln == 2 && (Int8.ofInt n).toInt32 == Int32.ofInt w
  | .sipush n => ln == 3 && (Int16.ofInt n).toInt32 == Int32.ofInt w
  | .ldc k => ln == 2 && wa_ci own k (Int32.ofInt w)
  | _ => false
def ch_1 (own : String) (i : Instr) (ln : Nat) (w : Int) : Bool := match i with
  | .lconst n => ln == 1 && Int64.ofNat n.val == Int64.ofInt w
  | .ldc2_w k => ln == 3 && wa_cl own k (Int64.ofInt w)
  | _ => false
def ch_2 (i : Instr) (ln x y : Nat) : Bool := match i with
  | .iload_n k => ln == 1 && (k.val == x && y == 0)
  | .iload k => ln == 2 && (k == x && y == 0)
  | .lload_n k => ln == 1 && (k.val == x && y == 1)
  | .lload k => ln == 2 && (k == x && y == 1)
  | .aload_n k => ln == 1 && (k.val == x && y == 2)
  | .aload k => ln == 2 && (k == x && y == 2)
  | _ => false
def ch_3 (nL : Nat) (i : Instr) (ln x y : Nat) : Bool := decide (x + 1 < nL ∨ (x < nL ∧ y ≠ 1)) && match i with
  | .istore_n k => ln == 1 && (k.val == x && y == 0)
  | .istore k => ln == 2 && (k == x && y == 0)
  | .lstore_n k => ln == 1 && (k.val == x && y == 1)
  | .lstore k => ln == 2 && (k == x && y == 1)
  | .astore_n k => ln == 1 && (k.val == x && y == 2)
  | .astore k => ln == 2 && (k == x && y == 2)
  | _ => false
def ch_4 (nL : Nat) (i : Instr) (ln x : Nat) (w : Int) : Bool := match i with
  | .iinc k n => ln == 3 && (k == x && (n == w && decide (x < nL)))
  | _ => false
def ch_5 (i : Instr) (ln x : Nat) : Bool := ln == 1 && match i with
  | .iadd => x == 0
  | .isub => x == 1
  | .imul => x == 2
  | .iand => x == 3
  | .ior => x == 4
  | .ishl => x == 5
  | .ishr => x == 6
  | .iushr => x == 7
  | .idiv => x == 8
  | .irem => x == 9
  | _ => false
def ch_6 (i : Instr) (ln x : Nat) : Bool := ln == 1 && match i with
  | .ladd => x == 0
  | .lsub => x == 1
  | .lmul => x == 2
  | .land => x == 3
  | .lor => x == 4
  | _ => false
def ch_7 (i : Instr) (ln x : Nat) : Bool := ln == 1 && match i with
  | .lshl => x == 0
  | .lshr => x == 1
  | .lushr => x == 2
  | _ => false
def ch_8 (i : Instr) (ln x : Nat) : Bool := ln == 1 && match i with
  | .i2l => x == 0
  | .l2i => x == 1
  | .i2b => x == 2
  | _ => false
def ch_9 (i : Instr) (ln : Nat) : Bool := ln == 1 && decide (i = .lcmp)
def ch_cd (c : ClassFile.Cond) : Nat := match c with
  | .eq => 0
  | .ne => 1
  | .lt => 2
  | .ge => 3
  | .gt => 4
  | .le => 5
def ch_10 (pc : Nat) (i : Instr) (ln x y : Nat) : Bool := ln == 3 && match i with
  | .ifCond c off => ch_cd c == x && (pc : Int) + off == (y : Int)
  | _ => false
def ch_11 (pc : Nat) (i : Instr) (ln x y : Nat) : Bool := ln == 3 && match i with
  | .if_icmp c off => ch_cd c == x && (pc : Int) + off == (y : Int)
  | _ => false
def ch_12 (pc : Nat) (i : Instr) (ln y : Nat) : Bool := ln == 3 && match i with
  | .goto off => (pc : Int) + off == (y : Int)
  | _ => false
def ch_f (own : String) (idx x y z : Nat) : Bool := match vwCl[x - 10]? with
  | some q => decide (10 ≤ x) && (decide (y < q.2.2) && (fk_ (x - 10) y == z && wa_fl own idx (q.2.1 y).1 (q.2.1 y).2.1 (q.2.1 y).2.2.1))
  | none => false
def ch_13 (own : String) (i : Instr) (ln x y z : Nat) : Bool := ln == 3 && match i with
  | .getfield k => ch_f own k x y z
  | _ => false
def ch_tz (t : FieldType) (z : Nat) : Bool := match z with
  | 0 => decide (t = .int)
  | 1 => decide (t = .boolean)
  | 2 => match t with
    | .object _ => true
    | .array _ => true
    | _ => false
  | _ => false
def ch_fin (yn : MethodName) (x y : Nat) : Bool := match vwCl[x - 10]? with
  | some q => !(q.2.1 y).2.2.2 || ((q.2.1 y).1 == yn.cls && yn.name == "<init>")
  | none => false
def ch_14 (yn : MethodName) (i : Instr) (ln x y z : Nat) (w : Int) : Bool := ln == 3 && match i with
  | .putfield k => ch_f yn.cls k x y z && (ch_tz (tyc_ (x - 10) y) z && (ch_fin yn x y && (z != 2 || decide (1 ≤ w))))
  | _ => false
def ch_15 (i : Instr) (ln x : Nat) : Bool := ln == 1 && match i with
  | .iaload => x == 1
  | .baload => x == 2 || x == 3
  | .laload => x == 4
  | .aaload => x == 5
  | _ => false
def ch_16 (i : Instr) (ln x y : Nat) : Bool := ln == 1 && match i with
  | .iastore => x == 1
  | .bastore => x == 2 || x == 3
  | .lastore => x == 4
  | .aastore => x == 5 && y == 11
  | _ => false
def ch_17 (i : Instr) (ln x : Nat) : Bool := ln == 1 && (decide (i = .arraylength) && (decide (1 ≤ x) && decide (x ≤ 5)))
def ch_21 (own : String) (i : Instr) (ln x y : Nat) : Bool := ln == 3 && match i with
  | .new k => match vwCl[x - 10]? with
    | some q => decide (10 ≤ x) && (y == q.2.2 && wa_kl own k q.1)
    | none => false
  | _ => false
def ch_22 (own : String) (i : Instr) (ln x : Nat) : Bool := match i with
  | .newarray .int => ln == 2 && x == 1
  | .newarray .boolean => ln == 2 && x == 2
  | .newarray .byte => ln == 2 && x == 3
  | .newarray .long => ln == 2 && x == 4
  | .anewarray k => ln == 3 && (x == 5 && wa_kl own k "StateShop$Machine")
  | _ => false
def ch_rz (r : Option FieldType) (z : Nat) : Bool := match z with
  | 0 => decide (r = none)
  | 1 => decide (r = some .int) || decide (r = some .boolean)
  | 2 => decide (r = some .long)
  | 3 => match r with
    | some (.object _) => true
    | _ => false
  | _ => false
def ch_pn (y : MethodName) (n : Nat) : Bool := (parseMethodDescriptor y.desc).map (fun d => d.parameters.length) == some n
def ch_24 (own : String) (i : Instr) (ln x y z : Nat) (w : Int) : Bool := ln == 3 && (decide (x < 187) && (ch_rz (mi_ x).2.2.2 z && match i with
  | .invokevirtual k => mk_k x == 1 && (ch_pn (mi_ x).1 (y - 1) && (decide (1 ≤ y) && (decide (10 ≤ w) && ((match vwCl[w.toNat - 10]? with
    | some q => q.1 == (mi_ x).1.cls
    | none => false) && (wa_ml own k (mi_ x).1 || wa_nl own k (mi_ x).1)))))
  | .invokespecial k => mk_k x == 2 && (ch_pn (mi_ x).1 (y - 1) && (decide (1 ≤ y) && (decide (10 ≤ w) && (wa_ml own k (mi_ x).1 || wa_nl own k (mi_ x).1))))
  | .invokestatic k => mk_k x == 0 && (ch_pn (mi_ x).1 y && (w == -1 && (wa_ml own k (mi_ x).1 || wa_nl own k (mi_ x).1)))
  | _ => false))
def ch_25 (own : String) (i : Instr) (ln : Nat) : Bool := ln == 3 && match i with
  | .invokespecial k => wa_ml own k objectInit
  | _ => false
def ch_26 (own : String) (i : Instr) (ln : Nat) : Bool := ln == 3 && match i with
  | .invokestatic k => wa_ml own k arraycopyName
  | _ => false
def ch_28 (own : String) (i : Instr) (ln : Nat) (y : MethodName) : Bool := ln == 3 && match i with
  | .invokestatic k => wa_ml own k y
  | _ => false
def ch_27 (rt : Option FieldType) (i : Instr) (ln x : Nat) : Bool := ln == 1 && match i with
  | .ireturn => (x == 0 && decide (rt = some .int)) || (x == 1 && decide (rt = some .boolean))
  | .lreturn => x == 2 && decide (rt = some .long)
  | .areturn => x == 3 && match rt with
    | some (.object _) => true
    | _ => false
  | _ => false
def ch_30 (rt : Option FieldType) (i : Instr) (ln : Nat) : Bool := ln == 1 && (decide (i = .return_) && decide (rt = none))
def ch_31 (sw : Nat → List (Int × Nat)) (pc : Nat) (i : Instr) (x y : Nat) : Bool := match i with
  | .tableswitch d lo hi offs => (pc : Int) + d == (y : Int) && (decide (-2147483648 ≤ lo) && (decide (hi ≤ 2147483647) && (hi - lo + 1 == (offs.size : Int) && (sw x == (List.range offs.size).map (fun (j : Nat) => (lo + (j : Int), ((pc : Int) + offs.getD j 0).toNat)) && offs.toList.all (fun o => decide (0 ≤ (pc : Int) + o))))))
  | .lookupswitch d ps => (pc : Int) + d == (y : Int) && ((ps.toList.zip (ps.toList.drop 1)).all (fun (a, next) => a.1 < next.1) && (sw x == ps.toList.map (fun q => (q.1, ((pc : Int) + q.2).toNat)) && ps.toList.all (fun q => decide (0 ≤ (pc : Int) + q.2) && (decide (-2147483648 ≤ q.1) && decide (q.1 ≤ 2147483647)))))
  | _ => false
def ch_ (yn : MethodName) (rt : Option FieldType) (nL : Nat) (sw : Nat → List (Int × Nat)) (pc : Nat) (i : Instr) (ln : Nat) (e : en_) : Bool := ln == e.2.1 && match e.1 with
  | 0 => ch_0 yn.cls i ln e.2.2.2.2.2
  | 1 => ch_1 yn.cls i ln e.2.2.2.2.2
  | 2 => ch_2 i ln e.2.2.1 e.2.2.2.1
  | 3 => ch_3 nL i ln e.2.2.1 e.2.2.2.1
  | 4 => ch_4 nL i ln e.2.2.1 e.2.2.2.2.2
  | 5 => ch_5 i ln e.2.2.1
  | 6 => ch_6 i ln e.2.2.1
  | 7 => ch_7 i ln e.2.2.1
  | 8 => ch_8 i ln e.2.2.1
  | 9 => ch_9 i ln
  | 10 => ch_10 pc i ln e.2.2.1 e.2.2.2.1
  | 11 => ch_11 pc i ln e.2.2.1 e.2.2.2.1
  | 12 => ch_12 pc i ln e.2.2.2.1
  | 13 => ch_13 yn.cls i ln e.2.2.1 e.2.2.2.1 e.2.2.2.2.1
  | 14 => ch_14 yn i ln e.2.2.1 e.2.2.2.1 e.2.2.2.2.1 e.2.2.2.2.2
  | 15 => ch_15 i ln e.2.2.1
  | 16 => ch_16 i ln e.2.2.1 e.2.2.2.1
  | 17 => ch_17 i ln e.2.2.1
  | 18 => ln == 1 && decide (i = .dup)
  | 19 => ln == 1 && decide (i = .pop)
  | 20 => ln == 1 && decide (i = .dup2)
  | 21 => ch_21 yn.cls i ln e.2.2.1 e.2.2.2.1
  | 22 => ch_22 yn.cls i ln e.2.2.1
  | 24 => ch_24 yn.cls i ln e.2.2.1 e.2.2.2.1 e.2.2.2.2.1 e.2.2.2.2.2
  | 25 => ch_25 yn.cls i ln
  | 26 => ch_26 yn.cls i ln
  | 27 => ch_27 rt i ln e.2.2.1
  | 28 => ch_28 yn.cls i ln Lib.Math.max.name
  | 29 => ch_28 yn.cls i ln Lib.Math.min.name
  | 30 => ch_30 rt i ln
  | 31 => ch_31 sw pc i e.2.2.1 e.2.2.2.1
  | 32 => ln == 1 && decide (i = .iaload)
  | 33 => ln == 1 && decide (i = .arraylength)
  | _ => false
def ch_at (cc : ByteArray) (yn : MethodName) (rt : Option FieldType) (nL : Nat) (mt : mt_) (pc : Nat) : Bool := (mt.1 pc).1 == 99 || match decode cc pc with
  | .ok q => ch_ yn rt nL mt.2.2.1 pc q.1 q.2 (mt.1 pc)
  | .error _ => false
def nf_ (ci : Nat) : Nat := (fkl_.getD ci []).length
