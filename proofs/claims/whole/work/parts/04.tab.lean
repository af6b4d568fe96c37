/-! THE TABLES: methods by number, links of fields and of calls; each word by its place among the tables -/
abbrev mX0_init : Nat := 0
abbrev mX0_forget : Nat := 1
abbrev mX0_offer : Nat := 2
abbrev mX0_answer : Nat := 3
abbrev mX1_init : Nat := 4
abbrev mX1_become : Nat := 5
abbrev mX1_takeOver : Nat := 6
abbrev mX1_rooms : Nat := 7
abbrev mX1_hasRoom : Nat := 8
abbrev mX1_addRoom : Nat := 9
abbrev mX1_kindOf : Nat := 10
abbrev mX1_figureOf : Nat := 11
abbrev mX1_setKind : Nat := 12
abbrev mX1_setFigure : Nat := 13
abbrev mX1_isDone : Nat := 14
abbrev mX1_hasCard : Nat := 15
abbrev mX1_changeDone : Nat := 16
abbrev mX1_changeCard : Nat := 17
abbrev mX1_doneBits : Nat := 18
abbrev mX1_cardBits : Nat := 19
abbrev mX1_doneCount : Nat := 20
abbrev mX1_workOf : Nat := 21
abbrev mX1_linenOf : Nat := 22
abbrev mX1_tipOf : Nat := 23
abbrev mX1_tipsOf : Nat := 24
abbrev mX1_keepIn : Nat := 25
abbrev mX1_guestOut : Nat := 26
abbrev mX1_hasMaid : Nat := 27
abbrev mX1_hasPlace : Nat := 28
abbrev mX1_placeOf : Nat := 29
abbrev mX1_loadOf : Nat := 30
abbrev mX1_clockOf : Nat := 31
abbrev mX1_laterClock : Nat := 32
abbrev mX1_timesDown : Nat := 33
abbrev mX1_setPlace : Nat := 34
abbrev mX1_setLoad : Nat := 35
abbrev mX1_setClock : Nat := 36
abbrev mX1_pass : Nat := 37
abbrev mX1_goDown : Nat := 38
abbrev mX1_walkTo : Nat := 39
abbrev mX1_visitBy : Nat := 40
abbrev mX1_visitByBoth : Nat := 41
abbrev mX1_knock : Nat := 42
abbrev mX1_fetchLinen : Nat := 43
abbrev mX1_roundOver : Nat := 44
abbrev mX1_longRound : Nat := 45
abbrev mX2_isKind : Nat := 46
abbrev mX2_ofLetter : Nat := 47
abbrev mX2_isUnderLeft : Nat := 48
abbrev mX2_isOut : Nat := 49
abbrev mX2_work : Nat := 50
abbrev mX2_linen : Nat := 51
abbrev mX2_tip : Nat := 52
abbrev mX3_init : Nat := 53
abbrev mX3_length : Nat := 54
abbrev mX3_isFull : Nat := 55
abbrev mX3_take : Nat := 56
abbrev mX3_forget : Nat := 57
abbrev mX3_tellTo : Nat := 58
abbrev mX3_wrongLetter : Nat := 59
abbrev mX3_behindStatement : Nat := 60
abbrev mX3_wrongInStatement : Nat := 61
abbrev mX3_signsOf : Nat := 62
abbrev mX3_isSign : Nat := 63
abbrev mX3_letterAt : Nat := 64
abbrev mX3_comes : Nat := 65
abbrev mX3_maidComes : Nat := 66
abbrev mX4_init : Nat := 67
abbrev mX4_letter : Nat := 68
abbrev mX4_corridor : Nat := 69
abbrev mX4_room : Nat := 70
abbrev mX4_maid : Nat := 71
abbrev mX4_card : Nat := 72
abbrev mX4_undo : Nat := 73
abbrev mX4_turn : Nat := 74
abbrev mX4_places : Nat := 75
abbrev mX4_stays : Nat := 76
abbrev mX4_visits : Nat := 77
abbrev mX4_both : Nat := 78
abbrev mX4_down : Nat := 79
abbrev mX4_out : Nat := 80
abbrev mX4_nextOut : Nat := 81
abbrev mX4_howLong : Nat := 82
abbrev mX4_bothLong : Nat := 83
abbrev mX4_round : Nat := 84
abbrev mX4_swap : Nat := 85
abbrev mX4_nearest : Nat := 86
abbrev mX4_order : Nat := 87
abbrev mX4_share : Nat := 88
abbrev mX4_together : Nat := 89
abbrev mX4_leastLoad : Nat := 90
abbrev mX4_saves : Nat := 91
abbrev mX4_waitFor : Nat := 92
abbrev mX4_first : Nat := 93
abbrev mX4_cardBest : Nat := 94
abbrev mX4_tips : Nat := 95
abbrev mX4_dearest : Nat := 96
abbrev mX4_overlap : Nat := 97
abbrev mX4_two : Nat := 98
abbrev mX4_inspected : Nat := 99
abbrev mX4_likely : Nat := 100
abbrev mX4_mean : Nat := 101
abbrev mX4_whatIs : Nat := 102
abbrev mX4_row : Nat := 103
abbrev mX4_judge : Nat := 104
abbrev mX4_clear : Nat := 105
abbrev mX4_lots : Nat := 106
abbrev mX4_image : Nat := 107
abbrev mX4_on : Nat := 108
abbrev mX4_count : Nat := 109
abbrev mX4_refuse : Nat := 110
abbrev mX4_timesRefused : Nat := 111
abbrev mX4_refuseLong : Nat := 112
abbrev mX4_minuteRefusal : Nat := 113
abbrev mX4_setRefusal : Nat := 114
abbrev mX4_areTwoRooms : Nat := 115
abbrev mX4_think : Nat := 116
abbrev mX4_thoughtMinutes : Nat := 117
abbrev mX4_thinkRow : Nat := 118
abbrev mX4_numberAt : Nat := 119
abbrev mX4_seekOrder : Nat := 120
abbrev mX4_pathNumber : Nat := 121
abbrev mX4_pathAt : Nat := 122
abbrev mX4_nextPath : Nat := 123
abbrev mX4_exchange : Nat := 124
abbrev mX4_neitherWouldChange : Nat := 125
abbrev mX4_clockBehind : Nat := 126
abbrev mX4_mostWork : Nat := 127
abbrev mX4_outNow : Nat := 128
abbrev mX4_linenLeft : Nat := 129
abbrev mX4_kindsByRow : Nat := 130
abbrev mX4_figuresByRow : Nat := 131
abbrev mX4_rowIsSo : Nat := 132
abbrev mX4_nextSeed : Nat := 133
abbrev mX4_drawBelowTen : Nat := 134
abbrev mX4_power : Nat := 135
abbrev mX4_partOf : Nat := 136
abbrev mX4_commonDivisor : Nat := 137
abbrev mX5_init : Nat := 138
abbrev mX5_no : Nat := 139
abbrev mX5_lowestOf : Nat := 140
abbrev mX5_isIn : Nat := 141
abbrev mX5_bound : Nat := 142
abbrev mX5_has : Nat := 143
abbrev mX5_bits : Nat := 144
abbrev mX5_apart : Nat := 145
abbrev mX5_isRoom : Nat := 146
abbrev mX5_isMaid : Nat := 147
abbrev mX5_areTwo : Nat := 148
abbrev mX5_letter : Nat := 149
abbrev mX5_letterNow : Nat := 150
abbrev mX5_readsDigits : Nat := 151
abbrev mX5_kindTold : Nat := 152
abbrev mX5_readsKind : Nat := 153
abbrev mX5_readsAll : Nat := 154
abbrev mX5_statement : Nat := 155
abbrev mX5_comesRoom : Nat := 156
abbrev mX5_comesOther : Nat := 157
abbrev mX5_comesMaid : Nat := 158
abbrev mX5_comesClock : Nat := 159
abbrev mX5_comesVisit : Nat := 160
abbrev mX5_comesBoth : Nat := 161
abbrev mX5_comesTold : Nat := 162
abbrev mX5_corridor : Nat := 163
abbrev mX5_passes : Nat := 164
abbrev mX5_passesAll : Nat := 165
abbrev mX5_minds : Nat := 166
abbrev mX5_forgets : Nat := 167
abbrev mX5_image : Nat := 168
abbrev mX5_on : Nat := 169
abbrev mX5_isOutBy : Nat := 170
abbrev mX5_isOut : Nat := 171
abbrev mX5_work : Nat := 172
abbrev mX5_linen : Nat := 173
abbrev mX5_tip : Nat := 174
abbrev mX5_setOf : Nat := 175
abbrev mX5_manyDone : Nat := 176
abbrev mX5_stepsTo : Nat := 177
abbrev mX5_atDoor : Nat := 178
abbrev mX5_visit : Nat := 179
abbrev mX5_later : Nat := 180
abbrev mX5_visitBoth : Nat := 181
abbrev mX5_longRound : Nat := 182
abbrev mX5_room : Nat := 183
abbrev mX5_maid : Nat := 184
abbrev mX5_other : Nat := 185
abbrev mX5_card : Nat := 186
abbrev mX5_undo : Nat := 187
abbrev mX5_turn : Nat := 188
abbrev mX5_places : Nat := 189
abbrev mX5_stays : Nat := 190
abbrev mX5_visits : Nat := 191
abbrev mX5_both : Nat := 192
abbrev mX5_down : Nat := 193
abbrev mX5_goesDown : Nat := 194
abbrev mX5_notMinute : Nat := 195
abbrev mX5_out : Nat := 196
abbrev mX5_nextOut : Nat := 197
abbrev mX5_visitThought : Nat := 198
abbrev mX5_howLong : Nat := 199
abbrev mX5_bothLong : Nat := 200
abbrev mX5_roundMinutes : Nat := 201
abbrev mX5_round : Nat := 202
abbrev mX5_changesPlaces : Nat := 203
abbrev mX5_swap : Nat := 204
abbrev mX5_nearest : Nat := 205
abbrev mX5_lists : Nat := 206
abbrev mX5_codes : Nat := 207
abbrev mX5_orderOf : Nat := 208
abbrev mX5_orderMinutes : Nat := 209
abbrev mX5_order : Nat := 210
abbrev mX5_shares : Nat := 211
abbrev mX5_share : Nat := 212
abbrev mX5_together : Nat := 213
abbrev mX5_longMinutes : Nat := 214
abbrev mX5_leastLoad : Nat := 215
abbrev mX5_saves : Nat := 216
abbrev mX5_waitFor : Nat := 217
abbrev mX5_first : Nat := 218
abbrev mX5_cardBest : Nat := 219
abbrev mX5_tipsOf : Nat := 220
abbrev mX5_tips : Nat := 221
abbrev mX5_dearestNow : Nat := 222
abbrev mX5_outNow : Nat := 223
abbrev mX5_linenLeft : Nat := 224
abbrev mX5_dearest : Nat := 225
abbrev mX5_overlap : Nat := 226
abbrev mX5_findEnds : Nat := 227
abbrev mX5_two : Nat := 228
abbrev mX5_divisor : Nat := 229
abbrev mX5_partOf : Nat := 230
abbrev mX5_choose : Nat := 231
abbrev mX5_inspected : Nat := 232
abbrev mX5_likely : Nat := 233
abbrev mX5_mean : Nat := 234
abbrev mX5_isToldSo : Nat := 235
abbrev mX5_whatIs : Nat := 236
abbrev mX5_row : Nat := 237
abbrev mX5_judge : Nat := 238
abbrev mX5_clear : Nat := 239
abbrev mX5_draw : Nat := 240
abbrev mX5_lots : Nat := 241
abbrev mX5_count : Nat := 242
abbrev mL_law : Nat := 243
abbrev mJ6_bitCount_0f7a4 : Nat := 244
abbrev mJ9_abs_0f7a4 : Nat := 245
abbrev mJ9_max_7cf53 : Nat := 246
abbrev MI : Type := MethodName × ByteArray × Nat × Option FieldType × Nat × Bool × Nat × Nat × Nat
def mtab_0 : List MI := [(yX0_init, cX0_init, 1, none, 0, false, 0, 0, 0), (yX0_forget, cX0_forget, 1, none, 0, false, 0, 0, 0), (yX0_offer, cX0_offer, 5, none, 0, false, 3, 0, 0), (yX0_answer, cX0_answer, 2, (some .int), 0, false, 1, 0, 0), (yX1_init, cX1_init, 2, none, 1, false, 0, 0, 0), (yX1_become, cX1_become, 2, none, 1, false, 1, 1, 22), (yX1_takeOver, cX1_takeOver, 3, none, 1, true, 2, 0, 0), (yX1_rooms, cX1_rooms, 1, (some .int), 1, false, 0, 0, 0), (yX1_hasRoom, cX1_hasRoom, 2, (some .boolean), 1, false, 1, 0, 0), (yX1_addRoom, cX1_addRoom, 3, (some .boolean), 1, false, 2, 1, 22), (yX1_kindOf, cX1_kindOf, 2, (some .int), 1, false, 1, 0, 0), (yX1_figureOf, cX1_figureOf, 2, (some .int), 1, false, 1, 0, 0), (yX1_setKind, cX1_setKind, 3, none, 1, false, 2, 0, 0), (yX1_setFigure, cX1_setFigure, 3, none, 1, false, 2, 0, 0), (yX1_isDone, cX1_isDone, 2, (some .boolean), 1, false, 1, 0, 0), (yX1_hasCard, cX1_hasCard, 2, (some .boolean), 1, false, 1, 0, 0), (yX1_changeDone, cX1_changeDone, 2, none, 1, false, 1, 0, 0), (yX1_changeCard, cX1_changeCard, 2, none, 1, false, 1, 0, 0), (yX1_doneBits, cX1_doneBits, 1, (some .int), 1, false, 0, 0, 0), (yX1_cardBits, cX1_cardBits, 1, (some .int), 1, false, 0, 0, 0), (yX1_doneCount, cX1_doneCount, 1, (some .int), 1, false, 0, 1, 20), (yX1_workOf, cX1_workOf, 2, (some .int), 1, false, 1, 1, 21), (yX1_linenOf, cX1_linenOf, 2, (some .int), 1, false, 1, 1, 21), (yX1_tipOf, cX1_tipOf, 2, (some .int), 1, false, 1, 1, 21), (yX1_tipsOf, cX1_tipsOf, 4, (some .int), 1, false, 1, 2, 42), (yX1_keepIn, cX1_keepIn, 2, none, 1, false, 1, 0, 0), (yX1_guestOut, cX1_guestOut, 3, (some .boolean), 1, false, 2, 1, 22), (yX1_hasMaid, cX1_hasMaid, 2, (some .boolean), 1, false, 1, 0, 0), (yX1_hasPlace, cX1_hasPlace, 2, (some .boolean), 1, false, 1, 0, 0), (yX1_placeOf, cX1_placeOf, 2, (some .int), 1, false, 1, 0, 0), (yX1_loadOf, cX1_loadOf, 2, (some .int), 1, false, 1, 0, 0), (yX1_clockOf, cX1_clockOf, 2, (some .int), 1, false, 1, 0, 0), (yX1_laterClock, cX1_laterClock, 1, (some .int), 1, false, 0, 1, 21), (yX1_timesDown, cX1_timesDown, 1, (some .int), 1, false, 0, 0, 0), (yX1_setPlace, cX1_setPlace, 3, none, 1, false, 2, 0, 0), (yX1_setLoad, cX1_setLoad, 3, none, 1, false, 2, 0, 0), (yX1_setClock, cX1_setClock, 3, none, 1, false, 2, 0, 0), (yX1_pass, cX1_pass, 3, none, 1, false, 2, 0, 0), (yX1_goDown, cX1_goDown, 2, none, 1, false, 1, 2, 44), (yX1_walkTo, cX1_walkTo, 3, none, 1, false, 2, 1, 22), (yX1_visitBy, cX1_visitBy, 3, (some .int), 1, false, 2, 3, 67)]
def mtab_1 : List MI := [(yX1_visitByBoth, cX1_visitByBoth, 3, (some .int), 1, false, 1, 3, 67), (yX1_knock, cX1_knock, 4, (some .int), 1, false, 3, 2, 44), (yX1_fetchLinen, cX1_fetchLinen, 2, none, 1, false, 1, 1, 22), (yX1_roundOver, cX1_roundOver, 4, none, 1, false, 2, 4, 89), (yX1_longRound, cX1_longRound, 2, none, 1, false, 1, 5, 112), (yX2_isKind, cX2_isKind, 1, (some .boolean), 2, true, 1, 0, 0), (yX2_ofLetter, cX2_ofLetter, 1, (some .int), 2, true, 1, 0, 0), (yX2_isUnderLeft, cX2_isUnderLeft, 1, (some .boolean), 2, true, 1, 0, 0), (yX2_isOut, cX2_isOut, 3, (some .boolean), 2, true, 3, 0, 0), (yX2_work, cX2_work, 2, (some .int), 2, true, 2, 0, 0), (yX2_linen, cX2_linen, 1, (some .int), 2, true, 1, 0, 0), (yX2_tip, cX2_tip, 2, (some .int), 2, true, 2, 0, 0), (yX3_init, cX3_init, 1, none, 3, false, 0, 0, 0), (yX3_length, cX3_length, 1, (some .int), 3, false, 0, 0, 0), (yX3_isFull, cX3_isFull, 1, (some .boolean), 3, false, 0, 0, 0), (yX3_take, cX3_take, 2, (some .int), 3, false, 1, 0, 0), (yX3_forget, cX3_forget, 1, none, 3, false, 0, 0, 0), (yX3_tellTo, cX3_tellTo, 5, (some .int), 3, false, 1, 5, 115), (yX3_wrongLetter, cX3_wrongLetter, 4, (some .int), 3, false, 0, 3, 67), (yX3_behindStatement, cX3_behindStatement, 2, (some .int), 3, false, 1, 1, 21), (yX3_wrongInStatement, cX3_wrongInStatement, 4, (some .int), 3, false, 1, 2, 44), (yX3_signsOf, cX3_signsOf, 1, (some .int), 3, true, 1, 0, 0), (yX3_isSign, cX3_isSign, 4, (some .boolean), 3, false, 2, 1, 21), (yX3_letterAt, cX3_letterAt, 2, (some .int), 3, false, 1, 0, 0), (yX3_comes, cX3_comes, 7, (some .boolean), 3, false, 2, 4, 89), (yX3_maidComes, cX3_maidComes, 4, (some .boolean), 3, true, 4, 1, 22), (yX4_init, cX4_init, 1, none, 4, false, 0, 0, 0), (yX4_letter, cX4_letter, 2, (some .int), 4, false, 1, 1, 22), (yX4_corridor, cX4_corridor, 2, (some .int), 4, false, 0, 6, 139), (yX4_room, cX4_room, 3, (some .int), 4, false, 2, 2, 42), (yX4_maid, cX4_maid, 3, (some .int), 4, false, 2, 1, 22), (yX4_card, cX4_card, 2, (some .int), 4, false, 1, 1, 22), (yX4_undo, cX4_undo, 2, (some .int), 4, false, 1, 1, 22), (yX4_turn, cX4_turn, 5, (some .int), 4, false, 3, 1, 22), (yX4_places, cX4_places, 5, (some .int), 4, false, 3, 1, 22), (yX4_stays, cX4_stays, 3, (some .int), 4, false, 2, 1, 22), (yX4_visits, cX4_visits, 4, (some .int), 4, false, 2, 4, 89), (yX4_both, cX4_both, 3, (some .int), 4, false, 1, 4, 89), (yX4_down, cX4_down, 3, (some .int), 4, false, 1, 3, 65), (yX4_out, cX4_out, 4, (some .int), 4, false, 2, 2, 44), (yX4_nextOut, cX4_nextOut, 5, (some .int), 4, false, 2, 2, 44)]
def mtab_2 : List MI := [(yX4_howLong, cX4_howLong, 5, (some .int), 4, false, 3, 4, 89), (yX4_bothLong, cX4_bothLong, 4, (some .int), 4, false, 2, 4, 89), (yX4_round, cX4_round, 3, (some .int), 4, false, 2, 5, 112), (yX4_swap, cX4_swap, 6, (some .int), 4, false, 1, 5, 112), (yX4_nearest, cX4_nearest, 7, (some .int), 4, false, 1, 4, 89), (yX4_order, cX4_order, 5, (some .int), 4, false, 3, 5, 115), (yX4_share, cX4_share, 5, (some .int), 4, false, 2, 5, 112), (yX4_together, cX4_together, 5, (some .int), 4, false, 2, 4, 89), (yX4_leastLoad, cX4_leastLoad, 3, (some .int), 4, false, 1, 6, 133), (yX4_saves, cX4_saves, 4, (some .int), 4, false, 1, 6, 133), (yX4_waitFor, cX4_waitFor, 9, (some .int), 4, false, 3, 4, 89), (yX4_first, cX4_first, 4, (some .int), 4, false, 1, 4, 89), (yX4_cardBest, cX4_cardBest, 6, (some .int), 4, false, 1, 6, 133), (yX4_tips, cX4_tips, 8, (some .int), 4, false, 1, 3, 65), (yX4_dearest, cX4_dearest, 2, (some .int), 4, false, 1, 3, 66), (yX4_overlap, cX4_overlap, 7, (some .int), 4, false, 3, 2, 44), (yX4_two, cX4_two, 3, (some .int), 4, false, 2, 6, 136), (yX4_inspected, cX4_inspected, 8, (some .long), 4, false, 2, 2, 56), (yX4_likely, cX4_likely, 9, (some .long), 4, false, 4, 6, 133), (yX4_mean, cX4_mean, 7, (some .long), 4, false, 1, 2, 56), (yX4_whatIs, cX4_whatIs, 3, (some .int), 4, false, 2, 3, 69), (yX4_row, cX4_row, 2, (some .int), 4, false, 1, 1, 22), (yX4_judge, cX4_judge, 4, (some .int), 4, false, 0, 5, 112), (yX4_clear, cX4_clear, 2, (some .int), 4, false, 0, 0, 0), (yX4_lots, cX4_lots, 9, (some .int), 4, false, 3, 6, 133), (yX4_image, cX4_image, 1, (some .int), 4, false, 0, 2, 43), (yX4_on, cX4_on, 1, (some .int), 4, false, 0, 2, 43), (yX4_count, cX4_count, 2, (some .int), 4, false, 1, 2, 41), (yX4_refuse, cX4_refuse, 3, (some .int), 4, false, 1, 0, 0), (yX4_timesRefused, cX4_timesRefused, 2, (some .int), 4, false, 1, 0, 0), (yX4_refuseLong, cX4_refuseLong, 2, (some .long), 4, false, 1, 1, 22), (yX4_minuteRefusal, cX4_minuteRefusal, 3, (some .int), 4, false, 2, 1, 21), (yX4_setRefusal, cX4_setRefusal, 2, (some .int), 4, false, 1, 1, 20), (yX4_areTwoRooms, cX4_areTwoRooms, 3, (some .boolean), 4, false, 2, 1, 21), (yX4_think, cX4_think, 1, none, 4, false, 0, 2, 43), (yX4_thoughtMinutes, cX4_thoughtMinutes, 2, (some .int), 4, false, 1, 1, 21), (yX4_thinkRow, cX4_thinkRow, 4, none, 4, false, 1, 4, 89), (yX4_numberAt, cX4_numberAt, 2, (some .int), 4, false, 1, 0, 0), (yX4_seekOrder, cX4_seekOrder, 7, none, 4, false, 2, 4, 89), (yX4_pathNumber, cX4_pathNumber, 4, (some .int), 4, false, 1, 1, 21), (yX4_pathAt, cX4_pathAt, 2, (some .int), 4, false, 1, 0, 0)]
def mtab_3 : List MI := [(yX4_nextPath, cX4_nextPath, 6, (some .boolean), 4, false, 1, 1, 23), (yX4_exchange, cX4_exchange, 4, none, 4, true, 3, 0, 0), (yX4_neitherWouldChange, cX4_neitherWouldChange, 5, (some .boolean), 4, false, 4, 5, 112), (yX4_clockBehind, cX4_clockBehind, 4, (some .int), 4, false, 3, 4, 89), (yX4_mostWork, cX4_mostWork, 4, (some .int), 4, false, 0, 2, 42), (yX4_outNow, cX4_outNow, 3, (some .int), 4, false, 0, 2, 44), (yX4_linenLeft, cX4_linenLeft, 3, (some .int), 4, false, 0, 2, 42), (yX4_kindsByRow, cX4_kindsByRow, 4, (some .int), 4, false, 1, 2, 46), (yX4_figuresByRow, cX4_figuresByRow, 4, (some .int), 4, false, 1, 2, 46), (yX4_rowIsSo, cX4_rowIsSo, 5, (some .boolean), 4, false, 2, 1, 22), (yX4_nextSeed, cX4_nextSeed, 1, (some .int), 4, true, 1, 0, 0), (yX4_drawBelowTen, cX4_drawBelowTen, 1, (some .int), 4, true, 1, 0, 0), (yX4_power, cX4_power, 6, (some .long), 4, true, 2, 0, 0), (yX4_partOf, cX4_partOf, 7, (some .long), 4, true, 3, 1, 30), (yX4_commonDivisor, cX4_commonDivisor, 11, (some .long), 4, true, 2, 0, 0), (yX5_init, cX5_init, 1, none, 5, false, 0, 0, 0), (yX5_no, cX5_no, 2, (some .int), 5, false, 1, 0, 0), (yX5_lowestOf, cX5_lowestOf, 2, (some .long), 5, false, 1, 0, 0), (yX5_isIn, cX5_isIn, 3, (some .boolean), 5, true, 3, 0, 0), (yX5_bound, cX5_bound, 3, (some .int), 5, true, 3, 0, 0), (yX5_has, cX5_has, 2, (some .boolean), 5, true, 2, 0, 0), (yX5_bits, cX5_bits, 3, (some .int), 5, true, 1, 0, 0), (yX5_apart, cX5_apart, 2, (some .int), 5, true, 2, 0, 0), (yX5_isRoom, cX5_isRoom, 2, (some .boolean), 5, false, 1, 1, 22), (yX5_isMaid, cX5_isMaid, 1, (some .boolean), 5, true, 1, 1, 22), (yX5_areTwo, cX5_areTwo, 3, (some .boolean), 5, false, 2, 2, 43), (yX5_letter, cX5_letter, 3, (some .int), 5, false, 1, 1, 22), (yX5_letterNow, cX5_letterNow, 1, (some .int), 5, false, 0, 0, 0), (yX5_readsDigits, cX5_readsDigits, 4, (some .boolean), 5, false, 1, 1, 22), (yX5_kindTold, cX5_kindTold, 1, (some .int), 5, true, 1, 0, 0), (yX5_readsKind, cX5_readsKind, 2, (some .boolean), 5, false, 0, 1, 20), (yX5_readsAll, cX5_readsAll, 2, (some .boolean), 5, false, 1, 2, 45), (yX5_statement, cX5_statement, 2, (some .boolean), 5, false, 0, 3, 66), (yX5_comesRoom, cX5_comesRoom, 3, (some .boolean), 5, false, 2, 0, 0), (yX5_comesOther, cX5_comesOther, 3, (some .boolean), 5, false, 2, 2, 43), (yX5_comesMaid, cX5_comesMaid, 4, (some .boolean), 5, false, 3, 2, 42), (yX5_comesClock, cX5_comesClock, 3, (some .boolean), 5, false, 2, 2, 42), (yX5_comesVisit, cX5_comesVisit, 3, (some .boolean), 5, false, 2, 4, 89), (yX5_comesBoth, cX5_comesBoth, 2, (some .boolean), 5, false, 1, 4, 89), (yX5_comesTold, cX5_comesTold, 3, (some .boolean), 5, false, 1, 5, 111), (yX5_corridor, cX5_corridor, 3, (some .int), 5, false, 0, 6, 133)]
def mtab_4 : List MI := [(yX5_passes, cX5_passes, 3, none, 5, false, 1, 0, 0), (yX5_passesAll, cX5_passesAll, 3, none, 5, false, 2, 1, 22), (yX5_minds, cX5_minds, 1, none, 5, false, 0, 2, 44), (yX5_forgets, cX5_forgets, 1, none, 5, false, 0, 2, 44), (yX5_image, cX5_image, 1, (some .int), 5, false, 0, 2, 44), (yX5_on, cX5_on, 1, (some .int), 5, false, 0, 2, 44), (yX5_isOutBy, cX5_isOutBy, 3, (some .boolean), 5, true, 3, 0, 0), (yX5_isOut, cX5_isOut, 3, (some .boolean), 5, false, 2, 1, 22), (yX5_work, cX5_work, 2, (some .int), 5, false, 1, 0, 0), (yX5_linen, cX5_linen, 2, (some .int), 5, false, 1, 0, 0), (yX5_tip, cX5_tip, 2, (some .int), 5, false, 1, 0, 0), (yX5_setOf, cX5_setOf, 4, (some .int), 5, false, 1, 0, 0), (yX5_manyDone, cX5_manyDone, 1, (some .int), 5, false, 0, 1, 23), (yX5_stepsTo, cX5_stepsTo, 3, none, 5, false, 2, 1, 21), (yX5_atDoor, cX5_atDoor, 4, (some .int), 5, false, 3, 2, 44), (yX5_visit, cX5_visit, 3, (some .int), 5, false, 2, 3, 67), (yX5_later, cX5_later, 1, (some .int), 5, false, 0, 0, 0), (yX5_visitBoth, cX5_visitBoth, 3, (some .int), 5, false, 1, 3, 67), (yX5_longRound, cX5_longRound, 3, none, 5, false, 1, 4, 89), (yX5_room, cX5_room, 3, (some .int), 5, false, 2, 2, 43), (yX5_maid, cX5_maid, 3, (some .int), 5, false, 2, 2, 42), (yX5_other, cX5_other, 3, (some .int), 5, false, 2, 2, 43), (yX5_card, cX5_card, 2, (some .int), 5, false, 1, 3, 65), (yX5_undo, cX5_undo, 2, (some .int), 5, false, 1, 3, 65), (yX5_turn, cX5_turn, 6, (some .int), 5, false, 3, 2, 43), (yX5_places, cX5_places, 6, (some .int), 5, false, 3, 2, 42), (yX5_stays, cX5_stays, 4, (some .int), 5, false, 2, 2, 42), (yX5_visits, cX5_visits, 4, (some .int), 5, false, 2, 4, 89), (yX5_both, cX5_both, 3, (some .int), 5, false, 1, 4, 89), (yX5_down, cX5_down, 3, (some .int), 5, false, 1, 2, 42), (yX5_goesDown, cX5_goesDown, 2, none, 5, false, 1, 0, 0), (yX5_notMinute, cX5_notMinute, 1, (some .int), 5, true, 1, 1, 22), (yX5_out, cX5_out, 4, (some .int), 5, false, 2, 2, 44), (yX5_nextOut, cX5_nextOut, 5, (some .int), 5, false, 2, 2, 44), (yX5_visitThought, cX5_visitThought, 6, (some .int), 5, false, 3, 4, 89), (yX5_howLong, cX5_howLong, 6, (some .int), 5, false, 3, 5, 114), (yX5_bothLong, cX5_bothLong, 7, (some .int), 5, false, 2, 4, 89), (yX5_roundMinutes, cX5_roundMinutes, 4, (some .int), 5, false, 1, 4, 89), (yX5_round, cX5_round, 5, (some .int), 5, false, 2, 5, 112), (yX5_changesPlaces, cX5_changesPlaces, 4, none, 5, false, 2, 0, 0), (yX5_swap, cX5_swap, 7, (some .int), 5, false, 1, 5, 112)]
def mtab_5 : List MI := [(yX5_nearest, cX5_nearest, 5, (some .int), 5, false, 1, 5, 114), (yX5_lists, cX5_lists, 3, none, 5, false, 1, 1, 21), (yX5_codes, cX5_codes, 3, (some .int), 5, false, 0, 0, 0), (yX5_orderOf, cX5_orderOf, 7, (some .int), 5, false, 1, 1, 22), (yX5_orderMinutes, cX5_orderMinutes, 6, (some .int), 5, false, 2, 4, 89), (yX5_order, cX5_order, 11, (some .int), 5, false, 3, 5, 114), (yX5_shares, cX5_shares, 4, none, 5, false, 2, 4, 89), (yX5_share, cX5_share, 8, (some .int), 5, false, 2, 5, 112), (yX5_together, cX5_together, 7, (some .int), 5, false, 2, 4, 89), (yX5_longMinutes, cX5_longMinutes, 5, (some .int), 5, false, 1, 4, 89), (yX5_leastLoad, cX5_leastLoad, 5, (some .int), 5, false, 1, 5, 113), (yX5_saves, cX5_saves, 7, (some .int), 5, false, 1, 5, 113), (yX5_waitFor, cX5_waitFor, 8, (some .int), 5, false, 3, 5, 114), (yX5_first, cX5_first, 2, (some .int), 5, false, 1, 5, 113), (yX5_cardBest, cX5_cardBest, 7, (some .int), 5, false, 1, 5, 113), (yX5_tipsOf, cX5_tipsOf, 4, (some .int), 5, false, 1, 1, 21), (yX5_tips, cX5_tips, 6, (some .int), 5, false, 1, 2, 44), (yX5_dearestNow, cX5_dearestNow, 3, (some .int), 5, false, 0, 1, 21), (yX5_outNow, cX5_outNow, 3, (some .int), 5, false, 0, 2, 44), (yX5_linenLeft, cX5_linenLeft, 3, (some .int), 5, false, 0, 1, 21), (yX5_dearest, cX5_dearest, 2, (some .int), 5, false, 1, 3, 66), (yX5_overlap, cX5_overlap, 7, (some .int), 5, false, 3, 3, 65), (yX5_findEnds, cX5_findEnds, 6, none, 5, false, 2, 4, 89), (yX5_two, cX5_two, 4, (some .int), 5, false, 2, 5, 114), (yX5_divisor, cX5_divisor, 10, (some .long), 5, true, 2, 0, 0), (yX5_partOf, cX5_partOf, 5, (some .long), 5, true, 3, 1, 29), (yX5_choose, cX5_choose, 5, (some .long), 5, true, 2, 0, 0), (yX5_inspected, cX5_inspected, 4, (some .long), 5, false, 2, 2, 53), (yX5_likely, cX5_likely, 14, (some .long), 5, false, 4, 5, 113), (yX5_mean, cX5_mean, 6, (some .long), 5, false, 1, 2, 53), (yX5_isToldSo, cX5_isToldSo, 4, (some .boolean), 5, false, 2, 1, 22), (yX5_whatIs, cX5_whatIs, 7, (some .int), 5, false, 2, 2, 45), (yX5_row, cX5_row, 3, (some .int), 5, false, 1, 1, 22), (yX5_judge, cX5_judge, 3, (some .int), 5, false, 0, 5, 112), (yX5_clear, cX5_clear, 2, (some .int), 5, false, 0, 0, 0), (yX5_draw, cX5_draw, 2, (some .int), 5, false, 1, 0, 0), (yX5_lots, cX5_lots, 9, (some .int), 5, false, 3, 5, 111), (yX5_count, cX5_count, 2, (some .int), 5, false, 1, 2, 43), (yL_law, cL_law, 4, (some .boolean), 6, true, 1, 9, 324), (yJ6_bitCount_0f7a4, cJ6_bitCount_0f7a4, 1, (some .int), 7, true, 1, 0, 0), (yJ9_abs_0f7a4, cJ9_abs_0f7a4, 1, (some .int), 8, true, 1, 0, 0)]
def mtab_6 : List MI := [(yJ9_max_7cf53, cJ9_max_7cf53, 2, (some .int), 8, true, 2, 0, 0)]
def mtab : List MI := mtab_0 ++ (mtab_1 ++ (mtab_2 ++ (mtab_3 ++ (mtab_4 ++ (mtab_5 ++ (mtab_6))))))
def mi (k : Nat) : MI := mtab.getD k (yL_law, cL_law, 0, none, 0, false, 0, 0, 0)
def mY (k : Nat) : MethodName := (mi k).1
def mB (k : Nat) : ByteArray := (mi k).2.1
def mL (k : Nat) : Nat := (mi k).2.2.1
def mR (k : Nat) : Option FieldType := (mi k).2.2.2.1
def mO (k : Nat) : Nat := (mi k).2.2.2.2.1
def mS (k : Nat) : Bool := (mi k).2.2.2.2.2.1
def mA (k : Nat) : Nat := (mi k).2.2.2.2.2.2.1
def mF (k : Nat) : Nat := (mi k).2.2.2.2.2.2.2.1
def mQ (k : Nat) : Nat := (mi k).2.2.2.2.2.2.2.2
def cN (k : Nat) : String := match k with
  | 0 => RX0
  | 1 => RX1
  | 2 => RX2
  | 3 => RX3
  | 4 => RX4
  | 5 => RX5
  | 6 => RL
  | 7 => RJ6
  | _ => RJ9
/-- the class table of the worlds for a class number -/
def ciO (k : Nat) : Nat := match k with
  | 0 => 0
  | 1 => 1
  | 3 => 2
  | 4 => 3
  | 5 => 4
  | _ => 99
/-- the methods that instructions of the walked ones may call: all but the constructors and the law -/
def mks : List Nat := [1, 2, 3, 5, 6, 7, 8, 9, 10, 11, 12, 13, 14, 15, 16, 17, 18, 19, 20, 21, 22, 23, 24, 25, 26, 27, 28, 29, 30, 31, 32, 33, 34, 35, 36, 37, 38, 39, 40, 41] ++ ([42, 43, 44, 45, 46, 47, 48, 49, 50, 51, 52, 54, 55, 56, 57, 58, 59, 60, 61, 62, 63, 64, 65, 66, 68, 69, 70, 71, 72, 73, 74, 75, 76, 77, 78, 79, 80, 81, 82, 83] ++ ([84, 85, 86, 87, 88, 89, 90, 91, 92, 93, 94, 95, 96, 97, 98, 99, 100, 101, 102, 103, 104, 105, 106, 107, 108, 109, 110, 111, 112, 113, 114, 115, 116, 117, 118, 119, 120, 121, 122, 123] ++ ([124, 125, 126, 127, 128, 129, 130, 131, 132, 133, 134, 135, 136, 137, 139, 140, 141, 142, 143, 144, 145, 146, 147, 148, 149, 150, 151, 152, 153, 154, 155, 156, 157, 158, 159, 160, 161, 162, 163, 164] ++ ([165, 166, 167, 168, 169, 170, 171, 172, 173, 174, 175, 176, 177, 178, 179, 180, 181, 182, 183, 184, 185, 186, 187, 188, 189, 190, 191, 192, 193, 194, 195, 196, 197, 198, 199, 200, 201, 202, 203, 204] ++ ([205, 206, 207, 208, 209, 210, 211, 212, 213, 214, 215, 216, 217, 218, 219, 220, 221, 222, 223, 224, 225, 226, 227, 228, 229, 230, 231, 232, 233, 234, 235, 236, 237, 238, 239, 240, 241, 242, 244])))))
def clk : List (Nat × Nat × Nat) := [(6, 13, 68), (4, 54, 110), (4, 58, 55), (4, 62, 56), (6, 18, 69), (4, 65, 116), (4, 72, 5), (1, 41, 6), (4, 68, 58), (3, 19, 59), (3, 31, 61), (3, 34, 64), (3, 37, 62), (3, 40, 63), (3, 44, 47), (3, 27, 60), (3, 23, 65), (3, 49, 9), (1, 45, 12), (1, 49, 13), (3, 54, 8), (3, 58, 17), (3, 62, 16), (3, 65, 66), (3, 69, 27), (3, 86, 28), (3, 89, 34), (3, 92, 35), (3, 72, 36), (3, 76, 40), (1, 91, 39), (1, 100, 29), (1, 103, 245), (1, 94, 37), (1, 106, 34), (1, 109, 21), (1, 58, 10), (1, 61, 11), (1, 64, 50), (1, 112, 42)] ++ ([(1, 123, 14), (1, 127, 15), (1, 83, 31), (1, 130, 26), (1, 79, 49), (1, 134, 30), (1, 137, 22), (1, 70, 51), (1, 140, 43), (1, 97, 35), (1, 144, 16), (3, 80, 32), (1, 86, 246), (3, 83, 41), (1, 116, 32), (1, 120, 36), (4, 76, 57), (6, 23, 70), (4, 79, 8), (4, 83, 10), (4, 86, 11), (4, 89, 14), (4, 92, 15), (4, 95, 21), (4, 98, 22), (4, 101, 23), (1, 73, 52), (6, 28, 71), (4, 104, 27), (4, 107, 29), (4, 110, 30), (4, 113, 31), (6, 32, 72), (4, 116, 17), (6, 36, 73), (4, 120, 16), (6, 40, 74), (4, 123, 46), (4, 128, 12), (4, 132, 13)] ++ ([(6, 45, 75), (4, 135, 28), (4, 138, 34), (4, 141, 35), (6, 49, 76), (4, 144, 37), (6, 53, 77), (4, 147, 40), (6, 57, 78), (4, 151, 41), (4, 154, 32), (6, 61, 79), (4, 158, 38), (4, 161, 117), (6, 65, 80), (4, 164, 113), (4, 167, 26), (6, 69, 81), (6, 73, 82), (6, 77, 83), (6, 81, 84), (4, 171, 118), (4, 266, 119), (4, 174, 18), (4, 177, 33), (6, 85, 85), (4, 180, 124), (6, 89, 86), (4, 184, 7), (6, 93, 87), (4, 187, 114), (4, 190, 244), (4, 195, 120), (4, 201, 1), (4, 286, 122), (4, 289, 121), (4, 205, 20), (1, 52, 244), (4, 208, 2), (4, 292, 123)] ++ ([(4, 198, 3), (6, 97, 88), (4, 202, 44), (1, 147, 40), (6, 101, 89), (4, 212, 115), (6, 105, 90), (4, 215, 45), (1, 150, 44), (6, 109, 91), (4, 218, 246), (6, 113, 92), (6, 117, 93), (4, 223, 48), (6, 121, 94), (6, 125, 95), (4, 226, 24), (1, 76, 23), (4, 229, 245), (6, 129, 96), (4, 232, 127), (4, 235, 128), (4, 238, 129), (6, 133, 97), (6, 137, 98), (4, 241, 125), (4, 295, 126), (6, 141, 99), (4, 245, 112), (4, 249, 136), (4, 309, 137), (6, 146, 100), (4, 253, 25), (4, 256, 135), (6, 151, 101), (6, 156, 102), (4, 260, 130), (4, 299, 132), (4, 302, 49), (4, 263, 131)] ++ ([(6, 160, 103), (6, 164, 104), (6, 168, 105), (6, 172, 106), (4, 269, 133), (4, 272, 134), (6, 176, 107), (6, 180, 108), (6, 184, 109), (4, 275, 111), (4, 278, 19), (4, 281, 54), (6, 17, 149), (5, 72, 142), (5, 79, 139), (6, 22, 163), (5, 142, 155), (5, 86, 150), (5, 106, 154), (5, 96, 153), (5, 93, 152), (5, 100, 151), (5, 64, 141), (5, 145, 165), (5, 159, 164), (5, 149, 162), (5, 122, 156), (5, 126, 157), (5, 68, 146), (5, 130, 158), (5, 109, 147), (5, 133, 159), (5, 136, 160), (5, 112, 179), (5, 197, 177), (5, 185, 145), (5, 201, 172), (5, 204, 178), (5, 188, 171), (5, 172, 143)] ++ ([(5, 175, 170), (5, 191, 173), (5, 139, 161), (5, 116, 181), (5, 119, 180), (6, 179, 168), (5, 166, 176), (5, 178, 175), (5, 182, 144), (6, 183, 169), (6, 27, 183), (5, 207, 174), (6, 31, 184), (6, 35, 186), (5, 210, 185), (6, 39, 187), (6, 44, 188), (6, 48, 189), (6, 52, 190), (6, 56, 191), (6, 60, 192), (6, 64, 193), (5, 214, 194), (6, 68, 196), (5, 218, 195), (6, 72, 197), (6, 76, 199), (5, 230, 198), (5, 221, 166), (5, 227, 167), (6, 80, 200), (6, 84, 202), (5, 239, 201), (6, 88, 204), (5, 242, 203), (6, 92, 205), (6, 96, 210), (5, 251, 206), (5, 255, 207), (5, 258, 208)] ++ ([(5, 261, 209), (6, 100, 212), (5, 270, 211), (6, 104, 213), (5, 273, 148), (6, 108, 215), (5, 282, 214), (6, 112, 216), (6, 116, 217), (6, 120, 218), (6, 124, 219), (6, 128, 221), (5, 285, 220), (6, 132, 225), (5, 288, 222), (5, 291, 223), (5, 294, 224), (6, 136, 226), (6, 140, 228), (5, 297, 227), (6, 145, 232), (5, 304, 140), (5, 308, 231), (5, 312, 230), (5, 300, 229), (6, 150, 233), (6, 155, 234), (6, 159, 236), (5, 316, 235), (6, 163, 237), (6, 167, 238), (6, 171, 239), (6, 175, 241), (5, 325, 240), (5, 328, 182), (6, 187, 242)]))))))
def flk : List (Nat × Nat × Nat × Nat) := [(1, 7, 1, 0), (1, 13, 1, 1), (1, 16, 1, 2), (1, 19, 1, 3), (1, 22, 1, 4), (1, 25, 1, 5), (1, 29, 1, 6), (1, 32, 1, 7), (1, 35, 1, 8), (1, 38, 1, 9), (3, 11, 2, 0), (3, 15, 2, 1), (0, 7, 0, 0), (0, 13, 0, 1), (0, 17, 0, 2), (0, 20, 0, 3), (4, 10, 3, 0), (4, 16, 3, 1), (4, 19, 3, 2), (4, 22, 3, 3), (4, 29, 3, 4), (4, 33, 3, 5), (4, 37, 3, 6), (4, 41, 3, 7), (4, 44, 3, 8), (4, 50, 3, 9), (5, 7, 4, 0), (5, 13, 4, 1), (5, 16, 4, 2), (5, 19, 4, 3), (5, 22, 4, 4), (5, 25, 4, 5), (5, 28, 4, 6), (5, 31, 4, 7), (5, 60, 4, 8), (5, 34, 4, 9), (5, 37, 4, 10), (5, 40, 4, 11), (5, 43, 4, 12), (5, 76, 4, 13)] ++ ([(5, 83, 4, 14), (5, 103, 4, 15), (5, 90, 4, 16), (5, 46, 4, 17), (5, 163, 4, 18), (5, 152, 4, 19), (5, 156, 4, 20), (5, 169, 4, 21), (5, 194, 4, 22), (5, 224, 4, 23), (5, 49, 4, 24), (5, 233, 4, 25), (5, 236, 4, 26), (5, 52, 4, 27), (5, 245, 4, 28), (5, 248, 4, 29), (5, 264, 4, 30), (5, 267, 4, 31), (5, 279, 4, 32), (5, 276, 4, 33), (5, 55, 4, 34), (5, 319, 4, 35)])
def Wt : List Cond := lw_tbl.filter goodWord
theorem Wt_of {w : Cond} (h : w ∈ lw_tbl) (hg : goodWord w = true) : w ∈ Wt := List.mem_filter.mpr ⟨h, hg⟩
theorem tb1_in {i : Nat} {w : Cond} (h : tables_1_1[i]? = some w) (hg : goodWord w = true) : w ∈ Wt := Wt_of (List.mem_append_right _ (List.mem_append_left _ (List.mem_of_getElem? h))) hg
theorem tb2_in {i : Nat} {w : Cond} (h : tables_1_2[i]? = some w) (hg : goodWord w = true) : w ∈ Wt := Wt_of (List.mem_append_right _ (List.mem_append_right _ (List.mem_append_left _ (List.mem_of_getElem? h)))) hg
theorem tb3_in {i : Nat} {w : Cond} (h : tables_1_3[i]? = some w) (hg : goodWord w = true) : w ∈ Wt := Wt_of (List.mem_append_right _ (List.mem_append_right _ (List.mem_append_right _ (List.mem_append_left _ (List.mem_of_getElem? h))))) hg
theorem tb4_in {i : Nat} {w : Cond} (h : tables_1_4[i]? = some w) (hg : goodWord w = true) : w ∈ Wt := Wt_of (List.mem_append_right _ (List.mem_append_right _ (List.mem_append_right _ (List.mem_append_right _ (List.mem_append_left _ (List.mem_of_getElem? h)))))) hg
theorem tb5_in {i : Nat} {w : Cond} (h : tables_1_5[i]? = some w) (hg : goodWord w = true) : w ∈ Wt := Wt_of (List.mem_append_right _ (List.mem_append_right _ (List.mem_append_right _ (List.mem_append_right _ (List.mem_append_right _ (List.mem_append_left _ (List.mem_of_getElem? h))))))) hg
theorem tb6_in {i : Nat} {w : Cond} (h : tables_1_6[i]? = some w) (hg : goodWord w = true) : w ∈ Wt := Wt_of (List.mem_append_right _ (List.mem_append_right _ (List.mem_append_right _ (List.mem_append_right _ (List.mem_append_right _ (List.mem_append_right _ (List.mem_of_getElem? h))))))) hg
theorem pr1_in {i n : Nat} {y : MethodName} (h : lw_privs_1[i]? = some (y, n)) : Cond.selects y.cls y y ∈ Wt := Wt_of (List.mem_append_left _ (List.mem_map.mpr ⟨(y, n), List.mem_append_left _ (List.mem_of_getElem? h), rfl⟩)) rfl
theorem pr2_in {i n : Nat} {y : MethodName} (h : lw_privs_2[i]? = some (y, n)) : Cond.selects y.cls y y ∈ Wt := Wt_of (List.mem_append_left _ (List.mem_map.mpr ⟨(y, n), List.mem_append_right _ (List.mem_append_left _ (List.mem_of_getElem? h)), rfl⟩)) rfl
theorem pr3_in {i n : Nat} {y : MethodName} (h : lw_privs_3[i]? = some (y, n)) : Cond.selects y.cls y y ∈ Wt := Wt_of (List.mem_append_left _ (List.mem_map.mpr ⟨(y, n), List.mem_append_right _ (List.mem_append_right _ (List.mem_append_left _ (List.mem_of_getElem? h))), rfl⟩)) rfl
theorem pr4_in {i n : Nat} {y : MethodName} (h : lw_privs_4[i]? = some (y, n)) : Cond.selects y.cls y y ∈ Wt := Wt_of (List.mem_append_left _ (List.mem_map.mpr ⟨(y, n), List.mem_append_right _ (List.mem_append_right _ (List.mem_append_right _ (List.mem_append_left _ (List.mem_of_getElem? h)))), rfl⟩)) rfl
theorem pr5_in {i n : Nat} {y : MethodName} (h : lw_privs_5[i]? = some (y, n)) : Cond.selects y.cls y y ∈ Wt := Wt_of (List.mem_append_left _ (List.mem_map.mpr ⟨(y, n), List.mem_append_right _ (List.mem_append_right _ (List.mem_append_right _ (List.mem_append_right _ (List.mem_append_left _ (List.mem_of_getElem? h))))), rfl⟩)) rfl
theorem pr6_in {i n : Nat} {y : MethodName} (h : lw_privs_6[i]? = some (y, n)) : Cond.selects y.cls y y ∈ Wt := Wt_of (List.mem_append_left _ (List.mem_map.mpr ⟨(y, n), List.mem_append_right _ (List.mem_append_right _ (List.mem_append_right _ (List.mem_append_right _ (List.mem_append_right _ (List.mem_of_getElem? h))))), rfl⟩)) rfl
def FOK (q : Nat × Nat × Nat × Nat) : Prop := ∃ (C : String) (T : u_T) (N : Nat), vwCl[q.2.2.1]? = some (C, T, N) ∧ q.2.2.2 < N ∧ (T q.2.2.2).1 = C ∧ Cond.fieldLink (cN q.1) q.2.1 C (T q.2.2.2).2.1 (T q.2.2.2).2.2.1 ∈ Wt
def COK (q : Nat × Nat × Nat) : Prop := Cond.methodLink (cN q.1) q.2.1 (mY q.2.2) ∈ Wt
def plainC (C : String) : Prop := (C ≠ "java/lang/invoke/MethodHandle" ∧ C ≠ "java/lang/invoke/VarHandle") ∧ plainName C = true
def pdn (d : String) (n : Nat) : Prop := (parseMethodDescriptor d).map (fun d => d.parameters.length) = some n
def MOK (k : Nat) : Prop := Cond.code (mY k) (mB k) (mL k) (mR k) ∈ Wt ∧ cond (mS k) (Cond.static (mY k)) (Cond.instanceMethod (mY k)) ∈ Wt ∧ Cond.initialized (mY k).cls ∈ Wt ∧ (mS k = true ∨ (Cond.selects (mY k).cls (mY k) (mY k) ∈ Wt ∧ ∃ (T : u_T) (N : Nat), vwCl[ciO (mO k)]? = some ((mY k).cls, T, N))) ∧ (mY k).cls = cN (mO k) ∧ plainC (mY k).cls ∧ pdn (mY k).desc (mA k)
theorem pl_RX0 : plainC RX0 := by unfold plainC; decide +kernel
theorem pl_RX1 : plainC RX1 := by unfold plainC; decide +kernel
theorem pl_RX2 : plainC RX2 := by unfold plainC; decide +kernel
theorem pl_RX3 : plainC RX3 := by unfold plainC; decide +kernel
theorem pl_RX4 : plainC RX4 := by unfold plainC; decide +kernel
theorem pl_RX5 : plainC RX5 := by unfold plainC; decide +kernel
theorem pl_RL : plainC RL := by unfold plainC; decide +kernel
theorem pl_RJ6 : plainC RJ6 := by unfold plainC; decide +kernel
theorem pd_0 : pdn "()I" 0 := by unfold pdn; decide +kernel
theorem pd_1 : pdn "()V" 0 := by unfold pdn; decide +kernel
theorem pd_2 : pdn "()Z" 0 := by unfold pdn; decide +kernel
theorem pd_3 : pdn "(I)I" 1 := by unfold pdn; decide +kernel
theorem pd_4 : pdn "(I)J" 1 := by unfold pdn; decide +kernel
theorem pd_5 : pdn "(I)V" 1 := by unfold pdn; decide +kernel
theorem pd_6 : pdn "(I)Z" 1 := by unfold pdn; decide +kernel
theorem pd_7 : pdn "(II)I" 2 := by unfold pdn; decide +kernel
theorem pd_8 : pdn "(II)J" 2 := by unfold pdn; decide +kernel
theorem pd_9 : pdn "(II)V" 2 := by unfold pdn; decide +kernel
theorem pd_10 : pdn "(II)Z" 2 := by unfold pdn; decide +kernel
theorem pd_11 : pdn "(III)I" 3 := by unfold pdn; decide +kernel
theorem pd_12 : pdn "(III)V" 3 := by unfold pdn; decide +kernel
theorem pd_13 : pdn "(III)Z" 3 := by unfold pdn; decide +kernel
theorem pd_14 : pdn "(IIII)J" 4 := by unfold pdn; decide +kernel
theorem pd_15 : pdn "(IIII)Z" 4 := by unfold pdn; decide +kernel
theorem pd_16 : pdn "(ILBackFromBreakfast$Corridor;)Z" 2 := by unfold pdn; decide +kernel
theorem pd_17 : pdn "(IZ)V" 2 := by unfold pdn; decide +kernel
theorem pd_18 : pdn "(JI)J" 2 := by unfold pdn; decide +kernel
theorem pd_19 : pdn "(JJ)J" 2 := by unfold pdn; decide +kernel
theorem pd_20 : pdn "(JJI)J" 3 := by unfold pdn; decide +kernel
theorem pd_21 : pdn "(LBackFromBreakfast$Corridor;)I" 1 := by unfold pdn; decide +kernel
theorem pd_22 : pdn "(LBackFromBreakfast$Corridor;)V" 1 := by unfold pdn; decide +kernel
theorem pd_23 : pdn "(LBackFromBreakfast$Corridor;III)Z" 4 := by unfold pdn; decide +kernel
theorem pd_24 : pdn "([I)I" 1 := by unfold pdn; decide +kernel
theorem pd_25 : pdn "([I)V" 1 := by unfold pdn; decide +kernel
theorem pd_26 : pdn "([I)Z" 1 := by unfold pdn; decide +kernel
theorem pd_27 : pdn "([II)I" 2 := by unfold pdn; decide +kernel
theorem pd_28 : pdn "([II)Z" 2 := by unfold pdn; decide +kernel
theorem pd_29 : pdn "([III)V" 3 := by unfold pdn; decide +kernel
theorem pd_30 : pdn "([I[I)V" 2 := by unfold pdn; decide +kernel
theorem fko_0 : FOK (1, 7, 1, 0) := ⟨_, _, _, rfl, Nat.le_of_ble_eq_true rfl, rfl, tb1_in (i := 23) rfl rfl⟩
theorem fko_1 : FOK (1, 13, 1, 1) := ⟨_, _, _, rfl, Nat.le_of_ble_eq_true rfl, rfl, tb1_in (i := 24) rfl rfl⟩
theorem fko_2 : FOK (1, 16, 1, 2) := ⟨_, _, _, rfl, Nat.le_of_ble_eq_true rfl, rfl, tb1_in (i := 25) rfl rfl⟩
theorem fko_3 : FOK (1, 19, 1, 3) := ⟨_, _, _, rfl, Nat.le_of_ble_eq_true rfl, rfl, tb1_in (i := 26) rfl rfl⟩
theorem fko_4 : FOK (1, 22, 1, 4) := ⟨_, _, _, rfl, Nat.le_of_ble_eq_true rfl, rfl, tb1_in (i := 27) rfl rfl⟩
theorem fko_5 : FOK (1, 25, 1, 5) := ⟨_, _, _, rfl, Nat.le_of_ble_eq_true rfl, rfl, tb1_in (i := 28) rfl rfl⟩
theorem fko_6 : FOK (1, 29, 1, 6) := ⟨_, _, _, rfl, Nat.le_of_ble_eq_true rfl, rfl, tb1_in (i := 29) rfl rfl⟩
theorem fko_7 : FOK (1, 32, 1, 7) := ⟨_, _, _, rfl, Nat.le_of_ble_eq_true rfl, rfl, tb1_in (i := 30) rfl rfl⟩
theorem fko_8 : FOK (1, 35, 1, 8) := ⟨_, _, _, rfl, Nat.le_of_ble_eq_true rfl, rfl, tb1_in (i := 31) rfl rfl⟩
theorem fko_9 : FOK (1, 38, 1, 9) := ⟨_, _, _, rfl, Nat.le_of_ble_eq_true rfl, rfl, tb1_in (i := 32) rfl rfl⟩
theorem fko_10 : FOK (3, 11, 2, 0) := ⟨_, _, _, rfl, Nat.le_of_ble_eq_true rfl, rfl, tb1_in (i := 61) rfl rfl⟩
theorem fko_11 : FOK (3, 15, 2, 1) := ⟨_, _, _, rfl, Nat.le_of_ble_eq_true rfl, rfl, tb1_in (i := 62) rfl rfl⟩
theorem fko_12 : FOK (0, 7, 0, 0) := ⟨_, _, _, rfl, Nat.le_of_ble_eq_true rfl, rfl, tb1_in (i := 74) rfl rfl⟩
theorem fko_13 : FOK (0, 13, 0, 1) := ⟨_, _, _, rfl, Nat.le_of_ble_eq_true rfl, rfl, tb1_in (i := 75) rfl rfl⟩
theorem fko_14 : FOK (0, 17, 0, 2) := ⟨_, _, _, rfl, Nat.le_of_ble_eq_true rfl, rfl, tb1_in (i := 76) rfl rfl⟩
theorem fko_15 : FOK (0, 20, 0, 3) := ⟨_, _, _, rfl, Nat.le_of_ble_eq_true rfl, rfl, tb1_in (i := 77) rfl rfl⟩
theorem fko_16 : FOK (4, 10, 3, 0) := ⟨_, _, _, rfl, Nat.le_of_ble_eq_true rfl, rfl, tb1_in (i := 87) rfl rfl⟩
theorem fko_17 : FOK (4, 16, 3, 1) := ⟨_, _, _, rfl, Nat.le_of_ble_eq_true rfl, rfl, tb1_in (i := 88) rfl rfl⟩
theorem fko_18 : FOK (4, 19, 3, 2) := ⟨_, _, _, rfl, Nat.le_of_ble_eq_true rfl, rfl, tb1_in (i := 89) rfl rfl⟩
theorem fko_19 : FOK (4, 22, 3, 3) := ⟨_, _, _, rfl, Nat.le_of_ble_eq_true rfl, rfl, tb1_in (i := 90) rfl rfl⟩
theorem fko_20 : FOK (4, 29, 3, 4) := ⟨_, _, _, rfl, Nat.le_of_ble_eq_true rfl, rfl, tb1_in (i := 91) rfl rfl⟩
theorem fko_21 : FOK (4, 33, 3, 5) := ⟨_, _, _, rfl, Nat.le_of_ble_eq_true rfl, rfl, tb1_in (i := 92) rfl rfl⟩
theorem fko_22 : FOK (4, 37, 3, 6) := ⟨_, _, _, rfl, Nat.le_of_ble_eq_true rfl, rfl, tb1_in (i := 93) rfl rfl⟩
theorem fko_23 : FOK (4, 41, 3, 7) := ⟨_, _, _, rfl, Nat.le_of_ble_eq_true rfl, rfl, tb1_in (i := 94) rfl rfl⟩
theorem fko_24 : FOK (4, 44, 3, 8) := ⟨_, _, _, rfl, Nat.le_of_ble_eq_true rfl, rfl, tb1_in (i := 95) rfl rfl⟩
theorem fko_25 : FOK (4, 50, 3, 9) := ⟨_, _, _, rfl, Nat.le_of_ble_eq_true rfl, rfl, tb1_in (i := 96) rfl rfl⟩
theorem fko_26 : FOK (5, 7, 4, 0) := ⟨_, _, _, rfl, Nat.le_of_ble_eq_true rfl, rfl, tb3_in (i := 215) rfl rfl⟩
theorem fko_27 : FOK (5, 13, 4, 1) := ⟨_, _, _, rfl, Nat.le_of_ble_eq_true rfl, rfl, tb3_in (i := 216) rfl rfl⟩
theorem fko_28 : FOK (5, 16, 4, 2) := ⟨_, _, _, rfl, Nat.le_of_ble_eq_true rfl, rfl, tb3_in (i := 217) rfl rfl⟩
theorem fko_29 : FOK (5, 19, 4, 3) := ⟨_, _, _, rfl, Nat.le_of_ble_eq_true rfl, rfl, tb3_in (i := 218) rfl rfl⟩
theorem fko_30 : FOK (5, 22, 4, 4) := ⟨_, _, _, rfl, Nat.le_of_ble_eq_true rfl, rfl, tb3_in (i := 219) rfl rfl⟩
theorem fko_31 : FOK (5, 25, 4, 5) := ⟨_, _, _, rfl, Nat.le_of_ble_eq_true rfl, rfl, tb3_in (i := 220) rfl rfl⟩
theorem fko_32 : FOK (5, 28, 4, 6) := ⟨_, _, _, rfl, Nat.le_of_ble_eq_true rfl, rfl, tb3_in (i := 221) rfl rfl⟩
theorem fko_33 : FOK (5, 31, 4, 7) := ⟨_, _, _, rfl, Nat.le_of_ble_eq_true rfl, rfl, tb3_in (i := 222) rfl rfl⟩
theorem fko_34 : FOK (5, 60, 4, 8) := ⟨_, _, _, rfl, Nat.le_of_ble_eq_true rfl, rfl, tb3_in (i := 223) rfl rfl⟩
theorem fko_35 : FOK (5, 34, 4, 9) := ⟨_, _, _, rfl, Nat.le_of_ble_eq_true rfl, rfl, tb3_in (i := 224) rfl rfl⟩
theorem fko_36 : FOK (5, 37, 4, 10) := ⟨_, _, _, rfl, Nat.le_of_ble_eq_true rfl, rfl, tb3_in (i := 225) rfl rfl⟩
theorem fko_37 : FOK (5, 40, 4, 11) := ⟨_, _, _, rfl, Nat.le_of_ble_eq_true rfl, rfl, tb3_in (i := 226) rfl rfl⟩
theorem fko_38 : FOK (5, 43, 4, 12) := ⟨_, _, _, rfl, Nat.le_of_ble_eq_true rfl, rfl, tb3_in (i := 227) rfl rfl⟩
theorem fko_39 : FOK (5, 76, 4, 13) := ⟨_, _, _, rfl, Nat.le_of_ble_eq_true rfl, rfl, tb3_in (i := 228) rfl rfl⟩
theorem fko_40 : FOK (5, 83, 4, 14) := ⟨_, _, _, rfl, Nat.le_of_ble_eq_true rfl, rfl, tb3_in (i := 229) rfl rfl⟩
theorem fko_41 : FOK (5, 103, 4, 15) := ⟨_, _, _, rfl, Nat.le_of_ble_eq_true rfl, rfl, tb3_in (i := 230) rfl rfl⟩
theorem fko_42 : FOK (5, 90, 4, 16) := ⟨_, _, _, rfl, Nat.le_of_ble_eq_true rfl, rfl, tb3_in (i := 231) rfl rfl⟩
theorem fko_43 : FOK (5, 46, 4, 17) := ⟨_, _, _, rfl, Nat.le_of_ble_eq_true rfl, rfl, tb3_in (i := 232) rfl rfl⟩
theorem fko_44 : FOK (5, 163, 4, 18) := ⟨_, _, _, rfl, Nat.le_of_ble_eq_true rfl, rfl, tb3_in (i := 233) rfl rfl⟩
theorem fko_45 : FOK (5, 152, 4, 19) := ⟨_, _, _, rfl, Nat.le_of_ble_eq_true rfl, rfl, tb3_in (i := 234) rfl rfl⟩
theorem fko_46 : FOK (5, 156, 4, 20) := ⟨_, _, _, rfl, Nat.le_of_ble_eq_true rfl, rfl, tb3_in (i := 235) rfl rfl⟩
theorem fko_47 : FOK (5, 169, 4, 21) := ⟨_, _, _, rfl, Nat.le_of_ble_eq_true rfl, rfl, tb3_in (i := 236) rfl rfl⟩
theorem fko_48 : FOK (5, 194, 4, 22) := ⟨_, _, _, rfl, Nat.le_of_ble_eq_true rfl, rfl, tb3_in (i := 237) rfl rfl⟩
theorem fko_49 : FOK (5, 224, 4, 23) := ⟨_, _, _, rfl, Nat.le_of_ble_eq_true rfl, rfl, tb3_in (i := 238) rfl rfl⟩
theorem fko_50 : FOK (5, 49, 4, 24) := ⟨_, _, _, rfl, Nat.le_of_ble_eq_true rfl, rfl, tb3_in (i := 239) rfl rfl⟩
theorem fko_51 : FOK (5, 233, 4, 25) := ⟨_, _, _, rfl, Nat.le_of_ble_eq_true rfl, rfl, tb4_in (i := 0) rfl rfl⟩
theorem fko_52 : FOK (5, 236, 4, 26) := ⟨_, _, _, rfl, Nat.le_of_ble_eq_true rfl, rfl, tb4_in (i := 1) rfl rfl⟩
theorem fko_53 : FOK (5, 52, 4, 27) := ⟨_, _, _, rfl, Nat.le_of_ble_eq_true rfl, rfl, tb4_in (i := 2) rfl rfl⟩
theorem fko_54 : FOK (5, 245, 4, 28) := ⟨_, _, _, rfl, Nat.le_of_ble_eq_true rfl, rfl, tb4_in (i := 3) rfl rfl⟩
theorem fko_55 : FOK (5, 248, 4, 29) := ⟨_, _, _, rfl, Nat.le_of_ble_eq_true rfl, rfl, tb4_in (i := 4) rfl rfl⟩
theorem fko_56 : FOK (5, 264, 4, 30) := ⟨_, _, _, rfl, Nat.le_of_ble_eq_true rfl, rfl, tb4_in (i := 5) rfl rfl⟩
theorem fko_57 : FOK (5, 267, 4, 31) := ⟨_, _, _, rfl, Nat.le_of_ble_eq_true rfl, rfl, tb4_in (i := 6) rfl rfl⟩
theorem fko_58 : FOK (5, 279, 4, 32) := ⟨_, _, _, rfl, Nat.le_of_ble_eq_true rfl, rfl, tb4_in (i := 7) rfl rfl⟩
theorem fko_59 : FOK (5, 276, 4, 33) := ⟨_, _, _, rfl, Nat.le_of_ble_eq_true rfl, rfl, tb4_in (i := 8) rfl rfl⟩
theorem fko_60 : FOK (5, 55, 4, 34) := ⟨_, _, _, rfl, Nat.le_of_ble_eq_true rfl, rfl, tb4_in (i := 9) rfl rfl⟩
theorem fko_61 : FOK (5, 319, 4, 35) := ⟨_, _, _, rfl, Nat.le_of_ble_eq_true rfl, rfl, tb4_in (i := 10) rfl rfl⟩
theorem cko_0 : COK (6, 13, 68) := tb1_in (i := 118) rfl rfl
theorem cko_1 : COK (4, 54, 110) := tb1_in (i := 122) rfl rfl
theorem cko_2 : COK (4, 58, 55) := tb1_in (i := 126) rfl rfl
theorem cko_3 : COK (4, 62, 56) := tb1_in (i := 130) rfl rfl
theorem cko_4 : COK (6, 18, 69) := tb1_in (i := 134) rfl rfl
theorem cko_5 : COK (4, 65, 116) := tb1_in (i := 138) rfl rfl
theorem cko_6 : COK (4, 72, 5) := tb1_in (i := 142) rfl rfl
theorem cko_7 : COK (1, 41, 6) := tb1_in (i := 146) rfl rfl
theorem cko_8 : COK (4, 68, 58) := tb1_in (i := 149) rfl rfl
theorem cko_9 : COK (3, 19, 59) := tb1_in (i := 153) rfl rfl
theorem cko_10 : COK (3, 31, 61) := tb1_in (i := 157) rfl rfl
theorem cko_11 : COK (3, 34, 64) := tb1_in (i := 161) rfl rfl
theorem cko_12 : COK (3, 37, 62) := tb1_in (i := 165) rfl rfl
theorem cko_13 : COK (3, 40, 63) := tb1_in (i := 168) rfl rfl
theorem cko_14 : COK (3, 44, 47) := tb1_in (i := 172) rfl rfl
theorem cko_15 : COK (3, 27, 60) := tb1_in (i := 175) rfl rfl
theorem cko_16 : COK (3, 23, 65) := tb1_in (i := 179) rfl rfl
theorem cko_17 : COK (3, 49, 9) := tb1_in (i := 183) rfl rfl
theorem cko_18 : COK (1, 45, 12) := tb1_in (i := 187) rfl rfl
theorem cko_19 : COK (1, 49, 13) := tb1_in (i := 191) rfl rfl
theorem cko_20 : COK (3, 54, 8) := tb1_in (i := 195) rfl rfl
theorem cko_21 : COK (3, 58, 17) := tb1_in (i := 199) rfl rfl
theorem cko_22 : COK (3, 62, 16) := tb1_in (i := 203) rfl rfl
theorem cko_23 : COK (3, 65, 66) := tb1_in (i := 207) rfl rfl
theorem cko_24 : COK (3, 69, 27) := tb1_in (i := 210) rfl rfl
theorem cko_25 : COK (3, 86, 28) := tb1_in (i := 214) rfl rfl
theorem cko_26 : COK (3, 89, 34) := tb1_in (i := 218) rfl rfl
theorem cko_27 : COK (3, 92, 35) := tb1_in (i := 222) rfl rfl
theorem cko_28 : COK (3, 72, 36) := tb1_in (i := 226) rfl rfl
theorem cko_29 : COK (3, 76, 40) := tb1_in (i := 230) rfl rfl
theorem cko_30 : COK (1, 91, 39) := tb1_in (i := 234) rfl rfl
theorem cko_31 : COK (1, 100, 29) := tb1_in (i := 238) rfl rfl
theorem cko_32 : COK (1, 103, 245) := tb2_in (i := 2) rfl rfl
theorem cko_33 : COK (1, 94, 37) := tb2_in (i := 5) rfl rfl
theorem cko_34 : COK (1, 106, 34) := tb2_in (i := 9) rfl rfl
theorem cko_35 : COK (1, 109, 21) := tb2_in (i := 10) rfl rfl
theorem cko_36 : COK (1, 58, 10) := tb2_in (i := 14) rfl rfl
theorem cko_37 : COK (1, 61, 11) := tb2_in (i := 18) rfl rfl
theorem cko_38 : COK (1, 64, 50) := tb2_in (i := 22) rfl rfl
theorem cko_39 : COK (1, 112, 42) := tb2_in (i := 25) rfl rfl
theorem cko_40 : COK (1, 123, 14) := tb2_in (i := 29) rfl rfl
theorem cko_41 : COK (1, 127, 15) := tb2_in (i := 33) rfl rfl
theorem cko_42 : COK (1, 83, 31) := tb2_in (i := 37) rfl rfl
theorem cko_43 : COK (1, 130, 26) := tb2_in (i := 41) rfl rfl
theorem cko_44 : COK (1, 79, 49) := tb2_in (i := 45) rfl rfl
theorem cko_45 : COK (1, 134, 30) := tb2_in (i := 48) rfl rfl
theorem cko_46 : COK (1, 137, 22) := tb2_in (i := 52) rfl rfl
theorem cko_47 : COK (1, 70, 51) := tb2_in (i := 56) rfl rfl
theorem cko_48 : COK (1, 140, 43) := tb2_in (i := 59) rfl rfl
theorem cko_49 : COK (1, 97, 35) := tb2_in (i := 63) rfl rfl
theorem cko_50 : COK (1, 144, 16) := tb2_in (i := 64) rfl rfl
theorem cko_51 : COK (3, 80, 32) := tb2_in (i := 65) rfl rfl
theorem cko_52 : COK (1, 86, 246) := tb2_in (i := 69) rfl rfl
theorem cko_53 : COK (3, 83, 41) := tb2_in (i := 72) rfl rfl
theorem cko_54 : COK (1, 116, 32) := tb2_in (i := 76) rfl rfl
theorem cko_55 : COK (1, 120, 36) := tb2_in (i := 77) rfl rfl
theorem cko_56 : COK (4, 76, 57) := tb2_in (i := 78) rfl rfl
theorem cko_57 : COK (6, 23, 70) := tb2_in (i := 82) rfl rfl
theorem cko_58 : COK (4, 79, 8) := tb2_in (i := 86) rfl rfl
theorem cko_59 : COK (4, 83, 10) := tb2_in (i := 87) rfl rfl
theorem cko_60 : COK (4, 86, 11) := tb2_in (i := 88) rfl rfl
theorem cko_61 : COK (4, 89, 14) := tb2_in (i := 89) rfl rfl
theorem cko_62 : COK (4, 92, 15) := tb2_in (i := 90) rfl rfl
theorem cko_63 : COK (4, 95, 21) := tb2_in (i := 91) rfl rfl
theorem cko_64 : COK (4, 98, 22) := tb2_in (i := 92) rfl rfl
theorem cko_65 : COK (4, 101, 23) := tb2_in (i := 93) rfl rfl
theorem cko_66 : COK (1, 73, 52) := tb2_in (i := 97) rfl rfl
theorem cko_67 : COK (6, 28, 71) := tb2_in (i := 100) rfl rfl
theorem cko_68 : COK (4, 104, 27) := tb2_in (i := 104) rfl rfl
theorem cko_69 : COK (4, 107, 29) := tb2_in (i := 105) rfl rfl
theorem cko_70 : COK (4, 110, 30) := tb2_in (i := 106) rfl rfl
theorem cko_71 : COK (4, 113, 31) := tb2_in (i := 107) rfl rfl
theorem cko_72 : COK (6, 32, 72) := tb2_in (i := 108) rfl rfl
theorem cko_73 : COK (4, 116, 17) := tb2_in (i := 112) rfl rfl
theorem cko_74 : COK (6, 36, 73) := tb2_in (i := 113) rfl rfl
theorem cko_75 : COK (4, 120, 16) := tb2_in (i := 117) rfl rfl
theorem cko_76 : COK (6, 40, 74) := tb2_in (i := 118) rfl rfl
theorem cko_77 : COK (4, 123, 46) := tb2_in (i := 122) rfl rfl
theorem cko_78 : COK (4, 128, 12) := tb2_in (i := 125) rfl rfl
theorem cko_79 : COK (4, 132, 13) := tb2_in (i := 126) rfl rfl
theorem cko_80 : COK (6, 45, 75) := tb2_in (i := 127) rfl rfl
theorem cko_81 : COK (4, 135, 28) := tb2_in (i := 131) rfl rfl
theorem cko_82 : COK (4, 138, 34) := tb2_in (i := 132) rfl rfl
theorem cko_83 : COK (4, 141, 35) := tb2_in (i := 133) rfl rfl
theorem cko_84 : COK (6, 49, 76) := tb2_in (i := 134) rfl rfl
theorem cko_85 : COK (4, 144, 37) := tb2_in (i := 138) rfl rfl
theorem cko_86 : COK (6, 53, 77) := tb2_in (i := 139) rfl rfl
theorem cko_87 : COK (4, 147, 40) := tb2_in (i := 143) rfl rfl
theorem cko_88 : COK (6, 57, 78) := tb2_in (i := 144) rfl rfl
theorem cko_89 : COK (4, 151, 41) := tb2_in (i := 148) rfl rfl
theorem cko_90 : COK (4, 154, 32) := tb2_in (i := 149) rfl rfl
theorem cko_91 : COK (6, 61, 79) := tb2_in (i := 150) rfl rfl
theorem cko_92 : COK (4, 158, 38) := tb2_in (i := 154) rfl rfl
theorem cko_93 : COK (4, 161, 117) := tb2_in (i := 158) rfl rfl
theorem cko_94 : COK (6, 65, 80) := tb2_in (i := 162) rfl rfl
theorem cko_95 : COK (4, 164, 113) := tb2_in (i := 166) rfl rfl
theorem cko_96 : COK (4, 167, 26) := tb2_in (i := 170) rfl rfl
theorem cko_97 : COK (6, 69, 81) := tb2_in (i := 171) rfl rfl
theorem cko_98 : COK (6, 73, 82) := tb2_in (i := 175) rfl rfl
theorem cko_99 : COK (6, 77, 83) := tb2_in (i := 179) rfl rfl
theorem cko_100 : COK (6, 81, 84) := tb2_in (i := 183) rfl rfl
theorem cko_101 : COK (4, 171, 118) := tb2_in (i := 187) rfl rfl
theorem cko_102 : COK (4, 266, 119) := tb2_in (i := 191) rfl rfl
theorem cko_103 : COK (4, 174, 18) := tb2_in (i := 195) rfl rfl
theorem cko_104 : COK (4, 177, 33) := tb2_in (i := 199) rfl rfl
theorem cko_105 : COK (6, 85, 85) := tb2_in (i := 203) rfl rfl
theorem cko_106 : COK (4, 180, 124) := tb2_in (i := 207) rfl rfl
theorem cko_107 : COK (6, 89, 86) := tb2_in (i := 210) rfl rfl
theorem cko_108 : COK (4, 184, 7) := tb2_in (i := 214) rfl rfl
theorem cko_109 : COK (6, 93, 87) := tb2_in (i := 218) rfl rfl
theorem cko_110 : COK (4, 187, 114) := tb2_in (i := 222) rfl rfl
theorem cko_111 : COK (4, 190, 244) := tb2_in (i := 226) rfl rfl
theorem cko_112 : COK (4, 195, 120) := tb2_in (i := 232) rfl rfl
theorem cko_113 : COK (4, 201, 1) := tb2_in (i := 236) rfl rfl
theorem cko_114 : COK (4, 286, 122) := tb3_in (i := 0) rfl rfl
theorem cko_115 : COK (4, 289, 121) := tb3_in (i := 4) rfl rfl
theorem cko_116 : COK (4, 205, 20) := tb3_in (i := 8) rfl rfl
theorem cko_117 : COK (1, 52, 244) := tb3_in (i := 12) rfl rfl
theorem cko_118 : COK (4, 208, 2) := tb3_in (i := 13) rfl rfl
theorem cko_119 : COK (4, 292, 123) := tb3_in (i := 17) rfl rfl
theorem cko_120 : COK (4, 198, 3) := tb3_in (i := 21) rfl rfl
theorem cko_121 : COK (6, 97, 88) := tb3_in (i := 25) rfl rfl
theorem cko_122 : COK (4, 202, 44) := tb3_in (i := 29) rfl rfl
theorem cko_123 : COK (1, 147, 40) := tb3_in (i := 33) rfl rfl
theorem cko_124 : COK (6, 101, 89) := tb3_in (i := 34) rfl rfl
theorem cko_125 : COK (4, 212, 115) := tb3_in (i := 38) rfl rfl
theorem cko_126 : COK (6, 105, 90) := tb3_in (i := 42) rfl rfl
theorem cko_127 : COK (4, 215, 45) := tb3_in (i := 46) rfl rfl
theorem cko_128 : COK (1, 150, 44) := tb3_in (i := 50) rfl rfl
theorem cko_129 : COK (6, 109, 91) := tb3_in (i := 51) rfl rfl
theorem cko_130 : COK (4, 218, 246) := tb3_in (i := 55) rfl rfl
theorem cko_131 : COK (6, 113, 92) := tb3_in (i := 56) rfl rfl
theorem cko_132 : COK (6, 117, 93) := tb3_in (i := 60) rfl rfl
theorem cko_133 : COK (4, 223, 48) := tb3_in (i := 64) rfl rfl
theorem cko_134 : COK (6, 121, 94) := tb3_in (i := 67) rfl rfl
theorem cko_135 : COK (6, 125, 95) := tb3_in (i := 71) rfl rfl
theorem cko_136 : COK (4, 226, 24) := tb3_in (i := 75) rfl rfl
theorem cko_137 : COK (1, 76, 23) := tb3_in (i := 79) rfl rfl
theorem cko_138 : COK (4, 229, 245) := tb3_in (i := 80) rfl rfl
theorem cko_139 : COK (6, 129, 96) := tb3_in (i := 81) rfl rfl
theorem cko_140 : COK (4, 232, 127) := tb3_in (i := 85) rfl rfl
theorem cko_141 : COK (4, 235, 128) := tb3_in (i := 89) rfl rfl
theorem cko_142 : COK (4, 238, 129) := tb3_in (i := 93) rfl rfl
theorem cko_143 : COK (6, 133, 97) := tb3_in (i := 97) rfl rfl
theorem cko_144 : COK (6, 137, 98) := tb3_in (i := 101) rfl rfl
theorem cko_145 : COK (4, 241, 125) := tb3_in (i := 105) rfl rfl
theorem cko_146 : COK (4, 295, 126) := tb3_in (i := 109) rfl rfl
theorem cko_147 : COK (6, 141, 99) := tb3_in (i := 113) rfl rfl
theorem cko_148 : COK (4, 245, 112) := tb3_in (i := 117) rfl rfl
theorem cko_149 : COK (4, 249, 136) := tb3_in (i := 122) rfl rfl
theorem cko_150 : COK (4, 309, 137) := tb3_in (i := 125) rfl rfl
theorem cko_151 : COK (6, 146, 100) := tb3_in (i := 128) rfl rfl
theorem cko_152 : COK (4, 253, 25) := tb3_in (i := 132) rfl rfl
theorem cko_153 : COK (4, 256, 135) := tb3_in (i := 136) rfl rfl
theorem cko_154 : COK (6, 151, 101) := tb3_in (i := 139) rfl rfl
theorem cko_155 : COK (6, 156, 102) := tb3_in (i := 143) rfl rfl
theorem cko_156 : COK (4, 260, 130) := tb3_in (i := 147) rfl rfl
theorem cko_157 : COK (4, 299, 132) := tb3_in (i := 151) rfl rfl
theorem cko_158 : COK (4, 302, 49) := tb3_in (i := 155) rfl rfl
theorem cko_159 : COK (4, 263, 131) := tb3_in (i := 156) rfl rfl
theorem cko_160 : COK (6, 160, 103) := tb3_in (i := 160) rfl rfl
theorem cko_161 : COK (6, 164, 104) := tb3_in (i := 164) rfl rfl
theorem cko_162 : COK (6, 168, 105) := tb3_in (i := 168) rfl rfl
theorem cko_163 : COK (6, 172, 106) := tb3_in (i := 172) rfl rfl
theorem cko_164 : COK (4, 269, 133) := tb3_in (i := 176) rfl rfl
theorem cko_165 : COK (4, 272, 134) := tb3_in (i := 181) rfl rfl
theorem cko_166 : COK (6, 176, 107) := tb3_in (i := 185) rfl rfl
theorem cko_167 : COK (6, 180, 108) := tb3_in (i := 189) rfl rfl
theorem cko_168 : COK (6, 184, 109) := tb3_in (i := 193) rfl rfl
theorem cko_169 : COK (4, 275, 111) := tb3_in (i := 197) rfl rfl
theorem cko_170 : COK (4, 278, 19) := tb3_in (i := 201) rfl rfl
theorem cko_171 : COK (4, 281, 54) := tb3_in (i := 205) rfl rfl
theorem cko_172 : COK (6, 17, 149) := tb4_in (i := 84) rfl rfl
theorem cko_173 : COK (5, 72, 142) := tb4_in (i := 88) rfl rfl
theorem cko_174 : COK (5, 79, 139) := tb4_in (i := 91) rfl rfl
theorem cko_175 : COK (6, 22, 163) := tb4_in (i := 95) rfl rfl
theorem cko_176 : COK (5, 142, 155) := tb4_in (i := 99) rfl rfl
theorem cko_177 : COK (5, 86, 150) := tb4_in (i := 103) rfl rfl
theorem cko_178 : COK (5, 106, 154) := tb4_in (i := 107) rfl rfl
theorem cko_179 : COK (5, 96, 153) := tb4_in (i := 111) rfl rfl
theorem cko_180 : COK (5, 93, 152) := tb4_in (i := 115) rfl rfl
theorem cko_181 : COK (5, 100, 151) := tb4_in (i := 118) rfl rfl
theorem cko_182 : COK (5, 64, 141) := tb4_in (i := 122) rfl rfl
theorem cko_183 : COK (5, 145, 165) := tb4_in (i := 125) rfl rfl
theorem cko_184 : COK (5, 159, 164) := tb4_in (i := 129) rfl rfl
theorem cko_185 : COK (5, 149, 162) := tb4_in (i := 133) rfl rfl
theorem cko_186 : COK (5, 122, 156) := tb4_in (i := 137) rfl rfl
theorem cko_187 : COK (5, 126, 157) := tb4_in (i := 141) rfl rfl
theorem cko_188 : COK (5, 68, 146) := tb4_in (i := 145) rfl rfl
theorem cko_189 : COK (5, 130, 158) := tb4_in (i := 149) rfl rfl
theorem cko_190 : COK (5, 109, 147) := tb4_in (i := 153) rfl rfl
theorem cko_191 : COK (5, 133, 159) := tb4_in (i := 156) rfl rfl
theorem cko_192 : COK (5, 136, 160) := tb4_in (i := 160) rfl rfl
theorem cko_193 : COK (5, 112, 179) := tb4_in (i := 164) rfl rfl
theorem cko_194 : COK (5, 197, 177) := tb4_in (i := 168) rfl rfl
theorem cko_195 : COK (5, 185, 145) := tb4_in (i := 172) rfl rfl
theorem cko_196 : COK (5, 201, 172) := tb4_in (i := 175) rfl rfl
theorem cko_197 : COK (5, 204, 178) := tb4_in (i := 179) rfl rfl
theorem cko_198 : COK (5, 188, 171) := tb4_in (i := 183) rfl rfl
theorem cko_199 : COK (5, 172, 143) := tb4_in (i := 187) rfl rfl
theorem cko_200 : COK (5, 175, 170) := tb4_in (i := 190) rfl rfl
theorem cko_201 : COK (5, 191, 173) := tb4_in (i := 193) rfl rfl
theorem cko_202 : COK (5, 139, 161) := tb4_in (i := 197) rfl rfl
theorem cko_203 : COK (5, 116, 181) := tb4_in (i := 201) rfl rfl
theorem cko_204 : COK (5, 119, 180) := tb4_in (i := 205) rfl rfl
theorem cko_205 : COK (6, 179, 168) := tb4_in (i := 209) rfl rfl
theorem cko_206 : COK (5, 166, 176) := tb4_in (i := 213) rfl rfl
theorem cko_207 : COK (5, 178, 175) := tb4_in (i := 217) rfl rfl
theorem cko_208 : COK (5, 182, 144) := tb4_in (i := 221) rfl rfl
theorem cko_209 : COK (6, 183, 169) := tb4_in (i := 224) rfl rfl
theorem cko_210 : COK (6, 27, 183) := tb4_in (i := 228) rfl rfl
theorem cko_211 : COK (5, 207, 174) := tb4_in (i := 232) rfl rfl
theorem cko_212 : COK (6, 31, 184) := tb4_in (i := 236) rfl rfl
theorem cko_213 : COK (6, 35, 186) := tb5_in (i := 0) rfl rfl
theorem cko_214 : COK (5, 210, 185) := tb5_in (i := 4) rfl rfl
theorem cko_215 : COK (6, 39, 187) := tb5_in (i := 8) rfl rfl
theorem cko_216 : COK (6, 44, 188) := tb5_in (i := 12) rfl rfl
theorem cko_217 : COK (6, 48, 189) := tb5_in (i := 16) rfl rfl
theorem cko_218 : COK (6, 52, 190) := tb5_in (i := 20) rfl rfl
theorem cko_219 : COK (6, 56, 191) := tb5_in (i := 24) rfl rfl
theorem cko_220 : COK (6, 60, 192) := tb5_in (i := 28) rfl rfl
theorem cko_221 : COK (6, 64, 193) := tb5_in (i := 32) rfl rfl
theorem cko_222 : COK (5, 214, 194) := tb5_in (i := 36) rfl rfl
theorem cko_223 : COK (6, 68, 196) := tb5_in (i := 40) rfl rfl
theorem cko_224 : COK (5, 218, 195) := tb5_in (i := 44) rfl rfl
theorem cko_225 : COK (6, 72, 197) := tb5_in (i := 47) rfl rfl
theorem cko_226 : COK (6, 76, 199) := tb5_in (i := 51) rfl rfl
theorem cko_227 : COK (5, 230, 198) := tb5_in (i := 55) rfl rfl
theorem cko_228 : COK (5, 221, 166) := tb5_in (i := 59) rfl rfl
theorem cko_229 : COK (5, 227, 167) := tb5_in (i := 63) rfl rfl
theorem cko_230 : COK (6, 80, 200) := tb5_in (i := 67) rfl rfl
theorem cko_231 : COK (6, 84, 202) := tb5_in (i := 71) rfl rfl
theorem cko_232 : COK (5, 239, 201) := tb5_in (i := 75) rfl rfl
theorem cko_233 : COK (6, 88, 204) := tb5_in (i := 79) rfl rfl
theorem cko_234 : COK (5, 242, 203) := tb5_in (i := 83) rfl rfl
theorem cko_235 : COK (6, 92, 205) := tb5_in (i := 87) rfl rfl
theorem cko_236 : COK (6, 96, 210) := tb5_in (i := 91) rfl rfl
theorem cko_237 : COK (5, 251, 206) := tb5_in (i := 95) rfl rfl
theorem cko_238 : COK (5, 255, 207) := tb5_in (i := 100) rfl rfl
theorem cko_239 : COK (5, 258, 208) := tb5_in (i := 104) rfl rfl
theorem cko_240 : COK (5, 261, 209) := tb5_in (i := 108) rfl rfl
theorem cko_241 : COK (6, 100, 212) := tb5_in (i := 112) rfl rfl
theorem cko_242 : COK (5, 270, 211) := tb5_in (i := 116) rfl rfl
theorem cko_243 : COK (6, 104, 213) := tb5_in (i := 120) rfl rfl
theorem cko_244 : COK (5, 273, 148) := tb5_in (i := 124) rfl rfl
theorem cko_245 : COK (6, 108, 215) := tb5_in (i := 128) rfl rfl
theorem cko_246 : COK (5, 282, 214) := tb5_in (i := 132) rfl rfl
theorem cko_247 : COK (6, 112, 216) := tb5_in (i := 136) rfl rfl
theorem cko_248 : COK (6, 116, 217) := tb5_in (i := 140) rfl rfl
theorem cko_249 : COK (6, 120, 218) := tb5_in (i := 144) rfl rfl
theorem cko_250 : COK (6, 124, 219) := tb5_in (i := 148) rfl rfl
theorem cko_251 : COK (6, 128, 221) := tb5_in (i := 152) rfl rfl
theorem cko_252 : COK (5, 285, 220) := tb5_in (i := 156) rfl rfl
theorem cko_253 : COK (6, 132, 225) := tb5_in (i := 160) rfl rfl
theorem cko_254 : COK (5, 288, 222) := tb5_in (i := 164) rfl rfl
theorem cko_255 : COK (5, 291, 223) := tb5_in (i := 168) rfl rfl
theorem cko_256 : COK (5, 294, 224) := tb5_in (i := 172) rfl rfl
theorem cko_257 : COK (6, 136, 226) := tb5_in (i := 176) rfl rfl
theorem cko_258 : COK (6, 140, 228) := tb5_in (i := 180) rfl rfl
theorem cko_259 : COK (5, 297, 227) := tb5_in (i := 184) rfl rfl
theorem cko_260 : COK (6, 145, 232) := tb5_in (i := 188) rfl rfl
theorem cko_261 : COK (5, 304, 140) := tb5_in (i := 192) rfl rfl
theorem cko_262 : COK (5, 308, 231) := tb5_in (i := 197) rfl rfl
theorem cko_263 : COK (5, 312, 230) := tb5_in (i := 200) rfl rfl
theorem cko_264 : COK (5, 300, 229) := tb5_in (i := 203) rfl rfl
theorem cko_265 : COK (6, 150, 233) := tb5_in (i := 206) rfl rfl
theorem cko_266 : COK (6, 155, 234) := tb5_in (i := 210) rfl rfl
theorem cko_267 : COK (6, 159, 236) := tb5_in (i := 214) rfl rfl
theorem cko_268 : COK (5, 316, 235) := tb5_in (i := 218) rfl rfl
theorem cko_269 : COK (6, 163, 237) := tb5_in (i := 222) rfl rfl
theorem cko_270 : COK (6, 167, 238) := tb5_in (i := 226) rfl rfl
theorem cko_271 : COK (6, 171, 239) := tb5_in (i := 230) rfl rfl
theorem cko_272 : COK (6, 175, 241) := tb5_in (i := 234) rfl rfl
theorem cko_273 : COK (5, 325, 240) := tb5_in (i := 238) rfl rfl
theorem cko_274 : COK (5, 328, 182) := tb6_in (i := 5) rfl rfl
theorem cko_275 : COK (6, 187, 242) := tb6_in (i := 9) rfl rfl
theorem mko_1 : MOK 1 := ⟨tb2_in (i := 239) rfl rfl, tb2_in (i := 237) rfl rfl, tb1_in (i := 4) rfl rfl, Or.inr ⟨tb2_in (i := 238) rfl rfl, _, _, rfl⟩, rfl, pl_RX0, pd_1⟩
theorem mko_2 : MOK 2 := ⟨tb3_in (i := 16) rfl rfl, tb3_in (i := 14) rfl rfl, tb1_in (i := 4) rfl rfl, Or.inr ⟨tb3_in (i := 15) rfl rfl, _, _, rfl⟩, rfl, pl_RX0, pd_12⟩
theorem mko_3 : MOK 3 := ⟨tb3_in (i := 24) rfl rfl, tb3_in (i := 22) rfl rfl, tb1_in (i := 4) rfl rfl, Or.inr ⟨tb3_in (i := 23) rfl rfl, _, _, rfl⟩, rfl, pl_RX0, pd_3⟩
theorem mko_5 : MOK 5 := ⟨tb1_in (i := 145) rfl rfl, tb1_in (i := 143) rfl rfl, tb1_in (i := 2) rfl rfl, Or.inr ⟨tb1_in (i := 144) rfl rfl, _, _, rfl⟩, rfl, pl_RX1, pd_22⟩
theorem mko_6 : MOK 6 := ⟨tb1_in (i := 148) rfl rfl, tb1_in (i := 147) rfl rfl, tb1_in (i := 2) rfl rfl, Or.inl rfl, rfl, pl_RX1, pd_30⟩
theorem mko_7 : MOK 7 := ⟨tb2_in (i := 217) rfl rfl, tb2_in (i := 215) rfl rfl, tb1_in (i := 2) rfl rfl, Or.inr ⟨tb2_in (i := 216) rfl rfl, _, _, rfl⟩, rfl, pl_RX1, pd_0⟩
theorem mko_8 : MOK 8 := ⟨tb1_in (i := 198) rfl rfl, tb1_in (i := 196) rfl rfl, tb1_in (i := 2) rfl rfl, Or.inr ⟨tb1_in (i := 197) rfl rfl, _, _, rfl⟩, rfl, pl_RX1, pd_6⟩
theorem mko_9 : MOK 9 := ⟨tb1_in (i := 186) rfl rfl, tb1_in (i := 184) rfl rfl, tb1_in (i := 2) rfl rfl, Or.inr ⟨tb1_in (i := 185) rfl rfl, _, _, rfl⟩, rfl, pl_RX1, pd_10⟩
theorem mko_10 : MOK 10 := ⟨tb2_in (i := 17) rfl rfl, tb2_in (i := 15) rfl rfl, tb1_in (i := 2) rfl rfl, Or.inr ⟨tb2_in (i := 16) rfl rfl, _, _, rfl⟩, rfl, pl_RX1, pd_3⟩
theorem mko_11 : MOK 11 := ⟨tb2_in (i := 21) rfl rfl, tb2_in (i := 19) rfl rfl, tb1_in (i := 2) rfl rfl, Or.inr ⟨tb2_in (i := 20) rfl rfl, _, _, rfl⟩, rfl, pl_RX1, pd_3⟩
theorem mko_12 : MOK 12 := ⟨tb1_in (i := 190) rfl rfl, tb1_in (i := 188) rfl rfl, tb1_in (i := 2) rfl rfl, Or.inr ⟨tb1_in (i := 189) rfl rfl, _, _, rfl⟩, rfl, pl_RX1, pd_9⟩
theorem mko_13 : MOK 13 := ⟨tb1_in (i := 194) rfl rfl, tb1_in (i := 192) rfl rfl, tb1_in (i := 2) rfl rfl, Or.inr ⟨tb1_in (i := 193) rfl rfl, _, _, rfl⟩, rfl, pl_RX1, pd_9⟩
theorem mko_14 : MOK 14 := ⟨tb2_in (i := 32) rfl rfl, tb2_in (i := 30) rfl rfl, tb1_in (i := 2) rfl rfl, Or.inr ⟨tb2_in (i := 31) rfl rfl, _, _, rfl⟩, rfl, pl_RX1, pd_6⟩
theorem mko_15 : MOK 15 := ⟨tb2_in (i := 36) rfl rfl, tb2_in (i := 34) rfl rfl, tb1_in (i := 2) rfl rfl, Or.inr ⟨tb2_in (i := 35) rfl rfl, _, _, rfl⟩, rfl, pl_RX1, pd_6⟩
theorem mko_16 : MOK 16 := ⟨tb1_in (i := 206) rfl rfl, tb1_in (i := 204) rfl rfl, tb1_in (i := 2) rfl rfl, Or.inr ⟨tb1_in (i := 205) rfl rfl, _, _, rfl⟩, rfl, pl_RX1, pd_5⟩
theorem mko_17 : MOK 17 := ⟨tb1_in (i := 202) rfl rfl, tb1_in (i := 200) rfl rfl, tb1_in (i := 2) rfl rfl, Or.inr ⟨tb1_in (i := 201) rfl rfl, _, _, rfl⟩, rfl, pl_RX1, pd_5⟩
theorem mko_18 : MOK 18 := ⟨tb2_in (i := 198) rfl rfl, tb2_in (i := 196) rfl rfl, tb1_in (i := 2) rfl rfl, Or.inr ⟨tb2_in (i := 197) rfl rfl, _, _, rfl⟩, rfl, pl_RX1, pd_0⟩
theorem mko_19 : MOK 19 := ⟨tb3_in (i := 204) rfl rfl, tb3_in (i := 202) rfl rfl, tb1_in (i := 2) rfl rfl, Or.inr ⟨tb3_in (i := 203) rfl rfl, _, _, rfl⟩, rfl, pl_RX1, pd_0⟩
theorem mko_20 : MOK 20 := ⟨tb3_in (i := 11) rfl rfl, tb3_in (i := 9) rfl rfl, tb1_in (i := 2) rfl rfl, Or.inr ⟨tb3_in (i := 10) rfl rfl, _, _, rfl⟩, rfl, pl_RX1, pd_0⟩
theorem mko_21 : MOK 21 := ⟨tb2_in (i := 13) rfl rfl, tb2_in (i := 11) rfl rfl, tb1_in (i := 2) rfl rfl, Or.inr ⟨tb2_in (i := 12) rfl rfl, _, _, rfl⟩, rfl, pl_RX1, pd_3⟩
theorem mko_22 : MOK 22 := ⟨tb2_in (i := 55) rfl rfl, tb2_in (i := 53) rfl rfl, tb1_in (i := 2) rfl rfl, Or.inr ⟨tb2_in (i := 54) rfl rfl, _, _, rfl⟩, rfl, pl_RX1, pd_3⟩
theorem mko_23 : MOK 23 := ⟨tb2_in (i := 96) rfl rfl, tb2_in (i := 94) rfl rfl, tb1_in (i := 2) rfl rfl, Or.inr ⟨tb2_in (i := 95) rfl rfl, _, _, rfl⟩, rfl, pl_RX1, pd_3⟩
theorem mko_24 : MOK 24 := ⟨tb3_in (i := 78) rfl rfl, tb3_in (i := 76) rfl rfl, tb1_in (i := 2) rfl rfl, Or.inr ⟨tb3_in (i := 77) rfl rfl, _, _, rfl⟩, rfl, pl_RX1, pd_3⟩
theorem mko_25 : MOK 25 := ⟨tb3_in (i := 135) rfl rfl, tb3_in (i := 133) rfl rfl, tb1_in (i := 2) rfl rfl, Or.inr ⟨tb3_in (i := 134) rfl rfl, _, _, rfl⟩, rfl, pl_RX1, pd_5⟩
theorem mko_26 : MOK 26 := ⟨tb2_in (i := 44) rfl rfl, tb2_in (i := 42) rfl rfl, tb1_in (i := 2) rfl rfl, Or.inr ⟨tb2_in (i := 43) rfl rfl, _, _, rfl⟩, rfl, pl_RX1, pd_10⟩
theorem mko_27 : MOK 27 := ⟨tb1_in (i := 213) rfl rfl, tb1_in (i := 211) rfl rfl, tb1_in (i := 2) rfl rfl, Or.inr ⟨tb1_in (i := 212) rfl rfl, _, _, rfl⟩, rfl, pl_RX1, pd_6⟩
theorem mko_28 : MOK 28 := ⟨tb1_in (i := 217) rfl rfl, tb1_in (i := 215) rfl rfl, tb1_in (i := 2) rfl rfl, Or.inr ⟨tb1_in (i := 216) rfl rfl, _, _, rfl⟩, rfl, pl_RX1, pd_6⟩
theorem mko_29 : MOK 29 := ⟨tb2_in (i := 1) rfl rfl, tb1_in (i := 239) rfl rfl, tb1_in (i := 2) rfl rfl, Or.inr ⟨tb2_in (i := 0) rfl rfl, _, _, rfl⟩, rfl, pl_RX1, pd_3⟩
theorem mko_30 : MOK 30 := ⟨tb2_in (i := 51) rfl rfl, tb2_in (i := 49) rfl rfl, tb1_in (i := 2) rfl rfl, Or.inr ⟨tb2_in (i := 50) rfl rfl, _, _, rfl⟩, rfl, pl_RX1, pd_3⟩
theorem mko_31 : MOK 31 := ⟨tb2_in (i := 40) rfl rfl, tb2_in (i := 38) rfl rfl, tb1_in (i := 2) rfl rfl, Or.inr ⟨tb2_in (i := 39) rfl rfl, _, _, rfl⟩, rfl, pl_RX1, pd_3⟩
theorem mko_32 : MOK 32 := ⟨tb2_in (i := 68) rfl rfl, tb2_in (i := 66) rfl rfl, tb1_in (i := 2) rfl rfl, Or.inr ⟨tb2_in (i := 67) rfl rfl, _, _, rfl⟩, rfl, pl_RX1, pd_0⟩
theorem mko_33 : MOK 33 := ⟨tb2_in (i := 202) rfl rfl, tb2_in (i := 200) rfl rfl, tb1_in (i := 2) rfl rfl, Or.inr ⟨tb2_in (i := 201) rfl rfl, _, _, rfl⟩, rfl, pl_RX1, pd_0⟩
theorem mko_34 : MOK 34 := ⟨tb1_in (i := 221) rfl rfl, tb1_in (i := 219) rfl rfl, tb1_in (i := 2) rfl rfl, Or.inr ⟨tb1_in (i := 220) rfl rfl, _, _, rfl⟩, rfl, pl_RX1, pd_9⟩
theorem mko_35 : MOK 35 := ⟨tb1_in (i := 225) rfl rfl, tb1_in (i := 223) rfl rfl, tb1_in (i := 2) rfl rfl, Or.inr ⟨tb1_in (i := 224) rfl rfl, _, _, rfl⟩, rfl, pl_RX1, pd_9⟩
theorem mko_36 : MOK 36 := ⟨tb1_in (i := 229) rfl rfl, tb1_in (i := 227) rfl rfl, tb1_in (i := 2) rfl rfl, Or.inr ⟨tb1_in (i := 228) rfl rfl, _, _, rfl⟩, rfl, pl_RX1, pd_9⟩
theorem mko_37 : MOK 37 := ⟨tb2_in (i := 8) rfl rfl, tb2_in (i := 6) rfl rfl, tb1_in (i := 2) rfl rfl, Or.inr ⟨tb2_in (i := 7) rfl rfl, _, _, rfl⟩, rfl, pl_RX1, pd_9⟩
theorem mko_38 : MOK 38 := ⟨tb2_in (i := 157) rfl rfl, tb2_in (i := 155) rfl rfl, tb1_in (i := 2) rfl rfl, Or.inr ⟨tb2_in (i := 156) rfl rfl, _, _, rfl⟩, rfl, pl_RX1, pd_5⟩
theorem mko_39 : MOK 39 := ⟨tb1_in (i := 237) rfl rfl, tb1_in (i := 236) rfl rfl, tb1_in (i := 2) rfl rfl, Or.inr ⟨pr1_in (i := 8) rfl, _, _, rfl⟩, rfl, pl_RX1, pd_9⟩
theorem mko_40 : MOK 40 := ⟨tb1_in (i := 233) rfl rfl, tb1_in (i := 231) rfl rfl, tb1_in (i := 2) rfl rfl, Or.inr ⟨tb1_in (i := 232) rfl rfl, _, _, rfl⟩, rfl, pl_RX1, pd_7⟩
theorem mko_41 : MOK 41 := ⟨tb2_in (i := 75) rfl rfl, tb2_in (i := 73) rfl rfl, tb1_in (i := 2) rfl rfl, Or.inr ⟨tb2_in (i := 74) rfl rfl, _, _, rfl⟩, rfl, pl_RX1, pd_3⟩
theorem mko_42 : MOK 42 := ⟨tb2_in (i := 28) rfl rfl, tb2_in (i := 27) rfl rfl, tb1_in (i := 2) rfl rfl, Or.inr ⟨pr1_in (i := 9) rfl, _, _, rfl⟩, rfl, pl_RX1, pd_11⟩
theorem mko_43 : MOK 43 := ⟨tb2_in (i := 62) rfl rfl, tb2_in (i := 61) rfl rfl, tb1_in (i := 2) rfl rfl, Or.inr ⟨pr1_in (i := 10) rfl, _, _, rfl⟩, rfl, pl_RX1, pd_5⟩
theorem mko_44 : MOK 44 := ⟨tb3_in (i := 32) rfl rfl, tb3_in (i := 30) rfl rfl, tb1_in (i := 2) rfl rfl, Or.inr ⟨tb3_in (i := 31) rfl rfl, _, _, rfl⟩, rfl, pl_RX1, pd_9⟩
theorem mko_45 : MOK 45 := ⟨tb3_in (i := 49) rfl rfl, tb3_in (i := 47) rfl rfl, tb1_in (i := 2) rfl rfl, Or.inr ⟨tb3_in (i := 48) rfl rfl, _, _, rfl⟩, rfl, pl_RX1, pd_5⟩
theorem mko_46 : MOK 46 := ⟨tb2_in (i := 124) rfl rfl, tb2_in (i := 123) rfl rfl, tb1_in (i := 6) rfl rfl, Or.inl rfl, rfl, pl_RX2, pd_6⟩
theorem mko_47 : MOK 47 := ⟨tb1_in (i := 174) rfl rfl, tb1_in (i := 173) rfl rfl, tb1_in (i := 6) rfl rfl, Or.inl rfl, rfl, pl_RX2, pd_3⟩
theorem mko_48 : MOK 48 := ⟨tb3_in (i := 66) rfl rfl, tb3_in (i := 65) rfl rfl, tb1_in (i := 6) rfl rfl, Or.inl rfl, rfl, pl_RX2, pd_6⟩
theorem mko_49 : MOK 49 := ⟨tb2_in (i := 47) rfl rfl, tb2_in (i := 46) rfl rfl, tb1_in (i := 6) rfl rfl, Or.inl rfl, rfl, pl_RX2, pd_13⟩
theorem mko_50 : MOK 50 := ⟨tb2_in (i := 24) rfl rfl, tb2_in (i := 23) rfl rfl, tb1_in (i := 6) rfl rfl, Or.inl rfl, rfl, pl_RX2, pd_7⟩
theorem mko_51 : MOK 51 := ⟨tb2_in (i := 58) rfl rfl, tb2_in (i := 57) rfl rfl, tb1_in (i := 6) rfl rfl, Or.inl rfl, rfl, pl_RX2, pd_3⟩
theorem mko_52 : MOK 52 := ⟨tb2_in (i := 99) rfl rfl, tb2_in (i := 98) rfl rfl, tb1_in (i := 6) rfl rfl, Or.inl rfl, rfl, pl_RX2, pd_7⟩
theorem mko_54 : MOK 54 := ⟨tb3_in (i := 208) rfl rfl, tb3_in (i := 206) rfl rfl, tb1_in (i := 3) rfl rfl, Or.inr ⟨tb3_in (i := 207) rfl rfl, _, _, rfl⟩, rfl, pl_RX3, pd_0⟩
theorem mko_55 : MOK 55 := ⟨tb1_in (i := 129) rfl rfl, tb1_in (i := 127) rfl rfl, tb1_in (i := 3) rfl rfl, Or.inr ⟨tb1_in (i := 128) rfl rfl, _, _, rfl⟩, rfl, pl_RX3, pd_2⟩
theorem mko_56 : MOK 56 := ⟨tb1_in (i := 133) rfl rfl, tb1_in (i := 131) rfl rfl, tb1_in (i := 3) rfl rfl, Or.inr ⟨tb1_in (i := 132) rfl rfl, _, _, rfl⟩, rfl, pl_RX3, pd_3⟩
theorem mko_57 : MOK 57 := ⟨tb2_in (i := 81) rfl rfl, tb2_in (i := 79) rfl rfl, tb1_in (i := 3) rfl rfl, Or.inr ⟨tb2_in (i := 80) rfl rfl, _, _, rfl⟩, rfl, pl_RX3, pd_1⟩
theorem mko_58 : MOK 58 := ⟨tb1_in (i := 152) rfl rfl, tb1_in (i := 150) rfl rfl, tb1_in (i := 3) rfl rfl, Or.inr ⟨tb1_in (i := 151) rfl rfl, _, _, rfl⟩, rfl, pl_RX3, pd_21⟩
theorem mko_59 : MOK 59 := ⟨tb1_in (i := 156) rfl rfl, tb1_in (i := 155) rfl rfl, tb1_in (i := 3) rfl rfl, Or.inr ⟨pr1_in (i := 2) rfl, _, _, rfl⟩, rfl, pl_RX3, pd_0⟩
theorem mko_60 : MOK 60 := ⟨tb1_in (i := 178) rfl rfl, tb1_in (i := 177) rfl rfl, tb1_in (i := 3) rfl rfl, Or.inr ⟨pr1_in (i := 6) rfl, _, _, rfl⟩, rfl, pl_RX3, pd_3⟩
theorem mko_61 : MOK 61 := ⟨tb1_in (i := 160) rfl rfl, tb1_in (i := 159) rfl rfl, tb1_in (i := 3) rfl rfl, Or.inr ⟨pr1_in (i := 3) rfl, _, _, rfl⟩, rfl, pl_RX3, pd_3⟩
theorem mko_62 : MOK 62 := ⟨tb1_in (i := 167) rfl rfl, tb1_in (i := 166) rfl rfl, tb1_in (i := 3) rfl rfl, Or.inl rfl, rfl, pl_RX3, pd_3⟩
theorem mko_63 : MOK 63 := ⟨tb1_in (i := 171) rfl rfl, tb1_in (i := 170) rfl rfl, tb1_in (i := 3) rfl rfl, Or.inr ⟨pr1_in (i := 5) rfl, _, _, rfl⟩, rfl, pl_RX3, pd_10⟩
theorem mko_64 : MOK 64 := ⟨tb1_in (i := 164) rfl rfl, tb1_in (i := 163) rfl rfl, tb1_in (i := 3) rfl rfl, Or.inr ⟨pr1_in (i := 4) rfl, _, _, rfl⟩, rfl, pl_RX3, pd_3⟩
theorem mko_65 : MOK 65 := ⟨tb1_in (i := 182) rfl rfl, tb1_in (i := 181) rfl rfl, tb1_in (i := 3) rfl rfl, Or.inr ⟨pr1_in (i := 7) rfl, _, _, rfl⟩, rfl, pl_RX3, pd_16⟩
theorem mko_66 : MOK 66 := ⟨tb1_in (i := 209) rfl rfl, tb1_in (i := 208) rfl rfl, tb1_in (i := 3) rfl rfl, Or.inl rfl, rfl, pl_RX3, pd_23⟩
theorem mko_68 : MOK 68 := ⟨tb1_in (i := 121) rfl rfl, tb1_in (i := 119) rfl rfl, tb1_in (i := 1) rfl rfl, Or.inr ⟨tb1_in (i := 120) rfl rfl, _, _, rfl⟩, rfl, pl_RX4, pd_3⟩
theorem mko_69 : MOK 69 := ⟨tb1_in (i := 137) rfl rfl, tb1_in (i := 135) rfl rfl, tb1_in (i := 1) rfl rfl, Or.inr ⟨tb1_in (i := 136) rfl rfl, _, _, rfl⟩, rfl, pl_RX4, pd_0⟩
theorem mko_70 : MOK 70 := ⟨tb2_in (i := 85) rfl rfl, tb2_in (i := 83) rfl rfl, tb1_in (i := 1) rfl rfl, Or.inr ⟨tb2_in (i := 84) rfl rfl, _, _, rfl⟩, rfl, pl_RX4, pd_7⟩
theorem mko_71 : MOK 71 := ⟨tb2_in (i := 103) rfl rfl, tb2_in (i := 101) rfl rfl, tb1_in (i := 1) rfl rfl, Or.inr ⟨tb2_in (i := 102) rfl rfl, _, _, rfl⟩, rfl, pl_RX4, pd_7⟩
theorem mko_72 : MOK 72 := ⟨tb2_in (i := 111) rfl rfl, tb2_in (i := 109) rfl rfl, tb1_in (i := 1) rfl rfl, Or.inr ⟨tb2_in (i := 110) rfl rfl, _, _, rfl⟩, rfl, pl_RX4, pd_3⟩
theorem mko_73 : MOK 73 := ⟨tb2_in (i := 116) rfl rfl, tb2_in (i := 114) rfl rfl, tb1_in (i := 1) rfl rfl, Or.inr ⟨tb2_in (i := 115) rfl rfl, _, _, rfl⟩, rfl, pl_RX4, pd_3⟩
theorem mko_74 : MOK 74 := ⟨tb2_in (i := 121) rfl rfl, tb2_in (i := 119) rfl rfl, tb1_in (i := 1) rfl rfl, Or.inr ⟨tb2_in (i := 120) rfl rfl, _, _, rfl⟩, rfl, pl_RX4, pd_11⟩
theorem mko_75 : MOK 75 := ⟨tb2_in (i := 130) rfl rfl, tb2_in (i := 128) rfl rfl, tb1_in (i := 1) rfl rfl, Or.inr ⟨tb2_in (i := 129) rfl rfl, _, _, rfl⟩, rfl, pl_RX4, pd_11⟩
theorem mko_76 : MOK 76 := ⟨tb2_in (i := 137) rfl rfl, tb2_in (i := 135) rfl rfl, tb1_in (i := 1) rfl rfl, Or.inr ⟨tb2_in (i := 136) rfl rfl, _, _, rfl⟩, rfl, pl_RX4, pd_7⟩
theorem mko_77 : MOK 77 := ⟨tb2_in (i := 142) rfl rfl, tb2_in (i := 140) rfl rfl, tb1_in (i := 1) rfl rfl, Or.inr ⟨tb2_in (i := 141) rfl rfl, _, _, rfl⟩, rfl, pl_RX4, pd_7⟩
theorem mko_78 : MOK 78 := ⟨tb2_in (i := 147) rfl rfl, tb2_in (i := 145) rfl rfl, tb1_in (i := 1) rfl rfl, Or.inr ⟨tb2_in (i := 146) rfl rfl, _, _, rfl⟩, rfl, pl_RX4, pd_3⟩
theorem mko_79 : MOK 79 := ⟨tb2_in (i := 153) rfl rfl, tb2_in (i := 151) rfl rfl, tb1_in (i := 1) rfl rfl, Or.inr ⟨tb2_in (i := 152) rfl rfl, _, _, rfl⟩, rfl, pl_RX4, pd_3⟩
theorem mko_80 : MOK 80 := ⟨tb2_in (i := 165) rfl rfl, tb2_in (i := 163) rfl rfl, tb1_in (i := 1) rfl rfl, Or.inr ⟨tb2_in (i := 164) rfl rfl, _, _, rfl⟩, rfl, pl_RX4, pd_7⟩
theorem mko_81 : MOK 81 := ⟨tb2_in (i := 174) rfl rfl, tb2_in (i := 172) rfl rfl, tb1_in (i := 1) rfl rfl, Or.inr ⟨tb2_in (i := 173) rfl rfl, _, _, rfl⟩, rfl, pl_RX4, pd_7⟩
theorem mko_82 : MOK 82 := ⟨tb2_in (i := 178) rfl rfl, tb2_in (i := 176) rfl rfl, tb1_in (i := 1) rfl rfl, Or.inr ⟨tb2_in (i := 177) rfl rfl, _, _, rfl⟩, rfl, pl_RX4, pd_11⟩
theorem mko_83 : MOK 83 := ⟨tb2_in (i := 182) rfl rfl, tb2_in (i := 180) rfl rfl, tb1_in (i := 1) rfl rfl, Or.inr ⟨tb2_in (i := 181) rfl rfl, _, _, rfl⟩, rfl, pl_RX4, pd_7⟩
theorem mko_84 : MOK 84 := ⟨tb2_in (i := 186) rfl rfl, tb2_in (i := 184) rfl rfl, tb1_in (i := 1) rfl rfl, Or.inr ⟨tb2_in (i := 185) rfl rfl, _, _, rfl⟩, rfl, pl_RX4, pd_7⟩
theorem mko_85 : MOK 85 := ⟨tb2_in (i := 206) rfl rfl, tb2_in (i := 204) rfl rfl, tb1_in (i := 1) rfl rfl, Or.inr ⟨tb2_in (i := 205) rfl rfl, _, _, rfl⟩, rfl, pl_RX4, pd_3⟩
theorem mko_86 : MOK 86 := ⟨tb2_in (i := 213) rfl rfl, tb2_in (i := 211) rfl rfl, tb1_in (i := 1) rfl rfl, Or.inr ⟨tb2_in (i := 212) rfl rfl, _, _, rfl⟩, rfl, pl_RX4, pd_3⟩
theorem mko_87 : MOK 87 := ⟨tb2_in (i := 221) rfl rfl, tb2_in (i := 219) rfl rfl, tb1_in (i := 1) rfl rfl, Or.inr ⟨tb2_in (i := 220) rfl rfl, _, _, rfl⟩, rfl, pl_RX4, pd_11⟩
theorem mko_88 : MOK 88 := ⟨tb3_in (i := 28) rfl rfl, tb3_in (i := 26) rfl rfl, tb1_in (i := 1) rfl rfl, Or.inr ⟨tb3_in (i := 27) rfl rfl, _, _, rfl⟩, rfl, pl_RX4, pd_7⟩
theorem mko_89 : MOK 89 := ⟨tb3_in (i := 37) rfl rfl, tb3_in (i := 35) rfl rfl, tb1_in (i := 1) rfl rfl, Or.inr ⟨tb3_in (i := 36) rfl rfl, _, _, rfl⟩, rfl, pl_RX4, pd_7⟩
theorem mko_90 : MOK 90 := ⟨tb3_in (i := 45) rfl rfl, tb3_in (i := 43) rfl rfl, tb1_in (i := 1) rfl rfl, Or.inr ⟨tb3_in (i := 44) rfl rfl, _, _, rfl⟩, rfl, pl_RX4, pd_3⟩
theorem mko_91 : MOK 91 := ⟨tb3_in (i := 54) rfl rfl, tb3_in (i := 52) rfl rfl, tb1_in (i := 1) rfl rfl, Or.inr ⟨tb3_in (i := 53) rfl rfl, _, _, rfl⟩, rfl, pl_RX4, pd_3⟩
theorem mko_92 : MOK 92 := ⟨tb3_in (i := 59) rfl rfl, tb3_in (i := 57) rfl rfl, tb1_in (i := 1) rfl rfl, Or.inr ⟨tb3_in (i := 58) rfl rfl, _, _, rfl⟩, rfl, pl_RX4, pd_11⟩
theorem mko_93 : MOK 93 := ⟨tb3_in (i := 63) rfl rfl, tb3_in (i := 61) rfl rfl, tb1_in (i := 1) rfl rfl, Or.inr ⟨tb3_in (i := 62) rfl rfl, _, _, rfl⟩, rfl, pl_RX4, pd_3⟩
theorem mko_94 : MOK 94 := ⟨tb3_in (i := 70) rfl rfl, tb3_in (i := 68) rfl rfl, tb1_in (i := 1) rfl rfl, Or.inr ⟨tb3_in (i := 69) rfl rfl, _, _, rfl⟩, rfl, pl_RX4, pd_3⟩
theorem mko_95 : MOK 95 := ⟨tb3_in (i := 74) rfl rfl, tb3_in (i := 72) rfl rfl, tb1_in (i := 1) rfl rfl, Or.inr ⟨tb3_in (i := 73) rfl rfl, _, _, rfl⟩, rfl, pl_RX4, pd_3⟩
theorem mko_96 : MOK 96 := ⟨tb3_in (i := 84) rfl rfl, tb3_in (i := 82) rfl rfl, tb1_in (i := 1) rfl rfl, Or.inr ⟨tb3_in (i := 83) rfl rfl, _, _, rfl⟩, rfl, pl_RX4, pd_3⟩
theorem mko_97 : MOK 97 := ⟨tb3_in (i := 100) rfl rfl, tb3_in (i := 98) rfl rfl, tb1_in (i := 1) rfl rfl, Or.inr ⟨tb3_in (i := 99) rfl rfl, _, _, rfl⟩, rfl, pl_RX4, pd_11⟩
theorem mko_98 : MOK 98 := ⟨tb3_in (i := 104) rfl rfl, tb3_in (i := 102) rfl rfl, tb1_in (i := 1) rfl rfl, Or.inr ⟨tb3_in (i := 103) rfl rfl, _, _, rfl⟩, rfl, pl_RX4, pd_7⟩
theorem mko_99 : MOK 99 := ⟨tb3_in (i := 116) rfl rfl, tb3_in (i := 114) rfl rfl, tb1_in (i := 1) rfl rfl, Or.inr ⟨tb3_in (i := 115) rfl rfl, _, _, rfl⟩, rfl, pl_RX4, pd_8⟩
theorem mko_100 : MOK 100 := ⟨tb3_in (i := 131) rfl rfl, tb3_in (i := 129) rfl rfl, tb1_in (i := 1) rfl rfl, Or.inr ⟨tb3_in (i := 130) rfl rfl, _, _, rfl⟩, rfl, pl_RX4, pd_14⟩
theorem mko_101 : MOK 101 := ⟨tb3_in (i := 142) rfl rfl, tb3_in (i := 140) rfl rfl, tb1_in (i := 1) rfl rfl, Or.inr ⟨tb3_in (i := 141) rfl rfl, _, _, rfl⟩, rfl, pl_RX4, pd_4⟩
theorem mko_102 : MOK 102 := ⟨tb3_in (i := 146) rfl rfl, tb3_in (i := 144) rfl rfl, tb1_in (i := 1) rfl rfl, Or.inr ⟨tb3_in (i := 145) rfl rfl, _, _, rfl⟩, rfl, pl_RX4, pd_7⟩
theorem mko_103 : MOK 103 := ⟨tb3_in (i := 163) rfl rfl, tb3_in (i := 161) rfl rfl, tb1_in (i := 1) rfl rfl, Or.inr ⟨tb3_in (i := 162) rfl rfl, _, _, rfl⟩, rfl, pl_RX4, pd_3⟩
theorem mko_104 : MOK 104 := ⟨tb3_in (i := 167) rfl rfl, tb3_in (i := 165) rfl rfl, tb1_in (i := 1) rfl rfl, Or.inr ⟨tb3_in (i := 166) rfl rfl, _, _, rfl⟩, rfl, pl_RX4, pd_0⟩
theorem mko_105 : MOK 105 := ⟨tb3_in (i := 171) rfl rfl, tb3_in (i := 169) rfl rfl, tb1_in (i := 1) rfl rfl, Or.inr ⟨tb3_in (i := 170) rfl rfl, _, _, rfl⟩, rfl, pl_RX4, pd_0⟩
theorem mko_106 : MOK 106 := ⟨tb3_in (i := 175) rfl rfl, tb3_in (i := 173) rfl rfl, tb1_in (i := 1) rfl rfl, Or.inr ⟨tb3_in (i := 174) rfl rfl, _, _, rfl⟩, rfl, pl_RX4, pd_11⟩
theorem mko_107 : MOK 107 := ⟨tb3_in (i := 188) rfl rfl, tb3_in (i := 186) rfl rfl, tb1_in (i := 1) rfl rfl, Or.inr ⟨tb3_in (i := 187) rfl rfl, _, _, rfl⟩, rfl, pl_RX4, pd_0⟩
theorem mko_108 : MOK 108 := ⟨tb3_in (i := 192) rfl rfl, tb3_in (i := 190) rfl rfl, tb1_in (i := 1) rfl rfl, Or.inr ⟨tb3_in (i := 191) rfl rfl, _, _, rfl⟩, rfl, pl_RX4, pd_0⟩
theorem mko_109 : MOK 109 := ⟨tb3_in (i := 196) rfl rfl, tb3_in (i := 194) rfl rfl, tb1_in (i := 1) rfl rfl, Or.inr ⟨tb3_in (i := 195) rfl rfl, _, _, rfl⟩, rfl, pl_RX4, pd_3⟩
theorem mko_110 : MOK 110 := ⟨tb1_in (i := 125) rfl rfl, tb1_in (i := 124) rfl rfl, tb1_in (i := 1) rfl rfl, Or.inr ⟨pr1_in (i := 0) rfl, _, _, rfl⟩, rfl, pl_RX4, pd_3⟩
theorem mko_111 : MOK 111 := ⟨tb3_in (i := 200) rfl rfl, tb3_in (i := 199) rfl rfl, tb1_in (i := 1) rfl rfl, Or.inr ⟨pr2_in (i := 14) rfl, _, _, rfl⟩, rfl, pl_RX4, pd_3⟩
theorem mko_112 : MOK 112 := ⟨tb3_in (i := 120) rfl rfl, tb3_in (i := 119) rfl rfl, tb1_in (i := 1) rfl rfl, Or.inr ⟨pr2_in (i := 10) rfl, _, _, rfl⟩, rfl, pl_RX4, pd_4⟩
theorem mko_113 : MOK 113 := ⟨tb2_in (i := 169) rfl rfl, tb2_in (i := 168) rfl rfl, tb1_in (i := 1) rfl rfl, Or.inr ⟨pr1_in (i := 12) rfl, _, _, rfl⟩, rfl, pl_RX4, pd_7⟩
theorem mko_114 : MOK 114 := ⟨tb2_in (i := 225) rfl rfl, tb2_in (i := 224) rfl rfl, tb1_in (i := 1) rfl rfl, Or.inr ⟨pr1_in (i := 15) rfl, _, _, rfl⟩, rfl, pl_RX4, pd_3⟩
theorem mko_115 : MOK 115 := ⟨tb3_in (i := 41) rfl rfl, tb3_in (i := 40) rfl rfl, tb1_in (i := 1) rfl rfl, Or.inr ⟨pr2_in (i := 4) rfl, _, _, rfl⟩, rfl, pl_RX4, pd_10⟩
theorem mko_116 : MOK 116 := ⟨tb1_in (i := 141) rfl rfl, tb1_in (i := 140) rfl rfl, tb1_in (i := 1) rfl rfl, Or.inr ⟨pr1_in (i := 1) rfl, _, _, rfl⟩, rfl, pl_RX4, pd_1⟩
theorem mko_117 : MOK 117 := ⟨tb2_in (i := 161) rfl rfl, tb2_in (i := 160) rfl rfl, tb1_in (i := 1) rfl rfl, Or.inr ⟨pr1_in (i := 11) rfl, _, _, rfl⟩, rfl, pl_RX4, pd_3⟩
theorem mko_118 : MOK 118 := ⟨tb2_in (i := 190) rfl rfl, tb2_in (i := 189) rfl rfl, tb1_in (i := 1) rfl rfl, Or.inr ⟨pr1_in (i := 13) rfl, _, _, rfl⟩, rfl, pl_RX4, pd_5⟩
theorem mko_119 : MOK 119 := ⟨tb2_in (i := 194) rfl rfl, tb2_in (i := 193) rfl rfl, tb1_in (i := 1) rfl rfl, Or.inr ⟨pr1_in (i := 14) rfl, _, _, rfl⟩, rfl, pl_RX4, pd_3⟩
theorem mko_120 : MOK 120 := ⟨tb2_in (i := 235) rfl rfl, tb2_in (i := 234) rfl rfl, tb1_in (i := 1) rfl rfl, Or.inr ⟨pr2_in (i := 0) rfl, _, _, rfl⟩, rfl, pl_RX4, pd_9⟩
theorem mko_121 : MOK 121 := ⟨tb3_in (i := 7) rfl rfl, tb3_in (i := 6) rfl rfl, tb1_in (i := 1) rfl rfl, Or.inr ⟨pr2_in (i := 2) rfl, _, _, rfl⟩, rfl, pl_RX4, pd_3⟩
theorem mko_122 : MOK 122 := ⟨tb3_in (i := 3) rfl rfl, tb3_in (i := 2) rfl rfl, tb1_in (i := 1) rfl rfl, Or.inr ⟨pr2_in (i := 1) rfl, _, _, rfl⟩, rfl, pl_RX4, pd_3⟩
theorem mko_123 : MOK 123 := ⟨tb3_in (i := 20) rfl rfl, tb3_in (i := 19) rfl rfl, tb1_in (i := 1) rfl rfl, Or.inr ⟨pr2_in (i := 3) rfl, _, _, rfl⟩, rfl, pl_RX4, pd_6⟩
theorem mko_124 : MOK 124 := ⟨tb2_in (i := 209) rfl rfl, tb2_in (i := 208) rfl rfl, tb1_in (i := 1) rfl rfl, Or.inl rfl, rfl, pl_RX4, pd_29⟩
theorem mko_125 : MOK 125 := ⟨tb3_in (i := 108) rfl rfl, tb3_in (i := 107) rfl rfl, tb1_in (i := 1) rfl rfl, Or.inr ⟨pr2_in (i := 8) rfl, _, _, rfl⟩, rfl, pl_RX4, pd_15⟩
theorem mko_126 : MOK 126 := ⟨tb3_in (i := 112) rfl rfl, tb3_in (i := 111) rfl rfl, tb1_in (i := 1) rfl rfl, Or.inr ⟨pr2_in (i := 9) rfl, _, _, rfl⟩, rfl, pl_RX4, pd_11⟩
theorem mko_127 : MOK 127 := ⟨tb3_in (i := 88) rfl rfl, tb3_in (i := 87) rfl rfl, tb1_in (i := 1) rfl rfl, Or.inr ⟨pr2_in (i := 5) rfl, _, _, rfl⟩, rfl, pl_RX4, pd_0⟩
theorem mko_128 : MOK 128 := ⟨tb3_in (i := 92) rfl rfl, tb3_in (i := 91) rfl rfl, tb1_in (i := 1) rfl rfl, Or.inr ⟨pr2_in (i := 6) rfl, _, _, rfl⟩, rfl, pl_RX4, pd_0⟩
theorem mko_129 : MOK 129 := ⟨tb3_in (i := 96) rfl rfl, tb3_in (i := 95) rfl rfl, tb1_in (i := 1) rfl rfl, Or.inr ⟨pr2_in (i := 7) rfl, _, _, rfl⟩, rfl, pl_RX4, pd_0⟩
theorem mko_130 : MOK 130 := ⟨tb3_in (i := 150) rfl rfl, tb3_in (i := 149) rfl rfl, tb1_in (i := 1) rfl rfl, Or.inr ⟨pr2_in (i := 11) rfl, _, _, rfl⟩, rfl, pl_RX4, pd_3⟩
theorem mko_131 : MOK 131 := ⟨tb3_in (i := 159) rfl rfl, tb3_in (i := 158) rfl rfl, tb1_in (i := 1) rfl rfl, Or.inr ⟨pr2_in (i := 13) rfl, _, _, rfl⟩, rfl, pl_RX4, pd_3⟩
theorem mko_132 : MOK 132 := ⟨tb3_in (i := 154) rfl rfl, tb3_in (i := 153) rfl rfl, tb1_in (i := 1) rfl rfl, Or.inr ⟨pr2_in (i := 12) rfl, _, _, rfl⟩, rfl, pl_RX4, pd_10⟩
theorem mko_133 : MOK 133 := ⟨tb3_in (i := 178) rfl rfl, tb3_in (i := 177) rfl rfl, tb1_in (i := 1) rfl rfl, Or.inl rfl, rfl, pl_RX4, pd_3⟩
theorem mko_134 : MOK 134 := ⟨tb3_in (i := 183) rfl rfl, tb3_in (i := 182) rfl rfl, tb1_in (i := 1) rfl rfl, Or.inl rfl, rfl, pl_RX4, pd_3⟩
theorem mko_135 : MOK 135 := ⟨tb3_in (i := 138) rfl rfl, tb3_in (i := 137) rfl rfl, tb1_in (i := 1) rfl rfl, Or.inl rfl, rfl, pl_RX4, pd_18⟩
theorem mko_136 : MOK 136 := ⟨tb3_in (i := 124) rfl rfl, tb3_in (i := 123) rfl rfl, tb1_in (i := 1) rfl rfl, Or.inl rfl, rfl, pl_RX4, pd_20⟩
theorem mko_137 : MOK 137 := ⟨tb3_in (i := 127) rfl rfl, tb3_in (i := 126) rfl rfl, tb1_in (i := 1) rfl rfl, Or.inl rfl, rfl, pl_RX4, pd_19⟩
theorem mko_139 : MOK 139 := ⟨tb4_in (i := 94) rfl rfl, tb4_in (i := 93) rfl rfl, tb1_in (i := 5) rfl rfl, Or.inr ⟨pr2_in (i := 15) rfl, _, _, rfl⟩, rfl, pl_RX5, pd_3⟩
theorem mko_140 : MOK 140 := ⟨tb5_in (i := 195) rfl rfl, tb5_in (i := 194) rfl rfl, tb1_in (i := 5) rfl rfl, Or.inr ⟨pr5_in (i := 13) rfl, _, _, rfl⟩, rfl, pl_RX5, pd_4⟩
theorem mko_141 : MOK 141 := ⟨tb4_in (i := 124) rfl rfl, tb4_in (i := 123) rfl rfl, tb1_in (i := 5) rfl rfl, Or.inl rfl, rfl, pl_RX5, pd_13⟩
theorem mko_142 : MOK 142 := ⟨tb4_in (i := 90) rfl rfl, tb4_in (i := 89) rfl rfl, tb1_in (i := 5) rfl rfl, Or.inl rfl, rfl, pl_RX5, pd_11⟩
theorem mko_143 : MOK 143 := ⟨tb4_in (i := 189) rfl rfl, tb4_in (i := 188) rfl rfl, tb1_in (i := 5) rfl rfl, Or.inl rfl, rfl, pl_RX5, pd_10⟩
theorem mko_144 : MOK 144 := ⟨tb4_in (i := 223) rfl rfl, tb4_in (i := 222) rfl rfl, tb1_in (i := 5) rfl rfl, Or.inl rfl, rfl, pl_RX5, pd_3⟩
theorem mko_145 : MOK 145 := ⟨tb4_in (i := 174) rfl rfl, tb4_in (i := 173) rfl rfl, tb1_in (i := 5) rfl rfl, Or.inl rfl, rfl, pl_RX5, pd_7⟩
theorem mko_146 : MOK 146 := ⟨tb4_in (i := 148) rfl rfl, tb4_in (i := 147) rfl rfl, tb1_in (i := 5) rfl rfl, Or.inr ⟨pr3_in (i := 10) rfl, _, _, rfl⟩, rfl, pl_RX5, pd_6⟩
theorem mko_147 : MOK 147 := ⟨tb4_in (i := 155) rfl rfl, tb4_in (i := 154) rfl rfl, tb1_in (i := 5) rfl rfl, Or.inl rfl, rfl, pl_RX5, pd_6⟩
theorem mko_148 : MOK 148 := ⟨tb5_in (i := 127) rfl rfl, tb5_in (i := 126) rfl rfl, tb1_in (i := 5) rfl rfl, Or.inr ⟨pr5_in (i := 6) rfl, _, _, rfl⟩, rfl, pl_RX5, pd_10⟩
theorem mko_149 : MOK 149 := ⟨tb4_in (i := 87) rfl rfl, tb4_in (i := 85) rfl rfl, tb1_in (i := 5) rfl rfl, Or.inr ⟨tb4_in (i := 86) rfl rfl, _, _, rfl⟩, rfl, pl_RX5, pd_3⟩
theorem mko_150 : MOK 150 := ⟨tb4_in (i := 106) rfl rfl, tb4_in (i := 105) rfl rfl, tb1_in (i := 5) rfl rfl, Or.inr ⟨pr3_in (i := 1) rfl, _, _, rfl⟩, rfl, pl_RX5, pd_0⟩
theorem mko_151 : MOK 151 := ⟨tb4_in (i := 121) rfl rfl, tb4_in (i := 120) rfl rfl, tb1_in (i := 5) rfl rfl, Or.inr ⟨pr3_in (i := 4) rfl, _, _, rfl⟩, rfl, pl_RX5, pd_6⟩
theorem mko_152 : MOK 152 := ⟨tb4_in (i := 117) rfl rfl, tb4_in (i := 116) rfl rfl, tb1_in (i := 5) rfl rfl, Or.inl rfl, rfl, pl_RX5, pd_3⟩
theorem mko_153 : MOK 153 := ⟨tb4_in (i := 114) rfl rfl, tb4_in (i := 113) rfl rfl, tb1_in (i := 5) rfl rfl, Or.inr ⟨pr3_in (i := 3) rfl, _, _, rfl⟩, rfl, pl_RX5, pd_2⟩
theorem mko_154 : MOK 154 := ⟨tb4_in (i := 110) rfl rfl, tb4_in (i := 109) rfl rfl, tb1_in (i := 5) rfl rfl, Or.inr ⟨pr3_in (i := 2) rfl, _, _, rfl⟩, rfl, pl_RX5, pd_6⟩
theorem mko_155 : MOK 155 := ⟨tb4_in (i := 102) rfl rfl, tb4_in (i := 101) rfl rfl, tb1_in (i := 5) rfl rfl, Or.inr ⟨pr3_in (i := 0) rfl, _, _, rfl⟩, rfl, pl_RX5, pd_2⟩
theorem mko_156 : MOK 156 := ⟨tb4_in (i := 140) rfl rfl, tb4_in (i := 139) rfl rfl, tb1_in (i := 5) rfl rfl, Or.inr ⟨pr3_in (i := 8) rfl, _, _, rfl⟩, rfl, pl_RX5, pd_10⟩
theorem mko_157 : MOK 157 := ⟨tb4_in (i := 144) rfl rfl, tb4_in (i := 143) rfl rfl, tb1_in (i := 5) rfl rfl, Or.inr ⟨pr3_in (i := 9) rfl, _, _, rfl⟩, rfl, pl_RX5, pd_28⟩
theorem mko_158 : MOK 158 := ⟨tb4_in (i := 152) rfl rfl, tb4_in (i := 151) rfl rfl, tb1_in (i := 5) rfl rfl, Or.inr ⟨pr3_in (i := 11) rfl, _, _, rfl⟩, rfl, pl_RX5, pd_13⟩
theorem mko_159 : MOK 159 := ⟨tb4_in (i := 159) rfl rfl, tb4_in (i := 158) rfl rfl, tb1_in (i := 5) rfl rfl, Or.inr ⟨pr3_in (i := 12) rfl, _, _, rfl⟩, rfl, pl_RX5, pd_10⟩
theorem mko_160 : MOK 160 := ⟨tb4_in (i := 163) rfl rfl, tb4_in (i := 162) rfl rfl, tb1_in (i := 5) rfl rfl, Or.inr ⟨pr3_in (i := 13) rfl, _, _, rfl⟩, rfl, pl_RX5, pd_10⟩
theorem mko_161 : MOK 161 := ⟨tb4_in (i := 200) rfl rfl, tb4_in (i := 199) rfl rfl, tb1_in (i := 5) rfl rfl, Or.inr ⟨pr4_in (i := 4) rfl, _, _, rfl⟩, rfl, pl_RX5, pd_6⟩
theorem mko_162 : MOK 162 := ⟨tb4_in (i := 136) rfl rfl, tb4_in (i := 135) rfl rfl, tb1_in (i := 5) rfl rfl, Or.inr ⟨pr3_in (i := 7) rfl, _, _, rfl⟩, rfl, pl_RX5, pd_6⟩
theorem mko_163 : MOK 163 := ⟨tb4_in (i := 98) rfl rfl, tb4_in (i := 96) rfl rfl, tb1_in (i := 5) rfl rfl, Or.inr ⟨tb4_in (i := 97) rfl rfl, _, _, rfl⟩, rfl, pl_RX5, pd_0⟩
theorem mko_164 : MOK 164 := ⟨tb4_in (i := 132) rfl rfl, tb4_in (i := 131) rfl rfl, tb1_in (i := 5) rfl rfl, Or.inr ⟨pr3_in (i := 6) rfl, _, _, rfl⟩, rfl, pl_RX5, pd_25⟩
theorem mko_165 : MOK 165 := ⟨tb4_in (i := 128) rfl rfl, tb4_in (i := 127) rfl rfl, tb1_in (i := 5) rfl rfl, Or.inr ⟨pr3_in (i := 5) rfl, _, _, rfl⟩, rfl, pl_RX5, pd_17⟩
theorem mko_166 : MOK 166 := ⟨tb5_in (i := 62) rfl rfl, tb5_in (i := 61) rfl rfl, tb1_in (i := 5) rfl rfl, Or.inr ⟨pr4_in (i := 13) rfl, _, _, rfl⟩, rfl, pl_RX5, pd_1⟩
theorem mko_167 : MOK 167 := ⟨tb5_in (i := 66) rfl rfl, tb5_in (i := 65) rfl rfl, tb1_in (i := 5) rfl rfl, Or.inr ⟨pr4_in (i := 14) rfl, _, _, rfl⟩, rfl, pl_RX5, pd_1⟩
theorem mko_168 : MOK 168 := ⟨tb4_in (i := 212) rfl rfl, tb4_in (i := 210) rfl rfl, tb1_in (i := 5) rfl rfl, Or.inr ⟨tb4_in (i := 211) rfl rfl, _, _, rfl⟩, rfl, pl_RX5, pd_0⟩
theorem mko_169 : MOK 169 := ⟨tb4_in (i := 227) rfl rfl, tb4_in (i := 225) rfl rfl, tb1_in (i := 5) rfl rfl, Or.inr ⟨tb4_in (i := 226) rfl rfl, _, _, rfl⟩, rfl, pl_RX5, pd_0⟩
theorem mko_170 : MOK 170 := ⟨tb4_in (i := 192) rfl rfl, tb4_in (i := 191) rfl rfl, tb1_in (i := 5) rfl rfl, Or.inl rfl, rfl, pl_RX5, pd_13⟩
theorem mko_171 : MOK 171 := ⟨tb4_in (i := 186) rfl rfl, tb4_in (i := 185) rfl rfl, tb1_in (i := 5) rfl rfl, Or.inr ⟨pr4_in (i := 2) rfl, _, _, rfl⟩, rfl, pl_RX5, pd_10⟩
theorem mko_172 : MOK 172 := ⟨tb4_in (i := 178) rfl rfl, tb4_in (i := 177) rfl rfl, tb1_in (i := 5) rfl rfl, Or.inr ⟨pr4_in (i := 0) rfl, _, _, rfl⟩, rfl, pl_RX5, pd_3⟩
theorem mko_173 : MOK 173 := ⟨tb4_in (i := 196) rfl rfl, tb4_in (i := 195) rfl rfl, tb1_in (i := 5) rfl rfl, Or.inr ⟨pr4_in (i := 3) rfl, _, _, rfl⟩, rfl, pl_RX5, pd_3⟩
theorem mko_174 : MOK 174 := ⟨tb4_in (i := 235) rfl rfl, tb4_in (i := 234) rfl rfl, tb1_in (i := 5) rfl rfl, Or.inr ⟨pr4_in (i := 9) rfl, _, _, rfl⟩, rfl, pl_RX5, pd_3⟩
theorem mko_175 : MOK 175 := ⟨tb4_in (i := 220) rfl rfl, tb4_in (i := 219) rfl rfl, tb1_in (i := 5) rfl rfl, Or.inr ⟨pr4_in (i := 8) rfl, _, _, rfl⟩, rfl, pl_RX5, pd_24⟩
theorem mko_176 : MOK 176 := ⟨tb4_in (i := 216) rfl rfl, tb4_in (i := 215) rfl rfl, tb1_in (i := 5) rfl rfl, Or.inr ⟨pr4_in (i := 7) rfl, _, _, rfl⟩, rfl, pl_RX5, pd_0⟩
theorem mko_177 : MOK 177 := ⟨tb4_in (i := 171) rfl rfl, tb4_in (i := 170) rfl rfl, tb1_in (i := 5) rfl rfl, Or.inr ⟨pr3_in (i := 15) rfl, _, _, rfl⟩, rfl, pl_RX5, pd_9⟩
theorem mko_178 : MOK 178 := ⟨tb4_in (i := 182) rfl rfl, tb4_in (i := 181) rfl rfl, tb1_in (i := 5) rfl rfl, Or.inr ⟨pr4_in (i := 1) rfl, _, _, rfl⟩, rfl, pl_RX5, pd_11⟩
theorem mko_179 : MOK 179 := ⟨tb4_in (i := 167) rfl rfl, tb4_in (i := 166) rfl rfl, tb1_in (i := 5) rfl rfl, Or.inr ⟨pr3_in (i := 14) rfl, _, _, rfl⟩, rfl, pl_RX5, pd_7⟩
theorem mko_180 : MOK 180 := ⟨tb4_in (i := 208) rfl rfl, tb4_in (i := 207) rfl rfl, tb1_in (i := 5) rfl rfl, Or.inr ⟨pr4_in (i := 6) rfl, _, _, rfl⟩, rfl, pl_RX5, pd_0⟩
theorem mko_181 : MOK 181 := ⟨tb4_in (i := 204) rfl rfl, tb4_in (i := 203) rfl rfl, tb1_in (i := 5) rfl rfl, Or.inr ⟨pr4_in (i := 5) rfl, _, _, rfl⟩, rfl, pl_RX5, pd_3⟩
theorem mko_182 : MOK 182 := ⟨tb6_in (i := 8) rfl rfl, tb6_in (i := 7) rfl rfl, tb1_in (i := 5) rfl rfl, Or.inr ⟨pr6_in (i := 0) rfl, _, _, rfl⟩, rfl, pl_RX5, pd_5⟩
theorem mko_183 : MOK 183 := ⟨tb4_in (i := 231) rfl rfl, tb4_in (i := 229) rfl rfl, tb1_in (i := 5) rfl rfl, Or.inr ⟨tb4_in (i := 230) rfl rfl, _, _, rfl⟩, rfl, pl_RX5, pd_7⟩
theorem mko_184 : MOK 184 := ⟨tb4_in (i := 239) rfl rfl, tb4_in (i := 237) rfl rfl, tb1_in (i := 5) rfl rfl, Or.inr ⟨tb4_in (i := 238) rfl rfl, _, _, rfl⟩, rfl, pl_RX5, pd_7⟩
theorem mko_185 : MOK 185 := ⟨tb5_in (i := 7) rfl rfl, tb5_in (i := 6) rfl rfl, tb1_in (i := 5) rfl rfl, Or.inr ⟨pr4_in (i := 10) rfl, _, _, rfl⟩, rfl, pl_RX5, pd_27⟩
theorem mko_186 : MOK 186 := ⟨tb5_in (i := 3) rfl rfl, tb5_in (i := 1) rfl rfl, tb1_in (i := 5) rfl rfl, Or.inr ⟨tb5_in (i := 2) rfl rfl, _, _, rfl⟩, rfl, pl_RX5, pd_3⟩
theorem mko_187 : MOK 187 := ⟨tb5_in (i := 11) rfl rfl, tb5_in (i := 9) rfl rfl, tb1_in (i := 5) rfl rfl, Or.inr ⟨tb5_in (i := 10) rfl rfl, _, _, rfl⟩, rfl, pl_RX5, pd_3⟩
theorem mko_188 : MOK 188 := ⟨tb5_in (i := 15) rfl rfl, tb5_in (i := 13) rfl rfl, tb1_in (i := 5) rfl rfl, Or.inr ⟨tb5_in (i := 14) rfl rfl, _, _, rfl⟩, rfl, pl_RX5, pd_11⟩
theorem mko_189 : MOK 189 := ⟨tb5_in (i := 19) rfl rfl, tb5_in (i := 17) rfl rfl, tb1_in (i := 5) rfl rfl, Or.inr ⟨tb5_in (i := 18) rfl rfl, _, _, rfl⟩, rfl, pl_RX5, pd_11⟩
theorem mko_190 : MOK 190 := ⟨tb5_in (i := 23) rfl rfl, tb5_in (i := 21) rfl rfl, tb1_in (i := 5) rfl rfl, Or.inr ⟨tb5_in (i := 22) rfl rfl, _, _, rfl⟩, rfl, pl_RX5, pd_7⟩
theorem mko_191 : MOK 191 := ⟨tb5_in (i := 27) rfl rfl, tb5_in (i := 25) rfl rfl, tb1_in (i := 5) rfl rfl, Or.inr ⟨tb5_in (i := 26) rfl rfl, _, _, rfl⟩, rfl, pl_RX5, pd_7⟩
theorem mko_192 : MOK 192 := ⟨tb5_in (i := 31) rfl rfl, tb5_in (i := 29) rfl rfl, tb1_in (i := 5) rfl rfl, Or.inr ⟨tb5_in (i := 30) rfl rfl, _, _, rfl⟩, rfl, pl_RX5, pd_3⟩
theorem mko_193 : MOK 193 := ⟨tb5_in (i := 35) rfl rfl, tb5_in (i := 33) rfl rfl, tb1_in (i := 5) rfl rfl, Or.inr ⟨tb5_in (i := 34) rfl rfl, _, _, rfl⟩, rfl, pl_RX5, pd_3⟩
theorem mko_194 : MOK 194 := ⟨tb5_in (i := 39) rfl rfl, tb5_in (i := 38) rfl rfl, tb1_in (i := 5) rfl rfl, Or.inr ⟨pr4_in (i := 11) rfl, _, _, rfl⟩, rfl, pl_RX5, pd_5⟩
theorem mko_195 : MOK 195 := ⟨tb5_in (i := 46) rfl rfl, tb5_in (i := 45) rfl rfl, tb1_in (i := 5) rfl rfl, Or.inl rfl, rfl, pl_RX5, pd_3⟩
theorem mko_196 : MOK 196 := ⟨tb5_in (i := 43) rfl rfl, tb5_in (i := 41) rfl rfl, tb1_in (i := 5) rfl rfl, Or.inr ⟨tb5_in (i := 42) rfl rfl, _, _, rfl⟩, rfl, pl_RX5, pd_7⟩
theorem mko_197 : MOK 197 := ⟨tb5_in (i := 50) rfl rfl, tb5_in (i := 48) rfl rfl, tb1_in (i := 5) rfl rfl, Or.inr ⟨tb5_in (i := 49) rfl rfl, _, _, rfl⟩, rfl, pl_RX5, pd_7⟩
theorem mko_198 : MOK 198 := ⟨tb5_in (i := 58) rfl rfl, tb5_in (i := 57) rfl rfl, tb1_in (i := 5) rfl rfl, Or.inr ⟨pr4_in (i := 12) rfl, _, _, rfl⟩, rfl, pl_RX5, pd_11⟩
theorem mko_199 : MOK 199 := ⟨tb5_in (i := 54) rfl rfl, tb5_in (i := 52) rfl rfl, tb1_in (i := 5) rfl rfl, Or.inr ⟨tb5_in (i := 53) rfl rfl, _, _, rfl⟩, rfl, pl_RX5, pd_11⟩
theorem mko_200 : MOK 200 := ⟨tb5_in (i := 70) rfl rfl, tb5_in (i := 68) rfl rfl, tb1_in (i := 5) rfl rfl, Or.inr ⟨tb5_in (i := 69) rfl rfl, _, _, rfl⟩, rfl, pl_RX5, pd_7⟩
theorem mko_201 : MOK 201 := ⟨tb5_in (i := 78) rfl rfl, tb5_in (i := 77) rfl rfl, tb1_in (i := 5) rfl rfl, Or.inr ⟨pr4_in (i := 15) rfl, _, _, rfl⟩, rfl, pl_RX5, pd_3⟩
theorem mko_202 : MOK 202 := ⟨tb5_in (i := 74) rfl rfl, tb5_in (i := 72) rfl rfl, tb1_in (i := 5) rfl rfl, Or.inr ⟨tb5_in (i := 73) rfl rfl, _, _, rfl⟩, rfl, pl_RX5, pd_7⟩
theorem mko_203 : MOK 203 := ⟨tb5_in (i := 86) rfl rfl, tb5_in (i := 85) rfl rfl, tb1_in (i := 5) rfl rfl, Or.inr ⟨pr5_in (i := 0) rfl, _, _, rfl⟩, rfl, pl_RX5, pd_9⟩
theorem mko_204 : MOK 204 := ⟨tb5_in (i := 82) rfl rfl, tb5_in (i := 80) rfl rfl, tb1_in (i := 5) rfl rfl, Or.inr ⟨tb5_in (i := 81) rfl rfl, _, _, rfl⟩, rfl, pl_RX5, pd_3⟩
theorem mko_205 : MOK 205 := ⟨tb5_in (i := 90) rfl rfl, tb5_in (i := 88) rfl rfl, tb1_in (i := 5) rfl rfl, Or.inr ⟨tb5_in (i := 89) rfl rfl, _, _, rfl⟩, rfl, pl_RX5, pd_3⟩
theorem mko_206 : MOK 206 := ⟨tb5_in (i := 98) rfl rfl, tb5_in (i := 97) rfl rfl, tb1_in (i := 5) rfl rfl, Or.inr ⟨pr5_in (i := 1) rfl, _, _, rfl⟩, rfl, pl_RX5, pd_5⟩
theorem mko_207 : MOK 207 := ⟨tb5_in (i := 103) rfl rfl, tb5_in (i := 102) rfl rfl, tb1_in (i := 5) rfl rfl, Or.inr ⟨pr5_in (i := 2) rfl, _, _, rfl⟩, rfl, pl_RX5, pd_0⟩
theorem mko_208 : MOK 208 := ⟨tb5_in (i := 107) rfl rfl, tb5_in (i := 106) rfl rfl, tb1_in (i := 5) rfl rfl, Or.inr ⟨pr5_in (i := 3) rfl, _, _, rfl⟩, rfl, pl_RX5, pd_3⟩
theorem mko_209 : MOK 209 := ⟨tb5_in (i := 111) rfl rfl, tb5_in (i := 110) rfl rfl, tb1_in (i := 5) rfl rfl, Or.inr ⟨pr5_in (i := 4) rfl, _, _, rfl⟩, rfl, pl_RX5, pd_7⟩
theorem mko_210 : MOK 210 := ⟨tb5_in (i := 94) rfl rfl, tb5_in (i := 92) rfl rfl, tb1_in (i := 5) rfl rfl, Or.inr ⟨tb5_in (i := 93) rfl rfl, _, _, rfl⟩, rfl, pl_RX5, pd_11⟩
theorem mko_211 : MOK 211 := ⟨tb5_in (i := 119) rfl rfl, tb5_in (i := 118) rfl rfl, tb1_in (i := 5) rfl rfl, Or.inr ⟨pr5_in (i := 5) rfl, _, _, rfl⟩, rfl, pl_RX5, pd_9⟩
theorem mko_212 : MOK 212 := ⟨tb5_in (i := 115) rfl rfl, tb5_in (i := 113) rfl rfl, tb1_in (i := 5) rfl rfl, Or.inr ⟨tb5_in (i := 114) rfl rfl, _, _, rfl⟩, rfl, pl_RX5, pd_7⟩
theorem mko_213 : MOK 213 := ⟨tb5_in (i := 123) rfl rfl, tb5_in (i := 121) rfl rfl, tb1_in (i := 5) rfl rfl, Or.inr ⟨tb5_in (i := 122) rfl rfl, _, _, rfl⟩, rfl, pl_RX5, pd_7⟩
theorem mko_214 : MOK 214 := ⟨tb5_in (i := 135) rfl rfl, tb5_in (i := 134) rfl rfl, tb1_in (i := 5) rfl rfl, Or.inr ⟨pr5_in (i := 7) rfl, _, _, rfl⟩, rfl, pl_RX5, pd_3⟩
theorem mko_215 : MOK 215 := ⟨tb5_in (i := 131) rfl rfl, tb5_in (i := 129) rfl rfl, tb1_in (i := 5) rfl rfl, Or.inr ⟨tb5_in (i := 130) rfl rfl, _, _, rfl⟩, rfl, pl_RX5, pd_3⟩
theorem mko_216 : MOK 216 := ⟨tb5_in (i := 139) rfl rfl, tb5_in (i := 137) rfl rfl, tb1_in (i := 5) rfl rfl, Or.inr ⟨tb5_in (i := 138) rfl rfl, _, _, rfl⟩, rfl, pl_RX5, pd_3⟩
theorem mko_217 : MOK 217 := ⟨tb5_in (i := 143) rfl rfl, tb5_in (i := 141) rfl rfl, tb1_in (i := 5) rfl rfl, Or.inr ⟨tb5_in (i := 142) rfl rfl, _, _, rfl⟩, rfl, pl_RX5, pd_11⟩
theorem mko_218 : MOK 218 := ⟨tb5_in (i := 147) rfl rfl, tb5_in (i := 145) rfl rfl, tb1_in (i := 5) rfl rfl, Or.inr ⟨tb5_in (i := 146) rfl rfl, _, _, rfl⟩, rfl, pl_RX5, pd_3⟩
theorem mko_219 : MOK 219 := ⟨tb5_in (i := 151) rfl rfl, tb5_in (i := 149) rfl rfl, tb1_in (i := 5) rfl rfl, Or.inr ⟨tb5_in (i := 150) rfl rfl, _, _, rfl⟩, rfl, pl_RX5, pd_3⟩
theorem mko_220 : MOK 220 := ⟨tb5_in (i := 159) rfl rfl, tb5_in (i := 158) rfl rfl, tb1_in (i := 5) rfl rfl, Or.inr ⟨pr5_in (i := 8) rfl, _, _, rfl⟩, rfl, pl_RX5, pd_3⟩
theorem mko_221 : MOK 221 := ⟨tb5_in (i := 155) rfl rfl, tb5_in (i := 153) rfl rfl, tb1_in (i := 5) rfl rfl, Or.inr ⟨tb5_in (i := 154) rfl rfl, _, _, rfl⟩, rfl, pl_RX5, pd_3⟩
theorem mko_222 : MOK 222 := ⟨tb5_in (i := 167) rfl rfl, tb5_in (i := 166) rfl rfl, tb1_in (i := 5) rfl rfl, Or.inr ⟨pr5_in (i := 9) rfl, _, _, rfl⟩, rfl, pl_RX5, pd_0⟩
theorem mko_223 : MOK 223 := ⟨tb5_in (i := 171) rfl rfl, tb5_in (i := 170) rfl rfl, tb1_in (i := 5) rfl rfl, Or.inr ⟨pr5_in (i := 10) rfl, _, _, rfl⟩, rfl, pl_RX5, pd_0⟩
theorem mko_224 : MOK 224 := ⟨tb5_in (i := 175) rfl rfl, tb5_in (i := 174) rfl rfl, tb1_in (i := 5) rfl rfl, Or.inr ⟨pr5_in (i := 11) rfl, _, _, rfl⟩, rfl, pl_RX5, pd_0⟩
theorem mko_225 : MOK 225 := ⟨tb5_in (i := 163) rfl rfl, tb5_in (i := 161) rfl rfl, tb1_in (i := 5) rfl rfl, Or.inr ⟨tb5_in (i := 162) rfl rfl, _, _, rfl⟩, rfl, pl_RX5, pd_3⟩
theorem mko_226 : MOK 226 := ⟨tb5_in (i := 179) rfl rfl, tb5_in (i := 177) rfl rfl, tb1_in (i := 5) rfl rfl, Or.inr ⟨tb5_in (i := 178) rfl rfl, _, _, rfl⟩, rfl, pl_RX5, pd_11⟩
theorem mko_227 : MOK 227 := ⟨tb5_in (i := 187) rfl rfl, tb5_in (i := 186) rfl rfl, tb1_in (i := 5) rfl rfl, Or.inr ⟨pr5_in (i := 12) rfl, _, _, rfl⟩, rfl, pl_RX5, pd_9⟩
theorem mko_228 : MOK 228 := ⟨tb5_in (i := 183) rfl rfl, tb5_in (i := 181) rfl rfl, tb1_in (i := 5) rfl rfl, Or.inr ⟨tb5_in (i := 182) rfl rfl, _, _, rfl⟩, rfl, pl_RX5, pd_7⟩
theorem mko_229 : MOK 229 := ⟨tb5_in (i := 205) rfl rfl, tb5_in (i := 204) rfl rfl, tb1_in (i := 5) rfl rfl, Or.inl rfl, rfl, pl_RX5, pd_19⟩
theorem mko_230 : MOK 230 := ⟨tb5_in (i := 202) rfl rfl, tb5_in (i := 201) rfl rfl, tb1_in (i := 5) rfl rfl, Or.inl rfl, rfl, pl_RX5, pd_20⟩
theorem mko_231 : MOK 231 := ⟨tb5_in (i := 199) rfl rfl, tb5_in (i := 198) rfl rfl, tb1_in (i := 5) rfl rfl, Or.inl rfl, rfl, pl_RX5, pd_8⟩
theorem mko_232 : MOK 232 := ⟨tb5_in (i := 191) rfl rfl, tb5_in (i := 189) rfl rfl, tb1_in (i := 5) rfl rfl, Or.inr ⟨tb5_in (i := 190) rfl rfl, _, _, rfl⟩, rfl, pl_RX5, pd_8⟩
theorem mko_233 : MOK 233 := ⟨tb5_in (i := 209) rfl rfl, tb5_in (i := 207) rfl rfl, tb1_in (i := 5) rfl rfl, Or.inr ⟨tb5_in (i := 208) rfl rfl, _, _, rfl⟩, rfl, pl_RX5, pd_14⟩
theorem mko_234 : MOK 234 := ⟨tb5_in (i := 213) rfl rfl, tb5_in (i := 211) rfl rfl, tb1_in (i := 5) rfl rfl, Or.inr ⟨tb5_in (i := 212) rfl rfl, _, _, rfl⟩, rfl, pl_RX5, pd_4⟩
theorem mko_235 : MOK 235 := ⟨tb5_in (i := 221) rfl rfl, tb5_in (i := 220) rfl rfl, tb1_in (i := 5) rfl rfl, Or.inr ⟨pr5_in (i := 14) rfl, _, _, rfl⟩, rfl, pl_RX5, pd_10⟩
theorem mko_236 : MOK 236 := ⟨tb5_in (i := 217) rfl rfl, tb5_in (i := 215) rfl rfl, tb1_in (i := 5) rfl rfl, Or.inr ⟨tb5_in (i := 216) rfl rfl, _, _, rfl⟩, rfl, pl_RX5, pd_7⟩
theorem mko_237 : MOK 237 := ⟨tb5_in (i := 225) rfl rfl, tb5_in (i := 223) rfl rfl, tb1_in (i := 5) rfl rfl, Or.inr ⟨tb5_in (i := 224) rfl rfl, _, _, rfl⟩, rfl, pl_RX5, pd_3⟩
theorem mko_238 : MOK 238 := ⟨tb5_in (i := 229) rfl rfl, tb5_in (i := 227) rfl rfl, tb1_in (i := 5) rfl rfl, Or.inr ⟨tb5_in (i := 228) rfl rfl, _, _, rfl⟩, rfl, pl_RX5, pd_0⟩
theorem mko_239 : MOK 239 := ⟨tb5_in (i := 233) rfl rfl, tb5_in (i := 231) rfl rfl, tb1_in (i := 5) rfl rfl, Or.inr ⟨tb5_in (i := 232) rfl rfl, _, _, rfl⟩, rfl, pl_RX5, pd_0⟩
theorem mko_240 : MOK 240 := ⟨tb6_in (i := 1) rfl rfl, tb6_in (i := 0) rfl rfl, tb1_in (i := 5) rfl rfl, Or.inr ⟨pr5_in (i := 15) rfl, _, _, rfl⟩, rfl, pl_RX5, pd_3⟩
theorem mko_241 : MOK 241 := ⟨tb5_in (i := 237) rfl rfl, tb5_in (i := 235) rfl rfl, tb1_in (i := 5) rfl rfl, Or.inr ⟨tb5_in (i := 236) rfl rfl, _, _, rfl⟩, rfl, pl_RX5, pd_11⟩
theorem mko_242 : MOK 242 := ⟨tb6_in (i := 12) rfl rfl, tb6_in (i := 10) rfl rfl, tb1_in (i := 5) rfl rfl, Or.inr ⟨tb6_in (i := 11) rfl rfl, _, _, rfl⟩, rfl, pl_RX5, pd_3⟩
theorem mko_244 : MOK 244 := ⟨tb2_in (i := 228) rfl rfl, tb2_in (i := 227) rfl rfl, tb1_in (i := 8) rfl rfl, Or.inl rfl, rfl, pl_RJ6, pd_3⟩
theorem flc_0 : ∀ q ∈ ([(1, 7, 1, 0), (1, 13, 1, 1), (1, 16, 1, 2), (1, 19, 1, 3), (1, 22, 1, 4), (1, 25, 1, 5), (1, 29, 1, 6), (1, 32, 1, 7), (1, 35, 1, 8), (1, 38, 1, 9), (3, 11, 2, 0), (3, 15, 2, 1), (0, 7, 0, 0), (0, 13, 0, 1), (0, 17, 0, 2), (0, 20, 0, 3), (4, 10, 3, 0), (4, 16, 3, 1), (4, 19, 3, 2), (4, 22, 3, 3), (4, 29, 3, 4), (4, 33, 3, 5), (4, 37, 3, 6), (4, 41, 3, 7), (4, 44, 3, 8), (4, 50, 3, 9), (5, 7, 4, 0), (5, 13, 4, 1), (5, 16, 4, 2), (5, 19, 4, 3), (5, 22, 4, 4), (5, 25, 4, 5), (5, 28, 4, 6), (5, 31, 4, 7), (5, 60, 4, 8), (5, 34, 4, 9), (5, 37, 4, 10), (5, 40, 4, 11), (5, 43, 4, 12), (5, 76, 4, 13)] : List (Nat × Nat × Nat × Nat)), FOK q := List.forall_mem_cons.mpr ⟨fko_0, List.forall_mem_cons.mpr ⟨fko_1, List.forall_mem_cons.mpr ⟨fko_2, List.forall_mem_cons.mpr ⟨fko_3, List.forall_mem_cons.mpr ⟨fko_4, List.forall_mem_cons.mpr ⟨fko_5, List.forall_mem_cons.mpr ⟨fko_6, List.forall_mem_cons.mpr ⟨fko_7, List.forall_mem_cons.mpr ⟨fko_8, List.forall_mem_cons.mpr ⟨fko_9, List.forall_mem_cons.mpr ⟨fko_10, List.forall_mem_cons.mpr ⟨fko_11, List.forall_mem_cons.mpr ⟨fko_12, List.forall_mem_cons.mpr ⟨fko_13, List.forall_mem_cons.mpr ⟨fko_14, List.forall_mem_cons.mpr ⟨fko_15, List.forall_mem_cons.mpr ⟨fko_16, List.forall_mem_cons.mpr ⟨fko_17, List.forall_mem_cons.mpr ⟨fko_18, List.forall_mem_cons.mpr ⟨fko_19, List.forall_mem_cons.mpr ⟨fko_20, List.forall_mem_cons.mpr ⟨fko_21, List.forall_mem_cons.mpr ⟨fko_22, List.forall_mem_cons.mpr ⟨fko_23, List.forall_mem_cons.mpr ⟨fko_24, List.forall_mem_cons.mpr ⟨fko_25, List.forall_mem_cons.mpr ⟨fko_26, List.forall_mem_cons.mpr ⟨fko_27, List.forall_mem_cons.mpr ⟨fko_28, List.forall_mem_cons.mpr ⟨fko_29, List.forall_mem_cons.mpr ⟨fko_30, List.forall_mem_cons.mpr ⟨fko_31, List.forall_mem_cons.mpr ⟨fko_32, List.forall_mem_cons.mpr ⟨fko_33, List.forall_mem_cons.mpr ⟨fko_34, List.forall_mem_cons.mpr ⟨fko_35, List.forall_mem_cons.mpr ⟨fko_36, List.forall_mem_cons.mpr ⟨fko_37, List.forall_mem_cons.mpr ⟨fko_38, List.forall_mem_cons.mpr ⟨fko_39, fun _ h => absurd h List.not_mem_nil⟩⟩⟩⟩⟩⟩⟩⟩⟩⟩⟩⟩⟩⟩⟩⟩⟩⟩⟩⟩⟩⟩⟩⟩⟩⟩⟩⟩⟩⟩⟩⟩⟩⟩⟩⟩⟩⟩⟩⟩
theorem flc_1 : ∀ q ∈ ([(5, 83, 4, 14), (5, 103, 4, 15), (5, 90, 4, 16), (5, 46, 4, 17), (5, 163, 4, 18), (5, 152, 4, 19), (5, 156, 4, 20), (5, 169, 4, 21), (5, 194, 4, 22), (5, 224, 4, 23), (5, 49, 4, 24), (5, 233, 4, 25), (5, 236, 4, 26), (5, 52, 4, 27), (5, 245, 4, 28), (5, 248, 4, 29), (5, 264, 4, 30), (5, 267, 4, 31), (5, 279, 4, 32), (5, 276, 4, 33), (5, 55, 4, 34), (5, 319, 4, 35)] : List (Nat × Nat × Nat × Nat)), FOK q := List.forall_mem_cons.mpr ⟨fko_40, List.forall_mem_cons.mpr ⟨fko_41, List.forall_mem_cons.mpr ⟨fko_42, List.forall_mem_cons.mpr ⟨fko_43, List.forall_mem_cons.mpr ⟨fko_44, List.forall_mem_cons.mpr ⟨fko_45, List.forall_mem_cons.mpr ⟨fko_46, List.forall_mem_cons.mpr ⟨fko_47, List.forall_mem_cons.mpr ⟨fko_48, List.forall_mem_cons.mpr ⟨fko_49, List.forall_mem_cons.mpr ⟨fko_50, List.forall_mem_cons.mpr ⟨fko_51, List.forall_mem_cons.mpr ⟨fko_52, List.forall_mem_cons.mpr ⟨fko_53, List.forall_mem_cons.mpr ⟨fko_54, List.forall_mem_cons.mpr ⟨fko_55, List.forall_mem_cons.mpr ⟨fko_56, List.forall_mem_cons.mpr ⟨fko_57, List.forall_mem_cons.mpr ⟨fko_58, List.forall_mem_cons.mpr ⟨fko_59, List.forall_mem_cons.mpr ⟨fko_60, List.forall_mem_cons.mpr ⟨fko_61, fun _ h => absurd h List.not_mem_nil⟩⟩⟩⟩⟩⟩⟩⟩⟩⟩⟩⟩⟩⟩⟩⟩⟩⟩⟩⟩⟩⟩
theorem clc_0 : ∀ q ∈ ([(6, 13, 68), (4, 54, 110), (4, 58, 55), (4, 62, 56), (6, 18, 69), (4, 65, 116), (4, 72, 5), (1, 41, 6), (4, 68, 58), (3, 19, 59), (3, 31, 61), (3, 34, 64), (3, 37, 62), (3, 40, 63), (3, 44, 47), (3, 27, 60), (3, 23, 65), (3, 49, 9), (1, 45, 12), (1, 49, 13), (3, 54, 8), (3, 58, 17), (3, 62, 16), (3, 65, 66), (3, 69, 27), (3, 86, 28), (3, 89, 34), (3, 92, 35), (3, 72, 36), (3, 76, 40), (1, 91, 39), (1, 100, 29), (1, 103, 245), (1, 94, 37), (1, 106, 34), (1, 109, 21), (1, 58, 10), (1, 61, 11), (1, 64, 50), (1, 112, 42)] : List (Nat × Nat × Nat)), COK q := List.forall_mem_cons.mpr ⟨cko_0, List.forall_mem_cons.mpr ⟨cko_1, List.forall_mem_cons.mpr ⟨cko_2, List.forall_mem_cons.mpr ⟨cko_3, List.forall_mem_cons.mpr ⟨cko_4, List.forall_mem_cons.mpr ⟨cko_5, List.forall_mem_cons.mpr ⟨cko_6, List.forall_mem_cons.mpr ⟨cko_7, List.forall_mem_cons.mpr ⟨cko_8, List.forall_mem_cons.mpr ⟨cko_9, List.forall_mem_cons.mpr ⟨cko_10, List.forall_mem_cons.mpr ⟨cko_11, List.forall_mem_cons.mpr ⟨cko_12, List.forall_mem_cons.mpr ⟨cko_13, List.forall_mem_cons.mpr ⟨cko_14, List.forall_mem_cons.mpr ⟨cko_15, List.forall_mem_cons.mpr ⟨cko_16, List.forall_mem_cons.mpr ⟨cko_17, List.forall_mem_cons.mpr ⟨cko_18, List.forall_mem_cons.mpr ⟨cko_19, List.forall_mem_cons.mpr ⟨cko_20, List.forall_mem_cons.mpr ⟨cko_21, List.forall_mem_cons.mpr ⟨cko_22, List.forall_mem_cons.mpr ⟨cko_23, List.forall_mem_cons.mpr ⟨cko_24, List.forall_mem_cons.mpr ⟨cko_25, List.forall_mem_cons.mpr ⟨cko_26, List.forall_mem_cons.mpr ⟨cko_27, List.forall_mem_cons.mpr ⟨cko_28, List.forall_mem_cons.mpr ⟨cko_29, List.forall_mem_cons.mpr ⟨cko_30, List.forall_mem_cons.mpr ⟨cko_31, List.forall_mem_cons.mpr ⟨cko_32, List.forall_mem_cons.mpr ⟨cko_33, List.forall_mem_cons.mpr ⟨cko_34, List.forall_mem_cons.mpr ⟨cko_35, List.forall_mem_cons.mpr ⟨cko_36, List.forall_mem_cons.mpr ⟨cko_37, List.forall_mem_cons.mpr ⟨cko_38, List.forall_mem_cons.mpr ⟨cko_39, fun _ h => absurd h List.not_mem_nil⟩⟩⟩⟩⟩⟩⟩⟩⟩⟩⟩⟩⟩⟩⟩⟩⟩⟩⟩⟩⟩⟩⟩⟩⟩⟩⟩⟩⟩⟩⟩⟩⟩⟩⟩⟩⟩⟩⟩⟩
theorem clc_1 : ∀ q ∈ ([(1, 123, 14), (1, 127, 15), (1, 83, 31), (1, 130, 26), (1, 79, 49), (1, 134, 30), (1, 137, 22), (1, 70, 51), (1, 140, 43), (1, 97, 35), (1, 144, 16), (3, 80, 32), (1, 86, 246), (3, 83, 41), (1, 116, 32), (1, 120, 36), (4, 76, 57), (6, 23, 70), (4, 79, 8), (4, 83, 10), (4, 86, 11), (4, 89, 14), (4, 92, 15), (4, 95, 21), (4, 98, 22), (4, 101, 23), (1, 73, 52), (6, 28, 71), (4, 104, 27), (4, 107, 29), (4, 110, 30), (4, 113, 31), (6, 32, 72), (4, 116, 17), (6, 36, 73), (4, 120, 16), (6, 40, 74), (4, 123, 46), (4, 128, 12), (4, 132, 13)] : List (Nat × Nat × Nat)), COK q := List.forall_mem_cons.mpr ⟨cko_40, List.forall_mem_cons.mpr ⟨cko_41, List.forall_mem_cons.mpr ⟨cko_42, List.forall_mem_cons.mpr ⟨cko_43, List.forall_mem_cons.mpr ⟨cko_44, List.forall_mem_cons.mpr ⟨cko_45, List.forall_mem_cons.mpr ⟨cko_46, List.forall_mem_cons.mpr ⟨cko_47, List.forall_mem_cons.mpr ⟨cko_48, List.forall_mem_cons.mpr ⟨cko_49, List.forall_mem_cons.mpr ⟨cko_50, List.forall_mem_cons.mpr ⟨cko_51, List.forall_mem_cons.mpr ⟨cko_52, List.forall_mem_cons.mpr ⟨cko_53, List.forall_mem_cons.mpr ⟨cko_54, List.forall_mem_cons.mpr ⟨cko_55, List.forall_mem_cons.mpr ⟨cko_56, List.forall_mem_cons.mpr ⟨cko_57, List.forall_mem_cons.mpr ⟨cko_58, List.forall_mem_cons.mpr ⟨cko_59, List.forall_mem_cons.mpr ⟨cko_60, List.forall_mem_cons.mpr ⟨cko_61, List.forall_mem_cons.mpr ⟨cko_62, List.forall_mem_cons.mpr ⟨cko_63, List.forall_mem_cons.mpr ⟨cko_64, List.forall_mem_cons.mpr ⟨cko_65, List.forall_mem_cons.mpr ⟨cko_66, List.forall_mem_cons.mpr ⟨cko_67, List.forall_mem_cons.mpr ⟨cko_68, List.forall_mem_cons.mpr ⟨cko_69, List.forall_mem_cons.mpr ⟨cko_70, List.forall_mem_cons.mpr ⟨cko_71, List.forall_mem_cons.mpr ⟨cko_72, List.forall_mem_cons.mpr ⟨cko_73, List.forall_mem_cons.mpr ⟨cko_74, List.forall_mem_cons.mpr ⟨cko_75, List.forall_mem_cons.mpr ⟨cko_76, List.forall_mem_cons.mpr ⟨cko_77, List.forall_mem_cons.mpr ⟨cko_78, List.forall_mem_cons.mpr ⟨cko_79, fun _ h => absurd h List.not_mem_nil⟩⟩⟩⟩⟩⟩⟩⟩⟩⟩⟩⟩⟩⟩⟩⟩⟩⟩⟩⟩⟩⟩⟩⟩⟩⟩⟩⟩⟩⟩⟩⟩⟩⟩⟩⟩⟩⟩⟩⟩
theorem clc_2 : ∀ q ∈ ([(6, 45, 75), (4, 135, 28), (4, 138, 34), (4, 141, 35), (6, 49, 76), (4, 144, 37), (6, 53, 77), (4, 147, 40), (6, 57, 78), (4, 151, 41), (4, 154, 32), (6, 61, 79), (4, 158, 38), (4, 161, 117), (6, 65, 80), (4, 164, 113), (4, 167, 26), (6, 69, 81), (6, 73, 82), (6, 77, 83), (6, 81, 84), (4, 171, 118), (4, 266, 119), (4, 174, 18), (4, 177, 33), (6, 85, 85), (4, 180, 124), (6, 89, 86), (4, 184, 7), (6, 93, 87), (4, 187, 114), (4, 190, 244), (4, 195, 120), (4, 201, 1), (4, 286, 122), (4, 289, 121), (4, 205, 20), (1, 52, 244), (4, 208, 2), (4, 292, 123)] : List (Nat × Nat × Nat)), COK q := List.forall_mem_cons.mpr ⟨cko_80, List.forall_mem_cons.mpr ⟨cko_81, List.forall_mem_cons.mpr ⟨cko_82, List.forall_mem_cons.mpr ⟨cko_83, List.forall_mem_cons.mpr ⟨cko_84, List.forall_mem_cons.mpr ⟨cko_85, List.forall_mem_cons.mpr ⟨cko_86, List.forall_mem_cons.mpr ⟨cko_87, List.forall_mem_cons.mpr ⟨cko_88, List.forall_mem_cons.mpr ⟨cko_89, List.forall_mem_cons.mpr ⟨cko_90, List.forall_mem_cons.mpr ⟨cko_91, List.forall_mem_cons.mpr ⟨cko_92, List.forall_mem_cons.mpr ⟨cko_93, List.forall_mem_cons.mpr ⟨cko_94, List.forall_mem_cons.mpr ⟨cko_95, List.forall_mem_cons.mpr ⟨cko_96, List.forall_mem_cons.mpr ⟨cko_97, List.forall_mem_cons.mpr ⟨cko_98, List.forall_mem_cons.mpr ⟨cko_99, List.forall_mem_cons.mpr ⟨cko_100, List.forall_mem_cons.mpr ⟨cko_101, List.forall_mem_cons.mpr ⟨cko_102, List.forall_mem_cons.mpr ⟨cko_103, List.forall_mem_cons.mpr ⟨cko_104, List.forall_mem_cons.mpr ⟨cko_105, List.forall_mem_cons.mpr ⟨cko_106, List.forall_mem_cons.mpr ⟨cko_107, List.forall_mem_cons.mpr ⟨cko_108, List.forall_mem_cons.mpr ⟨cko_109, List.forall_mem_cons.mpr ⟨cko_110, List.forall_mem_cons.mpr ⟨cko_111, List.forall_mem_cons.mpr ⟨cko_112, List.forall_mem_cons.mpr ⟨cko_113, List.forall_mem_cons.mpr ⟨cko_114, List.forall_mem_cons.mpr ⟨cko_115, List.forall_mem_cons.mpr ⟨cko_116, List.forall_mem_cons.mpr ⟨cko_117, List.forall_mem_cons.mpr ⟨cko_118, List.forall_mem_cons.mpr ⟨cko_119, fun _ h => absurd h List.not_mem_nil⟩⟩⟩⟩⟩⟩⟩⟩⟩⟩⟩⟩⟩⟩⟩⟩⟩⟩⟩⟩⟩⟩⟩⟩⟩⟩⟩⟩⟩⟩⟩⟩⟩⟩⟩⟩⟩⟩⟩⟩
theorem clc_3 : ∀ q ∈ ([(4, 198, 3), (6, 97, 88), (4, 202, 44), (1, 147, 40), (6, 101, 89), (4, 212, 115), (6, 105, 90), (4, 215, 45), (1, 150, 44), (6, 109, 91), (4, 218, 246), (6, 113, 92), (6, 117, 93), (4, 223, 48), (6, 121, 94), (6, 125, 95), (4, 226, 24), (1, 76, 23), (4, 229, 245), (6, 129, 96), (4, 232, 127), (4, 235, 128), (4, 238, 129), (6, 133, 97), (6, 137, 98), (4, 241, 125), (4, 295, 126), (6, 141, 99), (4, 245, 112), (4, 249, 136), (4, 309, 137), (6, 146, 100), (4, 253, 25), (4, 256, 135), (6, 151, 101), (6, 156, 102), (4, 260, 130), (4, 299, 132), (4, 302, 49), (4, 263, 131)] : List (Nat × Nat × Nat)), COK q := List.forall_mem_cons.mpr ⟨cko_120, List.forall_mem_cons.mpr ⟨cko_121, List.forall_mem_cons.mpr ⟨cko_122, List.forall_mem_cons.mpr ⟨cko_123, List.forall_mem_cons.mpr ⟨cko_124, List.forall_mem_cons.mpr ⟨cko_125, List.forall_mem_cons.mpr ⟨cko_126, List.forall_mem_cons.mpr ⟨cko_127, List.forall_mem_cons.mpr ⟨cko_128, List.forall_mem_cons.mpr ⟨cko_129, List.forall_mem_cons.mpr ⟨cko_130, List.forall_mem_cons.mpr ⟨cko_131, List.forall_mem_cons.mpr ⟨cko_132, List.forall_mem_cons.mpr ⟨cko_133, List.forall_mem_cons.mpr ⟨cko_134, List.forall_mem_cons.mpr ⟨cko_135, List.forall_mem_cons.mpr ⟨cko_136, List.forall_mem_cons.mpr ⟨cko_137, List.forall_mem_cons.mpr ⟨cko_138, List.forall_mem_cons.mpr ⟨cko_139, List.forall_mem_cons.mpr ⟨cko_140, List.forall_mem_cons.mpr ⟨cko_141, List.forall_mem_cons.mpr ⟨cko_142, List.forall_mem_cons.mpr ⟨cko_143, List.forall_mem_cons.mpr ⟨cko_144, List.forall_mem_cons.mpr ⟨cko_145, List.forall_mem_cons.mpr ⟨cko_146, List.forall_mem_cons.mpr ⟨cko_147, List.forall_mem_cons.mpr ⟨cko_148, List.forall_mem_cons.mpr ⟨cko_149, List.forall_mem_cons.mpr ⟨cko_150, List.forall_mem_cons.mpr ⟨cko_151, List.forall_mem_cons.mpr ⟨cko_152, List.forall_mem_cons.mpr ⟨cko_153, List.forall_mem_cons.mpr ⟨cko_154, List.forall_mem_cons.mpr ⟨cko_155, List.forall_mem_cons.mpr ⟨cko_156, List.forall_mem_cons.mpr ⟨cko_157, List.forall_mem_cons.mpr ⟨cko_158, List.forall_mem_cons.mpr ⟨cko_159, fun _ h => absurd h List.not_mem_nil⟩⟩⟩⟩⟩⟩⟩⟩⟩⟩⟩⟩⟩⟩⟩⟩⟩⟩⟩⟩⟩⟩⟩⟩⟩⟩⟩⟩⟩⟩⟩⟩⟩⟩⟩⟩⟩⟩⟩⟩
theorem clc_4 : ∀ q ∈ ([(6, 160, 103), (6, 164, 104), (6, 168, 105), (6, 172, 106), (4, 269, 133), (4, 272, 134), (6, 176, 107), (6, 180, 108), (6, 184, 109), (4, 275, 111), (4, 278, 19), (4, 281, 54), (6, 17, 149), (5, 72, 142), (5, 79, 139), (6, 22, 163), (5, 142, 155), (5, 86, 150), (5, 106, 154), (5, 96, 153), (5, 93, 152), (5, 100, 151), (5, 64, 141), (5, 145, 165), (5, 159, 164), (5, 149, 162), (5, 122, 156), (5, 126, 157), (5, 68, 146), (5, 130, 158), (5, 109, 147), (5, 133, 159), (5, 136, 160), (5, 112, 179), (5, 197, 177), (5, 185, 145), (5, 201, 172), (5, 204, 178), (5, 188, 171), (5, 172, 143)] : List (Nat × Nat × Nat)), COK q := List.forall_mem_cons.mpr ⟨cko_160, List.forall_mem_cons.mpr ⟨cko_161, List.forall_mem_cons.mpr ⟨cko_162, List.forall_mem_cons.mpr ⟨cko_163, List.forall_mem_cons.mpr ⟨cko_164, List.forall_mem_cons.mpr ⟨cko_165, List.forall_mem_cons.mpr ⟨cko_166, List.forall_mem_cons.mpr ⟨cko_167, List.forall_mem_cons.mpr ⟨cko_168, List.forall_mem_cons.mpr ⟨cko_169, List.forall_mem_cons.mpr ⟨cko_170, List.forall_mem_cons.mpr ⟨cko_171, List.forall_mem_cons.mpr ⟨cko_172, List.forall_mem_cons.mpr ⟨cko_173, List.forall_mem_cons.mpr ⟨cko_174, List.forall_mem_cons.mpr ⟨cko_175, List.forall_mem_cons.mpr ⟨cko_176, List.forall_mem_cons.mpr ⟨cko_177, List.forall_mem_cons.mpr ⟨cko_178, List.forall_mem_cons.mpr ⟨cko_179, List.forall_mem_cons.mpr ⟨cko_180, List.forall_mem_cons.mpr ⟨cko_181, List.forall_mem_cons.mpr ⟨cko_182, List.forall_mem_cons.mpr ⟨cko_183, List.forall_mem_cons.mpr ⟨cko_184, List.forall_mem_cons.mpr ⟨cko_185, List.forall_mem_cons.mpr ⟨cko_186, List.forall_mem_cons.mpr ⟨cko_187, List.forall_mem_cons.mpr ⟨cko_188, List.forall_mem_cons.mpr ⟨cko_189, List.forall_mem_cons.mpr ⟨cko_190, List.forall_mem_cons.mpr ⟨cko_191, List.forall_mem_cons.mpr ⟨cko_192, List.forall_mem_cons.mpr ⟨cko_193, List.forall_mem_cons.mpr ⟨cko_194, List.forall_mem_cons.mpr ⟨cko_195, List.forall_mem_cons.mpr ⟨cko_196, List.forall_mem_cons.mpr ⟨cko_197, List.forall_mem_cons.mpr ⟨cko_198, List.forall_mem_cons.mpr ⟨cko_199, fun _ h => absurd h List.not_mem_nil⟩⟩⟩⟩⟩⟩⟩⟩⟩⟩⟩⟩⟩⟩⟩⟩⟩⟩⟩⟩⟩⟩⟩⟩⟩⟩⟩⟩⟩⟩⟩⟩⟩⟩⟩⟩⟩⟩⟩⟩
theorem clc_5 : ∀ q ∈ ([(5, 175, 170), (5, 191, 173), (5, 139, 161), (5, 116, 181), (5, 119, 180), (6, 179, 168), (5, 166, 176), (5, 178, 175), (5, 182, 144), (6, 183, 169), (6, 27, 183), (5, 207, 174), (6, 31, 184), (6, 35, 186), (5, 210, 185), (6, 39, 187), (6, 44, 188), (6, 48, 189), (6, 52, 190), (6, 56, 191), (6, 60, 192), (6, 64, 193), (5, 214, 194), (6, 68, 196), (5, 218, 195), (6, 72, 197), (6, 76, 199), (5, 230, 198), (5, 221, 166), (5, 227, 167), (6, 80, 200), (6, 84, 202), (5, 239, 201), (6, 88, 204), (5, 242, 203), (6, 92, 205), (6, 96, 210), (5, 251, 206), (5, 255, 207), (5, 258, 208)] : List (Nat × Nat × Nat)), COK q := List.forall_mem_cons.mpr ⟨cko_200, List.forall_mem_cons.mpr ⟨cko_201, List.forall_mem_cons.mpr ⟨cko_202, List.forall_mem_cons.mpr ⟨cko_203, List.forall_mem_cons.mpr ⟨cko_204, List.forall_mem_cons.mpr ⟨cko_205, List.forall_mem_cons.mpr ⟨cko_206, List.forall_mem_cons.mpr ⟨cko_207, List.forall_mem_cons.mpr ⟨cko_208, List.forall_mem_cons.mpr ⟨cko_209, List.forall_mem_cons.mpr ⟨cko_210, List.forall_mem_cons.mpr ⟨cko_211, List.forall_mem_cons.mpr ⟨cko_212, List.forall_mem_cons.mpr ⟨cko_213, List.forall_mem_cons.mpr ⟨cko_214, List.forall_mem_cons.mpr ⟨cko_215, List.forall_mem_cons.mpr ⟨cko_216, List.forall_mem_cons.mpr ⟨cko_217, List.forall_mem_cons.mpr ⟨cko_218, List.forall_mem_cons.mpr ⟨cko_219, List.forall_mem_cons.mpr ⟨cko_220, List.forall_mem_cons.mpr ⟨cko_221, List.forall_mem_cons.mpr ⟨cko_222, List.forall_mem_cons.mpr ⟨cko_223, List.forall_mem_cons.mpr ⟨cko_224, List.forall_mem_cons.mpr ⟨cko_225, List.forall_mem_cons.mpr ⟨cko_226, List.forall_mem_cons.mpr ⟨cko_227, List.forall_mem_cons.mpr ⟨cko_228, List.forall_mem_cons.mpr ⟨cko_229, List.forall_mem_cons.mpr ⟨cko_230, List.forall_mem_cons.mpr ⟨cko_231, List.forall_mem_cons.mpr ⟨cko_232, List.forall_mem_cons.mpr ⟨cko_233, List.forall_mem_cons.mpr ⟨cko_234, List.forall_mem_cons.mpr ⟨cko_235, List.forall_mem_cons.mpr ⟨cko_236, List.forall_mem_cons.mpr ⟨cko_237, List.forall_mem_cons.mpr ⟨cko_238, List.forall_mem_cons.mpr ⟨cko_239, fun _ h => absurd h List.not_mem_nil⟩⟩⟩⟩⟩⟩⟩⟩⟩⟩⟩⟩⟩⟩⟩⟩⟩⟩⟩⟩⟩⟩⟩⟩⟩⟩⟩⟩⟩⟩⟩⟩⟩⟩⟩⟩⟩⟩⟩⟩
theorem clc_6 : ∀ q ∈ ([(5, 261, 209), (6, 100, 212), (5, 270, 211), (6, 104, 213), (5, 273, 148), (6, 108, 215), (5, 282, 214), (6, 112, 216), (6, 116, 217), (6, 120, 218), (6, 124, 219), (6, 128, 221), (5, 285, 220), (6, 132, 225), (5, 288, 222), (5, 291, 223), (5, 294, 224), (6, 136, 226), (6, 140, 228), (5, 297, 227), (6, 145, 232), (5, 304, 140), (5, 308, 231), (5, 312, 230), (5, 300, 229), (6, 150, 233), (6, 155, 234), (6, 159, 236), (5, 316, 235), (6, 163, 237), (6, 167, 238), (6, 171, 239), (6, 175, 241), (5, 325, 240), (5, 328, 182), (6, 187, 242)] : List (Nat × Nat × Nat)), COK q := List.forall_mem_cons.mpr ⟨cko_240, List.forall_mem_cons.mpr ⟨cko_241, List.forall_mem_cons.mpr ⟨cko_242, List.forall_mem_cons.mpr ⟨cko_243, List.forall_mem_cons.mpr ⟨cko_244, List.forall_mem_cons.mpr ⟨cko_245, List.forall_mem_cons.mpr ⟨cko_246, List.forall_mem_cons.mpr ⟨cko_247, List.forall_mem_cons.mpr ⟨cko_248, List.forall_mem_cons.mpr ⟨cko_249, List.forall_mem_cons.mpr ⟨cko_250, List.forall_mem_cons.mpr ⟨cko_251, List.forall_mem_cons.mpr ⟨cko_252, List.forall_mem_cons.mpr ⟨cko_253, List.forall_mem_cons.mpr ⟨cko_254, List.forall_mem_cons.mpr ⟨cko_255, List.forall_mem_cons.mpr ⟨cko_256, List.forall_mem_cons.mpr ⟨cko_257, List.forall_mem_cons.mpr ⟨cko_258, List.forall_mem_cons.mpr ⟨cko_259, List.forall_mem_cons.mpr ⟨cko_260, List.forall_mem_cons.mpr ⟨cko_261, List.forall_mem_cons.mpr ⟨cko_262, List.forall_mem_cons.mpr ⟨cko_263, List.forall_mem_cons.mpr ⟨cko_264, List.forall_mem_cons.mpr ⟨cko_265, List.forall_mem_cons.mpr ⟨cko_266, List.forall_mem_cons.mpr ⟨cko_267, List.forall_mem_cons.mpr ⟨cko_268, List.forall_mem_cons.mpr ⟨cko_269, List.forall_mem_cons.mpr ⟨cko_270, List.forall_mem_cons.mpr ⟨cko_271, List.forall_mem_cons.mpr ⟨cko_272, List.forall_mem_cons.mpr ⟨cko_273, List.forall_mem_cons.mpr ⟨cko_274, List.forall_mem_cons.mpr ⟨cko_275, fun _ h => absurd h List.not_mem_nil⟩⟩⟩⟩⟩⟩⟩⟩⟩⟩⟩⟩⟩⟩⟩⟩⟩⟩⟩⟩⟩⟩⟩⟩⟩⟩⟩⟩⟩⟩⟩⟩⟩⟩⟩⟩
theorem mlc_0 : ∀ q ∈ ([1, 2, 3, 5, 6, 7, 8, 9, 10, 11, 12, 13, 14, 15, 16, 17, 18, 19, 20, 21, 22, 23, 24, 25, 26, 27, 28, 29, 30, 31, 32, 33, 34, 35, 36, 37, 38, 39, 40, 41] : List Nat), MOK q := List.forall_mem_cons.mpr ⟨mko_1, List.forall_mem_cons.mpr ⟨mko_2, List.forall_mem_cons.mpr ⟨mko_3, List.forall_mem_cons.mpr ⟨mko_5, List.forall_mem_cons.mpr ⟨mko_6, List.forall_mem_cons.mpr ⟨mko_7, List.forall_mem_cons.mpr ⟨mko_8, List.forall_mem_cons.mpr ⟨mko_9, List.forall_mem_cons.mpr ⟨mko_10, List.forall_mem_cons.mpr ⟨mko_11, List.forall_mem_cons.mpr ⟨mko_12, List.forall_mem_cons.mpr ⟨mko_13, List.forall_mem_cons.mpr ⟨mko_14, List.forall_mem_cons.mpr ⟨mko_15, List.forall_mem_cons.mpr ⟨mko_16, List.forall_mem_cons.mpr ⟨mko_17, List.forall_mem_cons.mpr ⟨mko_18, List.forall_mem_cons.mpr ⟨mko_19, List.forall_mem_cons.mpr ⟨mko_20, List.forall_mem_cons.mpr ⟨mko_21, List.forall_mem_cons.mpr ⟨mko_22, List.forall_mem_cons.mpr ⟨mko_23, List.forall_mem_cons.mpr ⟨mko_24, List.forall_mem_cons.mpr ⟨mko_25, List.forall_mem_cons.mpr ⟨mko_26, List.forall_mem_cons.mpr ⟨mko_27, List.forall_mem_cons.mpr ⟨mko_28, List.forall_mem_cons.mpr ⟨mko_29, List.forall_mem_cons.mpr ⟨mko_30, List.forall_mem_cons.mpr ⟨mko_31, List.forall_mem_cons.mpr ⟨mko_32, List.forall_mem_cons.mpr ⟨mko_33, List.forall_mem_cons.mpr ⟨mko_34, List.forall_mem_cons.mpr ⟨mko_35, List.forall_mem_cons.mpr ⟨mko_36, List.forall_mem_cons.mpr ⟨mko_37, List.forall_mem_cons.mpr ⟨mko_38, List.forall_mem_cons.mpr ⟨mko_39, List.forall_mem_cons.mpr ⟨mko_40, List.forall_mem_cons.mpr ⟨mko_41, fun _ h => absurd h List.not_mem_nil⟩⟩⟩⟩⟩⟩⟩⟩⟩⟩⟩⟩⟩⟩⟩⟩⟩⟩⟩⟩⟩⟩⟩⟩⟩⟩⟩⟩⟩⟩⟩⟩⟩⟩⟩⟩⟩⟩⟩⟩
theorem mlc_1 : ∀ q ∈ ([42, 43, 44, 45, 46, 47, 48, 49, 50, 51, 52, 54, 55, 56, 57, 58, 59, 60, 61, 62, 63, 64, 65, 66, 68, 69, 70, 71, 72, 73, 74, 75, 76, 77, 78, 79, 80, 81, 82, 83] : List Nat), MOK q := List.forall_mem_cons.mpr ⟨mko_42, List.forall_mem_cons.mpr ⟨mko_43, List.forall_mem_cons.mpr ⟨mko_44, List.forall_mem_cons.mpr ⟨mko_45, List.forall_mem_cons.mpr ⟨mko_46, List.forall_mem_cons.mpr ⟨mko_47, List.forall_mem_cons.mpr ⟨mko_48, List.forall_mem_cons.mpr ⟨mko_49, List.forall_mem_cons.mpr ⟨mko_50, List.forall_mem_cons.mpr ⟨mko_51, List.forall_mem_cons.mpr ⟨mko_52, List.forall_mem_cons.mpr ⟨mko_54, List.forall_mem_cons.mpr ⟨mko_55, List.forall_mem_cons.mpr ⟨mko_56, List.forall_mem_cons.mpr ⟨mko_57, List.forall_mem_cons.mpr ⟨mko_58, List.forall_mem_cons.mpr ⟨mko_59, List.forall_mem_cons.mpr ⟨mko_60, List.forall_mem_cons.mpr ⟨mko_61, List.forall_mem_cons.mpr ⟨mko_62, List.forall_mem_cons.mpr ⟨mko_63, List.forall_mem_cons.mpr ⟨mko_64, List.forall_mem_cons.mpr ⟨mko_65, List.forall_mem_cons.mpr ⟨mko_66, List.forall_mem_cons.mpr ⟨mko_68, List.forall_mem_cons.mpr ⟨mko_69, List.forall_mem_cons.mpr ⟨mko_70, List.forall_mem_cons.mpr ⟨mko_71, List.forall_mem_cons.mpr ⟨mko_72, List.forall_mem_cons.mpr ⟨mko_73, List.forall_mem_cons.mpr ⟨mko_74, List.forall_mem_cons.mpr ⟨mko_75, List.forall_mem_cons.mpr ⟨mko_76, List.forall_mem_cons.mpr ⟨mko_77, List.forall_mem_cons.mpr ⟨mko_78, List.forall_mem_cons.mpr ⟨mko_79, List.forall_mem_cons.mpr ⟨mko_80, List.forall_mem_cons.mpr ⟨mko_81, List.forall_mem_cons.mpr ⟨mko_82, List.forall_mem_cons.mpr ⟨mko_83, fun _ h => absurd h List.not_mem_nil⟩⟩⟩⟩⟩⟩⟩⟩⟩⟩⟩⟩⟩⟩⟩⟩⟩⟩⟩⟩⟩⟩⟩⟩⟩⟩⟩⟩⟩⟩⟩⟩⟩⟩⟩⟩⟩⟩⟩⟩
theorem mlc_2 : ∀ q ∈ ([84, 85, 86, 87, 88, 89, 90, 91, 92, 93, 94, 95, 96, 97, 98, 99, 100, 101, 102, 103, 104, 105, 106, 107, 108, 109, 110, 111, 112, 113, 114, 115, 116, 117, 118, 119, 120, 121, 122, 123] : List Nat), MOK q := List.forall_mem_cons.mpr ⟨mko_84, List.forall_mem_cons.mpr ⟨mko_85, List.forall_mem_cons.mpr ⟨mko_86, List.forall_mem_cons.mpr ⟨mko_87, List.forall_mem_cons.mpr ⟨mko_88, List.forall_mem_cons.mpr ⟨mko_89, List.forall_mem_cons.mpr ⟨mko_90, List.forall_mem_cons.mpr ⟨mko_91, List.forall_mem_cons.mpr ⟨mko_92, List.forall_mem_cons.mpr ⟨mko_93, List.forall_mem_cons.mpr ⟨mko_94, List.forall_mem_cons.mpr ⟨mko_95, List.forall_mem_cons.mpr ⟨mko_96, List.forall_mem_cons.mpr ⟨mko_97, List.forall_mem_cons.mpr ⟨mko_98, List.forall_mem_cons.mpr ⟨mko_99, List.forall_mem_cons.mpr ⟨mko_100, List.forall_mem_cons.mpr ⟨mko_101, List.forall_mem_cons.mpr ⟨mko_102, List.forall_mem_cons.mpr ⟨mko_103, List.forall_mem_cons.mpr ⟨mko_104, List.forall_mem_cons.mpr ⟨mko_105, List.forall_mem_cons.mpr ⟨mko_106, List.forall_mem_cons.mpr ⟨mko_107, List.forall_mem_cons.mpr ⟨mko_108, List.forall_mem_cons.mpr ⟨mko_109, List.forall_mem_cons.mpr ⟨mko_110, List.forall_mem_cons.mpr ⟨mko_111, List.forall_mem_cons.mpr ⟨mko_112, List.forall_mem_cons.mpr ⟨mko_113, List.forall_mem_cons.mpr ⟨mko_114, List.forall_mem_cons.mpr ⟨mko_115, List.forall_mem_cons.mpr ⟨mko_116, List.forall_mem_cons.mpr ⟨mko_117, List.forall_mem_cons.mpr ⟨mko_118, List.forall_mem_cons.mpr ⟨mko_119, List.forall_mem_cons.mpr ⟨mko_120, List.forall_mem_cons.mpr ⟨mko_121, List.forall_mem_cons.mpr ⟨mko_122, List.forall_mem_cons.mpr ⟨mko_123, fun _ h => absurd h List.not_mem_nil⟩⟩⟩⟩⟩⟩⟩⟩⟩⟩⟩⟩⟩⟩⟩⟩⟩⟩⟩⟩⟩⟩⟩⟩⟩⟩⟩⟩⟩⟩⟩⟩⟩⟩⟩⟩⟩⟩⟩⟩
theorem mlc_3 : ∀ q ∈ ([124, 125, 126, 127, 128, 129, 130, 131, 132, 133, 134, 135, 136, 137, 139, 140, 141, 142, 143, 144, 145, 146, 147, 148, 149, 150, 151, 152, 153, 154, 155, 156, 157, 158, 159, 160, 161, 162, 163, 164] : List Nat), MOK q := List.forall_mem_cons.mpr ⟨mko_124, List.forall_mem_cons.mpr ⟨mko_125, List.forall_mem_cons.mpr ⟨mko_126, List.forall_mem_cons.mpr ⟨mko_127, List.forall_mem_cons.mpr ⟨mko_128, List.forall_mem_cons.mpr ⟨mko_129, List.forall_mem_cons.mpr ⟨mko_130, List.forall_mem_cons.mpr ⟨mko_131, List.forall_mem_cons.mpr ⟨mko_132, List.forall_mem_cons.mpr ⟨mko_133, List.forall_mem_cons.mpr ⟨mko_134, List.forall_mem_cons.mpr ⟨mko_135, List.forall_mem_cons.mpr ⟨mko_136, List.forall_mem_cons.mpr ⟨mko_137, List.forall_mem_cons.mpr ⟨mko_139, List.forall_mem_cons.mpr ⟨mko_140, List.forall_mem_cons.mpr ⟨mko_141, List.forall_mem_cons.mpr ⟨mko_142, List.forall_mem_cons.mpr ⟨mko_143, List.forall_mem_cons.mpr ⟨mko_144, List.forall_mem_cons.mpr ⟨mko_145, List.forall_mem_cons.mpr ⟨mko_146, List.forall_mem_cons.mpr ⟨mko_147, List.forall_mem_cons.mpr ⟨mko_148, List.forall_mem_cons.mpr ⟨mko_149, List.forall_mem_cons.mpr ⟨mko_150, List.forall_mem_cons.mpr ⟨mko_151, List.forall_mem_cons.mpr ⟨mko_152, List.forall_mem_cons.mpr ⟨mko_153, List.forall_mem_cons.mpr ⟨mko_154, List.forall_mem_cons.mpr ⟨mko_155, List.forall_mem_cons.mpr ⟨mko_156, List.forall_mem_cons.mpr ⟨mko_157, List.forall_mem_cons.mpr ⟨mko_158, List.forall_mem_cons.mpr ⟨mko_159, List.forall_mem_cons.mpr ⟨mko_160, List.forall_mem_cons.mpr ⟨mko_161, List.forall_mem_cons.mpr ⟨mko_162, List.forall_mem_cons.mpr ⟨mko_163, List.forall_mem_cons.mpr ⟨mko_164, fun _ h => absurd h List.not_mem_nil⟩⟩⟩⟩⟩⟩⟩⟩⟩⟩⟩⟩⟩⟩⟩⟩⟩⟩⟩⟩⟩⟩⟩⟩⟩⟩⟩⟩⟩⟩⟩⟩⟩⟩⟩⟩⟩⟩⟩⟩
theorem mlc_4 : ∀ q ∈ ([165, 166, 167, 168, 169, 170, 171, 172, 173, 174, 175, 176, 177, 178, 179, 180, 181, 182, 183, 184, 185, 186, 187, 188, 189, 190, 191, 192, 193, 194, 195, 196, 197, 198, 199, 200, 201, 202, 203, 204] : List Nat), MOK q := List.forall_mem_cons.mpr ⟨mko_165, List.forall_mem_cons.mpr ⟨mko_166, List.forall_mem_cons.mpr ⟨mko_167, List.forall_mem_cons.mpr ⟨mko_168, List.forall_mem_cons.mpr ⟨mko_169, List.forall_mem_cons.mpr ⟨mko_170, List.forall_mem_cons.mpr ⟨mko_171, List.forall_mem_cons.mpr ⟨mko_172, List.forall_mem_cons.mpr ⟨mko_173, List.forall_mem_cons.mpr ⟨mko_174, List.forall_mem_cons.mpr ⟨mko_175, List.forall_mem_cons.mpr ⟨mko_176, List.forall_mem_cons.mpr ⟨mko_177, List.forall_mem_cons.mpr ⟨mko_178, List.forall_mem_cons.mpr ⟨mko_179, List.forall_mem_cons.mpr ⟨mko_180, List.forall_mem_cons.mpr ⟨mko_181, List.forall_mem_cons.mpr ⟨mko_182, List.forall_mem_cons.mpr ⟨mko_183, List.forall_mem_cons.mpr ⟨mko_184, List.forall_mem_cons.mpr ⟨mko_185, List.forall_mem_cons.mpr ⟨mko_186, List.forall_mem_cons.mpr ⟨mko_187, List.forall_mem_cons.mpr ⟨mko_188, List.forall_mem_cons.mpr ⟨mko_189, List.forall_mem_cons.mpr ⟨mko_190, List.forall_mem_cons.mpr ⟨mko_191, List.forall_mem_cons.mpr ⟨mko_192, List.forall_mem_cons.mpr ⟨mko_193, List.forall_mem_cons.mpr ⟨mko_194, List.forall_mem_cons.mpr ⟨mko_195, List.forall_mem_cons.mpr ⟨mko_196, List.forall_mem_cons.mpr ⟨mko_197, List.forall_mem_cons.mpr ⟨mko_198, List.forall_mem_cons.mpr ⟨mko_199, List.forall_mem_cons.mpr ⟨mko_200, List.forall_mem_cons.mpr ⟨mko_201, List.forall_mem_cons.mpr ⟨mko_202, List.forall_mem_cons.mpr ⟨mko_203, List.forall_mem_cons.mpr ⟨mko_204, fun _ h => absurd h List.not_mem_nil⟩⟩⟩⟩⟩⟩⟩⟩⟩⟩⟩⟩⟩⟩⟩⟩⟩⟩⟩⟩⟩⟩⟩⟩⟩⟩⟩⟩⟩⟩⟩⟩⟩⟩⟩⟩⟩⟩⟩⟩
theorem mlc_5 : ∀ q ∈ ([205, 206, 207, 208, 209, 210, 211, 212, 213, 214, 215, 216, 217, 218, 219, 220, 221, 222, 223, 224, 225, 226, 227, 228, 229, 230, 231, 232, 233, 234, 235, 236, 237, 238, 239, 240, 241, 242, 244] : List Nat), MOK q := List.forall_mem_cons.mpr ⟨mko_205, List.forall_mem_cons.mpr ⟨mko_206, List.forall_mem_cons.mpr ⟨mko_207, List.forall_mem_cons.mpr ⟨mko_208, List.forall_mem_cons.mpr ⟨mko_209, List.forall_mem_cons.mpr ⟨mko_210, List.forall_mem_cons.mpr ⟨mko_211, List.forall_mem_cons.mpr ⟨mko_212, List.forall_mem_cons.mpr ⟨mko_213, List.forall_mem_cons.mpr ⟨mko_214, List.forall_mem_cons.mpr ⟨mko_215, List.forall_mem_cons.mpr ⟨mko_216, List.forall_mem_cons.mpr ⟨mko_217, List.forall_mem_cons.mpr ⟨mko_218, List.forall_mem_cons.mpr ⟨mko_219, List.forall_mem_cons.mpr ⟨mko_220, List.forall_mem_cons.mpr ⟨mko_221, List.forall_mem_cons.mpr ⟨mko_222, List.forall_mem_cons.mpr ⟨mko_223, List.forall_mem_cons.mpr ⟨mko_224, List.forall_mem_cons.mpr ⟨mko_225, List.forall_mem_cons.mpr ⟨mko_226, List.forall_mem_cons.mpr ⟨mko_227, List.forall_mem_cons.mpr ⟨mko_228, List.forall_mem_cons.mpr ⟨mko_229, List.forall_mem_cons.mpr ⟨mko_230, List.forall_mem_cons.mpr ⟨mko_231, List.forall_mem_cons.mpr ⟨mko_232, List.forall_mem_cons.mpr ⟨mko_233, List.forall_mem_cons.mpr ⟨mko_234, List.forall_mem_cons.mpr ⟨mko_235, List.forall_mem_cons.mpr ⟨mko_236, List.forall_mem_cons.mpr ⟨mko_237, List.forall_mem_cons.mpr ⟨mko_238, List.forall_mem_cons.mpr ⟨mko_239, List.forall_mem_cons.mpr ⟨mko_240, List.forall_mem_cons.mpr ⟨mko_241, List.forall_mem_cons.mpr ⟨mko_242, List.forall_mem_cons.mpr ⟨mko_244, fun _ h => absurd h List.not_mem_nil⟩⟩⟩⟩⟩⟩⟩⟩⟩⟩⟩⟩⟩⟩⟩⟩⟩⟩⟩⟩⟩⟩⟩⟩⟩⟩⟩⟩⟩⟩⟩⟩⟩⟩⟩⟩⟩⟩⟩
theorem fl_ok : ∀ q ∈ flk, FOK q := fun _ h => ((List.mem_append.mp h).elim (flc_0 _) (fun h => (flc_1 _ h)))
theorem cl_ok : ∀ q ∈ clk, COK q := fun _ h => ((List.mem_append.mp h).elim (clc_0 _) (fun h => ((List.mem_append.mp h).elim (clc_1 _) (fun h => ((List.mem_append.mp h).elim (clc_2 _) (fun h => ((List.mem_append.mp h).elim (clc_3 _) (fun h => ((List.mem_append.mp h).elim (clc_4 _) (fun h => ((List.mem_append.mp h).elim (clc_5 _) (fun h => (clc_6 _ h)))))))))))))
theorem mo_ok : ∀ q ∈ mks, MOK q := fun _ h => ((List.mem_append.mp h).elim (mlc_0 _) (fun h => ((List.mem_append.mp h).elim (mlc_1 _) (fun h => ((List.mem_append.mp h).elim (mlc_2 _) (fun h => ((List.mem_append.mp h).elim (mlc_3 _) (fun h => ((List.mem_append.mp h).elim (mlc_4 _) (fun h => (mlc_5 _ h)))))))))))
theorem absW_c : Cond.code Lib.Math.abs.name Lib.Math.abs.code 1 (some .int) ∈ Wt := tb2_in (i := 4) rfl rfl
theorem absW_s : Cond.static Lib.Math.abs.name ∈ Wt := tb2_in (i := 3) rfl rfl
theorem absW_l {o i : Nat} (h : COK (o, i, mJ9_abs_0f7a4)) : Cond.methodLink (cN o) i Lib.Math.abs.name ∈ Wt := h
theorem maxW_c : Cond.code Lib.Math.max.name Lib.Math.max.code 2 (some .int) ∈ Wt := tb2_in (i := 71) rfl rfl
theorem maxW_s : Cond.static Lib.Math.max.name ∈ Wt := tb2_in (i := 70) rfl rfl
theorem maxW_l {o i : Nat} (h : COK (o, i, mJ9_max_7cf53)) : Cond.methodLink (cN o) i Lib.Math.max.name ∈ Wt := h
theorem mathW_i : Cond.initialized "java/lang/Math" ∈ Wt := tb1_in (i := 7) rfl rfl
def kon : List (Nat × Nat × Int32) := [(7, 265, 1431655765), (7, 266, 858993459), (7, 267, 252645135), (4, 306, 1664525), (4, 307, 1013904223), (4, 308, 2147483647), (5, 254, 1000000), (5, 322, 1664525), (5, 323, 1013904223), (5, 324, 2147483647)]
def konL : List (Nat × Nat × Nat) := [(4, 284, 4000000000000000000), (5, 58, 4000000000000000000)]
def NOK (q : Nat × Nat × Int32) : Prop := Cond.constant (cN q.1) q.2.1 q.2.2 ∈ Wt
def LOK (q : Nat × Nat × Nat) : Prop := Cond.constantLong (cN q.1) q.2.1 (Int64.ofNat q.2.2) ∈ Wt
theorem nko_0 : NOK (7, 265, 1431655765) := tb2_in (i := 229) rfl rfl
theorem nko_1 : NOK (7, 266, 858993459) := tb2_in (i := 230) rfl rfl
theorem nko_2 : NOK (7, 267, 252645135) := tb2_in (i := 231) rfl rfl
theorem nko_3 : NOK (4, 306, 1664525) := tb3_in (i := 179) rfl rfl
theorem nko_4 : NOK (4, 307, 1013904223) := tb3_in (i := 180) rfl rfl
theorem nko_5 : NOK (4, 308, 2147483647) := tb3_in (i := 184) rfl rfl
theorem nko_6 : NOK (5, 254, 1000000) := tb5_in (i := 99) rfl rfl
theorem nko_7 : NOK (5, 322, 1664525) := tb6_in (i := 2) rfl rfl
theorem nko_8 : NOK (5, 323, 1013904223) := tb6_in (i := 3) rfl rfl
theorem nko_9 : NOK (5, 324, 2147483647) := tb6_in (i := 4) rfl rfl
theorem lko_0 : LOK (4, 284, 4000000000000000000) := tb3_in (i := 121) rfl rfl
theorem lko_1 : LOK (5, 58, 4000000000000000000) := tb5_in (i := 196) rfl rfl
theorem kon_ok : ∀ q ∈ kon, NOK q := List.forall_mem_cons.mpr ⟨nko_0, List.forall_mem_cons.mpr ⟨nko_1, List.forall_mem_cons.mpr ⟨nko_2, List.forall_mem_cons.mpr ⟨nko_3, List.forall_mem_cons.mpr ⟨nko_4, List.forall_mem_cons.mpr ⟨nko_5, List.forall_mem_cons.mpr ⟨nko_6, List.forall_mem_cons.mpr ⟨nko_7, List.forall_mem_cons.mpr ⟨nko_8, List.forall_mem_cons.mpr ⟨nko_9, fun _ h => absurd h List.not_mem_nil⟩⟩⟩⟩⟩⟩⟩⟩⟩⟩
theorem konL_ok : ∀ q ∈ konL, LOK q := List.forall_mem_cons.mpr ⟨lko_0, List.forall_mem_cons.mpr ⟨lko_1, fun _ h => absurd h List.not_mem_nil⟩⟩
theorem uw_X0 : ∀ w ∈ u_ws RX0 TX0 4, w ∈ Wt := by
  have h : u_ws RX0 TX0 4 = [Cond.lays RX0 "BackFromBreakfast$Best" "some" "Z", Cond.lays RX0 "BackFromBreakfast$Best" "name" "I", Cond.lays RX0 "BackFromBreakfast$Best" "done" "I", Cond.lays RX0 "BackFromBreakfast$Best" "time" "I"] := rfl
  rw [h]
  exact List.forall_mem_cons.mpr ⟨tb1_in (i := 78) rfl rfl, List.forall_mem_cons.mpr ⟨tb1_in (i := 80) rfl rfl, List.forall_mem_cons.mpr ⟨tb1_in (i := 82) rfl rfl, List.forall_mem_cons.mpr ⟨tb1_in (i := 84) rfl rfl, fun _ h => absurd h List.not_mem_nil⟩⟩⟩⟩
theorem uw_X1 : ∀ w ∈ u_ws RX1 TX1 10, w ∈ Wt := by
  have h : u_ws RX1 TX1 10 = [Cond.lays RX1 "BackFromBreakfast$Corridor" "rooms" "I", Cond.lays RX1 "BackFromBreakfast$Corridor" "done" "I", Cond.lays RX1 "BackFromBreakfast$Corridor" "cards" "I", Cond.lays RX1 "BackFromBreakfast$Corridor" "staying" "I", Cond.lays RX1 "BackFromBreakfast$Corridor" "downs" "I", Cond.laysFinal RX1 "BackFromBreakfast$Corridor" "kinds" "[I", Cond.laysFinal RX1 "BackFromBreakfast$Corridor" "figures" "[I", Cond.laysFinal RX1 "BackFromBreakfast$Corridor" "at" "[I", Cond.laysFinal RX1 "BackFromBreakfast$Corridor" "loads" "[I", Cond.laysFinal RX1 "BackFromBreakfast$Corridor" "clocks" "[I"] := rfl
  rw [h]
  exact List.forall_mem_cons.mpr ⟨tb1_in (i := 33) rfl rfl, List.forall_mem_cons.mpr ⟨tb1_in (i := 35) rfl rfl, List.forall_mem_cons.mpr ⟨tb1_in (i := 37) rfl rfl, List.forall_mem_cons.mpr ⟨tb1_in (i := 39) rfl rfl, List.forall_mem_cons.mpr ⟨tb1_in (i := 41) rfl rfl, List.forall_mem_cons.mpr ⟨tb1_in (i := 43) rfl rfl, List.forall_mem_cons.mpr ⟨tb1_in (i := 45) rfl rfl, List.forall_mem_cons.mpr ⟨tb1_in (i := 47) rfl rfl, List.forall_mem_cons.mpr ⟨tb1_in (i := 49) rfl rfl, List.forall_mem_cons.mpr ⟨tb1_in (i := 51) rfl rfl, fun _ h => absurd h List.not_mem_nil⟩⟩⟩⟩⟩⟩⟩⟩⟩⟩
theorem uw_X3 : ∀ w ∈ u_ws RX3 TX3 2, w ∈ Wt := by
  have h : u_ws RX3 TX3 2 = [Cond.laysFinal RX3 "BackFromBreakfast$Telling" "letters" "[I", Cond.lays RX3 "BackFromBreakfast$Telling" "length" "I"] := rfl
  rw [h]
  exact List.forall_mem_cons.mpr ⟨tb1_in (i := 63) rfl rfl, List.forall_mem_cons.mpr ⟨tb1_in (i := 65) rfl rfl, fun _ h => absurd h List.not_mem_nil⟩⟩
theorem uw_X4 : ∀ w ∈ u_ws RX4 TX4 10, w ∈ Wt := by
  have h : u_ws RX4 TX4 10 = [Cond.laysFinal RX4 "BackFromBreakfast" "now" "LBackFromBreakfast$Corridor;", Cond.laysFinal RX4 "BackFromBreakfast" "mind" "LBackFromBreakfast$Corridor;", Cond.laysFinal RX4 "BackFromBreakfast" "kept" "LBackFromBreakfast$Corridor;", Cond.lays RX4 "BackFromBreakfast" "hasImage" "Z", Cond.laysFinal RX4 "BackFromBreakfast" "telling" "LBackFromBreakfast$Telling;", Cond.laysFinal RX4 "BackFromBreakfast" "numbers" "[I", Cond.lays RX4 "BackFromBreakfast" "inRow" "I", Cond.laysFinal RX4 "BackFromBreakfast" "refusals" "[I", Cond.laysFinal RX4 "BackFromBreakfast" "path" "[I", Cond.laysFinal RX4 "BackFromBreakfast" "best" "LBackFromBreakfast$Best;"] := rfl
  rw [h]
  exact List.forall_mem_cons.mpr ⟨tb1_in (i := 97) rfl rfl, List.forall_mem_cons.mpr ⟨tb1_in (i := 99) rfl rfl, List.forall_mem_cons.mpr ⟨tb1_in (i := 101) rfl rfl, List.forall_mem_cons.mpr ⟨tb1_in (i := 103) rfl rfl, List.forall_mem_cons.mpr ⟨tb1_in (i := 105) rfl rfl, List.forall_mem_cons.mpr ⟨tb1_in (i := 107) rfl rfl, List.forall_mem_cons.mpr ⟨tb1_in (i := 109) rfl rfl, List.forall_mem_cons.mpr ⟨tb1_in (i := 111) rfl rfl, List.forall_mem_cons.mpr ⟨tb1_in (i := 113) rfl rfl, List.forall_mem_cons.mpr ⟨tb1_in (i := 115) rfl rfl, fun _ h => absurd h List.not_mem_nil⟩⟩⟩⟩⟩⟩⟩⟩⟩⟩
theorem uw_X5 : ∀ w ∈ u_ws RX5 TX5 36, w ∈ Wt := by
  have h : u_ws RX5 TX5 36 = [Cond.laysFinal RX5 "BackFromBreakfastModel" "refused" "[I", Cond.laysFinal RX5 "BackFromBreakfastModel" "kind" "[I", Cond.laysFinal RX5 "BackFromBreakfastModel" "figure" "[I", Cond.laysFinal RX5 "BackFromBreakfastModel" "done" "[I", Cond.laysFinal RX5 "BackFromBreakfastModel" "carded" "[I", Cond.laysFinal RX5 "BackFromBreakfastModel" "place" "[I", Cond.laysFinal RX5 "BackFromBreakfastModel" "load" "[I", Cond.laysFinal RX5 "BackFromBreakfastModel" "clock" "[I", Cond.lays RX5 "BackFromBreakfastModel" "rooms" "I", Cond.laysFinal RX5 "BackFromBreakfastModel" "tape" "[I", Cond.laysFinal RX5 "BackFromBreakfastModel" "sort" "[I", Cond.laysFinal RX5 "BackFromBreakfastModel" "sortAt" "[I", Cond.laysFinal RX5 "BackFromBreakfastModel" "told" "[I", Cond.lays RX5 "BackFromBreakfastModel" "taped" "I", Cond.lays RX5 "BackFromBreakfastModel" "reading" "I", Cond.lays RX5 "BackFromBreakfastModel" "statements" "I", Cond.lays RX5 "BackFromBreakfastModel" "telling" "I", Cond.laysFinal RX5 "BackFromBreakfastModel" "kept" "[I", Cond.lays RX5 "BackFromBreakfastModel" "hasImage" "Z", Cond.lays RX5 "BackFromBreakfastModel" "isKeeping" "Z", Cond.lays RX5 "BackFromBreakfastModel" "cursor" "I", Cond.lays RX5 "BackFromBreakfastModel" "stayingIn" "I", Cond.lays RX5 "BackFromBreakfastModel" "downs" "I", Cond.lays RX5 "BackFromBreakfastModel" "tookMinutes" "I", Cond.laysFinal RX5 "BackFromBreakfastModel" "row" "[I", Cond.lays RX5 "BackFromBreakfastModel" "rowMany" "I", Cond.lays RX5 "BackFromBreakfastModel" "doneBy" "I", Cond.laysFinal RX5 "BackFromBreakfastModel" "listed" "[I", Cond.lays RX5 "BackFromBreakfastModel" "listedMany" "I", Cond.lays RX5 "BackFromBreakfastModel" "orderDone" "I", Cond.lays RX5 "BackFromBreakfastModel" "shareDone" "I", Cond.lays RX5 "BackFromBreakfastModel" "shareClock" "I", Cond.lays RX5 "BackFromBreakfastModel" "longDone" "I", Cond.lays RX5 "BackFromBreakfastModel" "longFirst" "I", Cond.laysFinal RX5 "BackFromBreakfastModel" "ends" "[I", Cond.lays RX5 "BackFromBreakfastModel" "lots" "I"] := rfl
  rw [h]
  exact List.forall_mem_cons.mpr ⟨tb4_in (i := 11) rfl rfl, List.forall_mem_cons.mpr ⟨tb4_in (i := 13) rfl rfl, List.forall_mem_cons.mpr ⟨tb4_in (i := 15) rfl rfl, List.forall_mem_cons.mpr ⟨tb4_in (i := 17) rfl rfl, List.forall_mem_cons.mpr ⟨tb4_in (i := 19) rfl rfl, List.forall_mem_cons.mpr ⟨tb4_in (i := 21) rfl rfl, List.forall_mem_cons.mpr ⟨tb4_in (i := 23) rfl rfl, List.forall_mem_cons.mpr ⟨tb4_in (i := 25) rfl rfl, List.forall_mem_cons.mpr ⟨tb4_in (i := 27) rfl rfl, List.forall_mem_cons.mpr ⟨tb4_in (i := 29) rfl rfl, List.forall_mem_cons.mpr ⟨tb4_in (i := 31) rfl rfl, List.forall_mem_cons.mpr ⟨tb4_in (i := 33) rfl rfl, List.forall_mem_cons.mpr ⟨tb4_in (i := 35) rfl rfl, List.forall_mem_cons.mpr ⟨tb4_in (i := 37) rfl rfl, List.forall_mem_cons.mpr ⟨tb4_in (i := 39) rfl rfl, List.forall_mem_cons.mpr ⟨tb4_in (i := 41) rfl rfl, List.forall_mem_cons.mpr ⟨tb4_in (i := 43) rfl rfl, List.forall_mem_cons.mpr ⟨tb4_in (i := 45) rfl rfl, List.forall_mem_cons.mpr ⟨tb4_in (i := 47) rfl rfl, List.forall_mem_cons.mpr ⟨tb4_in (i := 49) rfl rfl, List.forall_mem_cons.mpr ⟨tb4_in (i := 51) rfl rfl, List.forall_mem_cons.mpr ⟨tb4_in (i := 53) rfl rfl, List.forall_mem_cons.mpr ⟨tb4_in (i := 55) rfl rfl, List.forall_mem_cons.mpr ⟨tb4_in (i := 57) rfl rfl, List.forall_mem_cons.mpr ⟨tb4_in (i := 59) rfl rfl, List.forall_mem_cons.mpr ⟨tb4_in (i := 61) rfl rfl, List.forall_mem_cons.mpr ⟨tb4_in (i := 63) rfl rfl, List.forall_mem_cons.mpr ⟨tb4_in (i := 65) rfl rfl, List.forall_mem_cons.mpr ⟨tb4_in (i := 67) rfl rfl, List.forall_mem_cons.mpr ⟨tb4_in (i := 69) rfl rfl, List.forall_mem_cons.mpr ⟨tb4_in (i := 71) rfl rfl, List.forall_mem_cons.mpr ⟨tb4_in (i := 73) rfl rfl, List.forall_mem_cons.mpr ⟨tb4_in (i := 75) rfl rfl, List.forall_mem_cons.mpr ⟨tb4_in (i := 77) rfl rfl, List.forall_mem_cons.mpr ⟨tb4_in (i := 79) rfl rfl, List.forall_mem_cons.mpr ⟨tb4_in (i := 81) rfl rfl, fun _ h => absurd h List.not_mem_nil⟩⟩⟩⟩⟩⟩⟩⟩⟩⟩⟩⟩⟩⟩⟩⟩⟩⟩⟩⟩⟩⟩⟩⟩⟩⟩⟩⟩⟩⟩⟩⟩⟩⟩⟩⟩
theorem KOK {ci : Nat} {C : String} {T : u_T} {N : Nat} (h : vwCl[ci]? = some (C, T, N)) : (∀ w ∈ u_ws C T N, w ∈ Wt) ∧ (∃ ty0 : Nat → FieldType, ∀ k, k < N → parseFieldDescriptor (T k).2.2.1 = some (ty0 k)) ∧ ∀ a, a < N → ∀ b, b < N → a ≠ b → (T a).2.1 ≠ (T b).2.1 := by
  match ci, h with
  | 0, h => cases h; exact ⟨uw_X0, ⟨tyX0, tyX0_ok⟩, nmX0⟩
  | 1, h => cases h; exact ⟨uw_X1, ⟨tyX1, tyX1_ok⟩, nmX1⟩
  | 2, h => cases h; exact ⟨uw_X3, ⟨tyX3, tyX3_ok⟩, nmX3⟩
  | 3, h => cases h; exact ⟨uw_X4, ⟨tyX4, tyX4_ok⟩, nmX4⟩
  | 4, h => cases h; exact ⟨uw_X5, ⟨tyX5, tyX5_ok⟩, nmX5⟩
  | k + 5, h => simp [vwCl] at h
def tyE : Nat → FieldType
  | 0 => .int
  | _ + 1 => .boolean
def ptk (a b e : Nat) : Bool := match vwCl[a]? with
  | some (_, T, _) => decide ((T b).2.2.2 = false ∧ parseFieldDescriptor (T b).2.2.1 = some (tyE e))
  | none => false
