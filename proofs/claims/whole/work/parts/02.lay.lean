/-! THE LAYOUT: the cells of the class (0 to 153) and of the reference (154 to 190), their kinds, lengths and references; then the tables of fields, calls, constants, methods (printed by wip/whole/gen.py). -/
abbrev LC : Type := (Nat × Nat) ⊕ (Nat × List (Option Nat)) ⊕ (Nat × List Nat)
def layL_0 : List LC := [.inr (.inl (11, [some 1, some 33, some 60, some 68, some 73, some 198, some 76, some 106, some 111, some 114, some 115, some 145, some 150, some 153, none])),
  .inr (.inl (5, [some 2, some 3, none, none, none, none, none, none, none, none, none, none])),
  .inl (0, 900),
  .inr (.inl (8, [some 4, some 5, some 8, none, none, none, none])),
  .inr (.inr (2, [9, 12, 15, 18, 21, 24, 27, 30])),
  .inr (.inl (9, [some 6, some 7, none, none, none, none])),
  .inl (0, 24),
  .inl (1, 24),
  .inl (0, 8),
  .inr (.inl (9, [some 10, some 11, none, none, none, none])),
  .inl (0, 24),
  .inl (1, 24),
  .inr (.inl (9, [some 13, some 14, none, none, none, none])),
  .inl (0, 24),
  .inl (1, 24),
  .inr (.inl (9, [some 16, some 17, none, none, none, none])),
  .inl (0, 24),
  .inl (1, 24),
  .inr (.inl (9, [some 19, some 20, none, none, none, none])),
  .inl (0, 24),
  .inl (1, 24),
  .inr (.inl (9, [some 22, some 23, none, none, none, none])),
  .inl (0, 24),
  .inl (1, 24),
  .inr (.inl (9, [some 25, some 26, none, none, none, none])),
  .inl (0, 24),
  .inl (1, 24),
  .inr (.inl (9, [some 28, some 29, none, none, none, none])),
  .inl (0, 24),
  .inl (1, 24),
  .inr (.inl (9, [some 31, some 32, none, none, none, none])),
  .inl (0, 24)]
def layL_1 : List LC := [.inl (1, 24),
  .inr (.inl (0, [some 34, some 41, some 48, some 55, some 56, some 57, some 58, none, none])),
  .inr (.inl (6, [none, some 35, some 36, some 37, some 38, some 39, some 40, none])),
  .inl (0, 24),
  .inl (1, 24),
  .inl (1, 24),
  .inl (0, 24),
  .inl (0, 24),
  .inl (0, 25),
  .inr (.inl (6, [none, some 42, some 43, some 44, some 45, some 46, some 47, none])),
  .inl (0, 24),
  .inl (1, 24),
  .inl (1, 24),
  .inl (0, 24),
  .inl (0, 24),
  .inl (0, 25),
  .inr (.inl (6, [none, some 49, some 50, some 51, some 52, some 53, some 54, none])),
  .inl (0, 924),
  .inl (1, 924),
  .inl (1, 924),
  .inl (0, 924),
  .inl (0, 924),
  .inl (0, 925),
  .inl (0, 924),
  .inl (0, 924),
  .inr (.inl (7, [none, none, none, none])),
  .inr (.inl (1, [some 59, none, none, none, none, none])),
  .inr (.inl (7, [none, none, none, none])),
  .inr (.inl (10, [some 61, some 62, some 63, some 64, some 65, some 66, some 67, none])),
  .inl (0, 28),
  .inl (0, 28),
  .inl (0, 28)]
def layL_2 : List LC := [.inl (0, 28),
  .inl (1, 28),
  .inl (0, 8),
  .inl (0, 8),
  .inr (.inl (2, [some 69, some 70, some 71, some 72, none, none, none])),
  .inl (0, 8),
  .inl (0, 8),
  .inl (0, 8),
  .inl (0, 8),
  .inr (.inl (9, [some 74, some 75, none, none, none, none])),
  .inl (0, 24),
  .inl (1, 24),
  .inr (.inl (8, [some 77, some 78, some 81, none, none, none, none])),
  .inr (.inr (2, [82, 85, 88, 91, 94, 97, 100, 103])),
  .inr (.inl (9, [some 79, some 80, none, none, none, none])),
  .inl (0, 24),
  .inl (1, 24),
  .inl (0, 8),
  .inr (.inl (9, [some 83, some 84, none, none, none, none])),
  .inl (0, 24),
  .inl (1, 24),
  .inr (.inl (9, [some 86, some 87, none, none, none, none])),
  .inl (0, 24),
  .inl (1, 24),
  .inr (.inl (9, [some 89, some 90, none, none, none, none])),
  .inl (0, 24),
  .inl (1, 24),
  .inr (.inl (9, [some 92, some 93, none, none, none, none])),
  .inl (0, 24),
  .inl (1, 24),
  .inr (.inl (9, [some 95, some 96, none, none, none, none])),
  .inl (0, 24)]
def layL_3 : List LC := [.inl (1, 24),
  .inr (.inl (9, [some 98, some 99, none, none, none, none])),
  .inl (0, 24),
  .inl (1, 24),
  .inr (.inl (9, [some 101, some 102, none, none, none, none])),
  .inl (0, 24),
  .inl (1, 24),
  .inr (.inl (9, [some 104, some 105, none, none, none, none])),
  .inl (0, 24),
  .inl (1, 24),
  .inr (.inl (3, [some 107, some 108, some 109, some 110, none])),
  .inl (0, 40),
  .inl (0, 40),
  .inl (0, 40),
  .inl (0, 40),
  .inr (.inl (4, [some 112, some 113, none])),
  .inl (0, 8),
  .inl (0, 8),
  .inl (0, 3),
  .inr (.inl (8, [some 116, some 117, some 120, none, none, none, none])),
  .inr (.inr (2, [121, 124, 127, 130, 133, 136, 139, 142])),
  .inr (.inl (9, [some 118, some 119, none, none, none, none])),
  .inl (0, 24),
  .inl (1, 24),
  .inl (0, 8),
  .inr (.inl (9, [some 122, some 123, none, none, none, none])),
  .inl (0, 24),
  .inl (1, 24),
  .inr (.inl (9, [some 125, some 126, none, none, none, none])),
  .inl (0, 24),
  .inl (1, 24),
  .inr (.inl (9, [some 128, some 129, none, none, none, none]))]
def layL_4 : List LC := [.inl (0, 24),
  .inl (1, 24),
  .inr (.inl (9, [some 131, some 132, none, none, none, none])),
  .inl (0, 24),
  .inl (1, 24),
  .inr (.inl (9, [some 134, some 135, none, none, none, none])),
  .inl (0, 24),
  .inl (1, 24),
  .inr (.inl (9, [some 137, some 138, none, none, none, none])),
  .inl (0, 24),
  .inl (1, 24),
  .inr (.inl (9, [some 140, some 141, none, none, none, none])),
  .inl (0, 24),
  .inl (1, 24),
  .inr (.inl (9, [some 143, some 144, none, none, none, none])),
  .inl (0, 24),
  .inl (1, 24),
  .inr (.inl (3, [some 146, some 147, some 148, some 149, none])),
  .inl (0, 40),
  .inl (0, 40),
  .inl (0, 40),
  .inl (0, 40),
  .inr (.inl (4, [some 151, some 152, none])),
  .inl (0, 8),
  .inl (0, 8),
  .inl (0, 3),
  .inr (.inl (12, [some 155, none, some 156, some 157, some 158, some 159, some 160, some 161, none, none, none, none, none, none, none, none, none, none, none, none, some 162, some 163, some 164, some 165, some 166, some 167, none, none, none, none, none, some 168, none, none, none, none, none, none, none, none, none, none, some 169, some 170, some 171, some 172, some 173, some 174, some 175, none, some 176, some 177, some 178, some 179, some 180, none, none, none, none, some 181, none, some 182, some 183, none, none, some 184, none, some 185, none, none, none, none, some 186, some 187, some 188, some 189, some 190])),
  .inr (.inr (3, [191, 192, 193, 194, 195, 196])),
  .inl (0, 4),
  .inl (0, 4),
  .inl (0, 240),
  .inl (0, 240)]
def layL_5 : List LC := [.inl (0, 3),
  .inl (0, 900),
  .inl (0, 1000),
  .inl (0, 1000),
  .inl (0, 1000),
  .inl (0, 25),
  .inl (0, 25),
  .inl (0, 25),
  .inl (0, 8),
  .inl (0, 28),
  .inl (0, 28),
  .inl (0, 28),
  .inl (0, 28),
  .inl (0, 8),
  .inl (0, 8),
  .inl (1, 28),
  .inl (0, 8),
  .inl (0, 8),
  .inl (0, 8),
  .inl (0, 8),
  .inl (0, 240),
  .inl (0, 9600),
  .inl (0, 8),
  .inl (0, 8),
  .inl (0, 408),
  .inl (0, 200),
  .inl (0, 240),
  .inl (0, 9600),
  .inl (0, 8),
  .inl (0, 8),
  .inl (0, 3)]
def layL : List LC := layL_0 ++ (layL_1 ++ (layL_2 ++ (layL_3 ++ (layL_4 ++ (layL_5)))))
def lay (a : Nat) : LC := layL.getD a (.inl (9, 0))
def NN : Nat := 191
def Rn (o : Nat) : String := [RX0, RX1, RX2, RX3, RX4, RX5, RX6, RX7, RX8, RX9, RX10, RX11, RX12, "java/lang/Integer", "java/lang/Math", "java/lang/String"].getD o ""
abbrev clA : List vw_C := [(RX0, TX0, 9), (RX1, TX1, 6), (RX2, TX2, 7), (RX3, TX3, 5), (RX4, TX4, 3), (RX5, TX5, 12), (RX6, TX6, 8), (RX7, TX7, 4), (RX8, TX8, 7), (RX9, TX9, 6), (RX10, TX10, 8), (RX11, TX11, 15), (RX12, TX12, 77), (RJ4, TJ4, 4)]
def strLen : List Nat := [6, 5, 3, 6, 5, 5, 7]
def strByt : List (List Int32) := [[116, 105, 109, 98, 101, 114], [98, 111, 117, 110, 100], [108, 97, 112], [109, 97, 114, 103, 105, 110], [107, 110, 111, 119, 110], [104, 111, 117, 115, 101], [116, 105, 109, 98, 101, 114, 32]]
def m_Bench_layChronology : Nat := 0
def m_Bench_span : Nat := 1
def m_Bench_addIndices : Nat := 2
def m_Bench_indexOf : Nat := 3
def m_Bench_seekOnChronology : Nat := 4
def m_Bench_lay : Nat := 5
def m_Bench_seekOn : Nat := 6
def m_Bench_slideAlongChronology : Nat := 7
def m_Bench_measureWithin : Nat := 8
def m_Bench_laidOut : Nat := 9
def m_Bench_slideAlong : Nat := 10
def m_Finding_seek : Nat := 11
def m_Finding_countPairs : Nat := 12
def m_Finding_weigh : Nat := 13
def m_Finding_whyNotSure : Nat := 14
def m_Growth_run : Nat := 15
def m_Growth_pick : Nat := 16
def m_Growth_bits : Nat := 17
def m_Growth_tell : Nat := 18
def m_Growth_yearBy : Nat := 19
def m_Ledger_record : Nat := 20
def m_Ledger_dropFirst : Nat := 21
def m_Ledger_takeBack : Nat := 22
def m_Ledger_undateAll : Nat := 23
def m_Ledger_copyFrom : Nat := 24
def m_Notes_add : Nat := 25
def m_Notes_copyFrom : Nat := 26
def m_Notes_agree : Nat := 27
def m_Reader_putFour : Nat := 28
def m_Reader_readText : Nat := 29
def m_Reader_advance : Nat := 30
def m_Reader_byteAt : Nat := 31
def m_Reader_isLetter : Nat := 32
def m_Reader_passWord : Nat := 33
def m_Reader_isDigit : Nat := 34
def m_Reader_passNumber : Nat := 35
def m_Reader_readClause : Nat := 36
def m_Reader_isWord : Nat := 37
def m_Reader_readTimber : Nat := 38
def m_Reader_readNumber : Nat := 39
def m_Reader_readRings : Nat := 40
def m_Reader_readSetting : Nat := 41
def m_Reader_readClauseEnd : Nat := 42
def m_Reader_readKnown : Nat := 43
def m_Reader_whyNotTimber : Nat := 44
def m_Reader_readHouse : Nat := 45
def m_Row_begin : Nat := 46
def m_Row_put : Nat := 47
def m_Row_finish : Nat := 48
def m_Row_numberAt : Nat := 49
def m_Row_countLess : Nat := 50
def m_Row_numbersFrom : Nat := 51
def m_Row_rankAt : Nat := 52
def m_Row_stepAt : Nat := 53
def m_Row_isShaky : Nat := 54
def m_Slide_measure : Nat := 55
def m_Slide_likeness : Nat := 56
def m_Stock_wipe : Nat := 57
def m_Stock_timberAt : Nat := 58
def m_Stock_has : Nat := 59
def m_Stock_hasRingIn : Nat := 60
def m_Stock_yearOf : Nat := 61
def m_Stock_setYear : Nat := 62
def m_Stock_isDated : Nat := 63
def m_Stock_copyFrom : Nat := 64
def m_Stock_addTimber : Nat := 65
def m_Stock_change : Nat := 66
def m_Stock_datedBits : Nat := 67
def m_Stock_felledFrom : Nat := 68
def m_Stock_felledUntil : Nat := 69
def m_Stock_pointerStep : Nat := 70
def m_Stock_bitsOfHouse : Nat := 71
def m_Stock_edgeOfHouse : Nat := 72
def m_Stock_isDatedIn : Nat := 73
def m_Stock_latestOfHouse : Nat := 74
def m_Stock_reusedOfHouse : Nat := 75
def m_Timber_allWidths : Nat := 76
def m_Timber_widthOf : Nat := 77
def m_Timber_isDoubtful : Nat := 78
def m_Timber_canGain : Nat := 79
def m_Timber_has : Nat := 80
def m_Timber_canLose : Nat := 81
def m_Timber_insertRing : Nat := 82
def m_Timber_removeRing : Nat := 83
def m_Timber_turnDoubt : Nat := 84
def m_Timber_copyFrom : Nat := 85
def m_Timber_begin : Nat := 86
def m_Timber_addRing : Nat := 87
def m_Timber_stepOf : Nat := 88
def m_Timber_countDoubtful : Nat := 89
def m_Timber_drawRings : Nat := 90
def m_Timber_writeOn : Nat := 91
def m_Web_spin : Nat := 92
def m_Web_insert : Nat := 93
def m_Web_tieAll : Nat := 94
def m_Web_leastOfPiece : Nat := 95
def m_Web_placeOf : Nat := 96
def m_Web_join : Nat := 97
def m_Web_countPieces : Nat := 98
def m_Web_countAgainst : Nat := 99
def m_Web_tell : Nat := 100
def m_RingDater_feed : Nat := 101
def m_RingDater_fault : Nat := 102
def m_RingDater_index : Nat := 103
def m_RingDater_layChronology : Nat := 104
def m_RingDater_depth : Nat := 105
def m_RingDater_date : Nat := 106
def m_RingDater_isYear : Nat := 107
def m_RingDater_settle : Nat := 108
def m_RingDater_whyUnsettled : Nat := 109
def m_RingDater_seekAmongOthers : Nat := 110
def m_RingDater_refusedAct : Nat := 111
def m_RingDater_grow : Nat := 112
def m_RingDater_copyRow : Nat := 113
def m_RingDater_mend : Nat := 114
def m_RingDater_doubt : Nat := 115
def m_RingDater_move : Nat := 116
def m_RingDater_undo : Nat := 117
def m_RingDater_note : Nat := 118
def m_RingDater_forget : Nat := 119
def m_RingDater_image : Nat := 120
def m_RingDater_restore : Nat := 121
def m_RingDater_yard : Nat := 122
def m_RingDater_count : Nat := 123
def m_RingDater_spunWeb : Nat := 124
def m_RingDater_builtFrom : Nat := 125
def m_RingDater_builtUntil : Nat := 126
def m_RingDater_countPointers : Nat := 127
def m_RingDater_oddTimber : Nat := 128
def m_RingDater_fitOf : Nat := 129
def m_RingDater_timber : Nat := 130
def m_RingDater_house : Nat := 131
def m_RingDater_ring : Nat := 132
def m_RingDater_pointer : Nat := 133
def m_RingDater_pointerYear : Nat := 134
def m_RingDater_slid : Nat := 135
def m_RingDater_best : Nat := 136
def m_RingDater_link : Nat := 137
def m_RingDater_grown : Nat := 138
def m_RingDater_help : Nat := 139
def m_RingDater_scoreHere : Nat := 140
def m_RingDater_scoreWithout : Nat := 141
def m_RingDater_scoreWithOneMore : Nat := 142
def m_RingDater_fits : Nat := 143
def m_RingDater_look : Nat := 144
def m_RingDater_countUnlikeYears : Nat := 145
def m_RingDater_chance : Nat := 146
def m_RingDater_told : Nat := 147
def m_Model_layFirst : Nat := 148
def m_Model_thrown : Nat := 149
def m_Model_feed : Nat := 150
def m_Model_yard : Nat := 151
def m_Model_fail : Nat := 152
def m_Model_stepOn : Nat := 153
def m_Model_byteAt : Nat := 154
def m_Model_isLetter : Nat := 155
def m_Model_isDigit : Nat := 156
def m_Model_readClause : Nat := 157
def m_Model_which : Nat := 158
def m_Model_is : Nat := 159
def m_Model_wrong : Nat := 160
def m_Model_isIn : Nat := 161
def m_Model_readTimber : Nat := 162
def m_Model_readNumber : Nat := 163
def m_Model_numberNow : Nat := 164
def m_Model_isMarked : Nat := 165
def m_Model_timberNow : Nat := 166
def m_Model_copyTo : Nat := 167
def m_Model_fault : Nat := 168
def m_Model_count : Nat := 169
def m_Model_bound : Nat := 170
def m_Model_lap : Nat := 171
def m_Model_margin : Nat := 172
def m_Model_datedSet : Nat := 173
def m_Model_isDated : Nat := 174
def m_Model_of : Nat := 175
def m_Model_layChronology : Nat := 176
def m_Model_widths : Nat := 177
def m_Model_indexOf : Nat := 178
def m_Model_ringIn : Nat := 179
def m_Model_tellRow : Nat := 180
def m_Model_stepAt : Nat := 181
def m_Model_numberAt : Nat := 182
def m_Model_rankAt : Nat := 183
def m_Model_tellLinks : Nat := 184
def m_Model_layA : Nat := 185
def m_Model_layB : Nat := 186
def m_Model_tellB : Nat := 187
def m_Model_tellBest : Nat := 188
def m_Model_slide : Nat := 189
def m_Model_isDoubtful : Nat := 190
def m_Model_keepLink : Nat := 191
def m_Model_joins : Nat := 192
def m_Model_pieces : Nat := 193
def m_Model_against : Nat := 194
def m_Model_built : Nat := 195
def m_Model_edgeOf : Nat := 196
def m_Model_felled : Nat := 197
def m_Model_lastOf : Nat := 198
def m_Model_pointers : Nat := 199
def m_Model_pointerIn : Nat := 200
def m_Model_stepIn : Nat := 201
def m_Model_odd : Nat := 202
def m_Model_fitOf : Nat := 203
def m_Model_tellGrown : Nat := 204
def m_Model_growNow : Nat := 205
def m_Model_timber : Nat := 206
def m_Model_isTimber : Nat := 207
def m_Model_placeOf : Nat := 208
def m_Model_whyNot : Nat := 209
def m_Model_house : Nat := 210
def m_Model_housed : Nat := 211
def m_Model_reused : Nat := 212
def m_Model_ring : Nat := 213
def m_Model_isRing : Nat := 214
def m_Model_index : Nat := 215
def m_Model_depth : Nat := 216
def m_Model_pointer : Nat := 217
def m_Model_slid : Nat := 218
def m_Model_best : Nat := 219
def m_Model_link : Nat := 220
def m_Model_grown : Nat := 221
def m_Model_help : Nat := 222
def m_Model_tries : Nat := 223
def m_Model_triesMended : Nat := 224
def m_Model_canMend : Nat := 225
def m_Model_mendNow : Nat := 226
def m_Model_date : Nat := 227
def m_Model_refuse : Nat := 228
def m_Model_keep : Nat := 229
def m_Model_settle : Nat := 230
def m_Model_grow : Nat := 231
def m_Model_mend : Nat := 232
def m_Model_doubt : Nat := 233
def m_Model_move : Nat := 234
def m_Model_undo : Nat := 235
def m_Model_note : Nat := 236
def m_Model_forget : Nat := 237
def m_Model_fits : Nat := 238
def m_Model_tellFits : Nat := 239
def m_Model_look : Nat := 240
def m_Model_unlike : Nat := 241
def m_Model_chance : Nat := 242
def m_Model_draw : Nat := 243
def m_Model_told : Nat := 244
def m_Model_tellText : Nat := 245
def m_Model_says : Nat := 246
def m_Model_saysNumber : Nat := 247
def m_Model_image : Nat := 248
def m_Model_restore : Nat := 249
def m_Integer_compare : Nat := 250
def m_Integer_bitCount : Nat := 251
def m_String_length : Nat := 252
def m_String_charAt : Nat := 253
abbrev MT : Type := MethodName × ByteArray × Nat × Option FieldType × Nat × Nat × Nat × Nat × Nat
def mtL_0 : List MT := [(⟨RX0, "layChronology", "(LRingDater$Stock;[II)V"⟩, prog_2_method_9_code, 5, none, 4, 0, 0, 3, 618),
  (⟨RX0, "span", "(LRingDater$Stock;[II)V"⟩, prog_2_method_10_code, 6, none, 4, 0, 0, 2, 622),
  (⟨RX0, "addIndices", "(LRingDater$Timber;I)V"⟩, prog_2_method_11_code, 5, none, 3, 0, 0, 2, 640),
  (⟨RX0, "indexOf", "(I)I"⟩, prog_2_method_12_code, 3, (some .int), 2, 0, 1, 1, 672),
  (⟨RX0, "seekOnChronology", "(LRingDater$Timber;I)LRingDater$Finding;"⟩, prog_2_method_8_code, 3, (some (.object "RingDater$Finding")), 3, 0, 3, 4, 728),
  (⟨RX0, "lay", "(LRingDater$Row;LRingDater$Timber;)V"⟩, prog_2_method_3_code, 3, none, 2, 0, 0, 3, 731),
  (⟨RX0, "seekOn", "(LRingDater$Timber;LRingDater$Timber;I)LRingDater$Finding;"⟩, prog_2_method_7_code, 4, (some (.object "RingDater$Finding")), 4, 0, 3, 4, 1145),
  (⟨RX0, "slideAlongChronology", "(LRingDater$Timber;I)LRingDater$Slide;"⟩, prog_2_method_5_code, 3, (some (.object "RingDater$Slide")), 3, 0, 3, 4, 1218),
  (⟨RX0, "measureWithin", "(LRingDater$Row;I)V"⟩, prog_2_method_6_code, 3, none, 3, 0, 0, 2, 1222),
  (⟨RX0, "laidOut", "(LRingDater$Timber;)LRingDater$Row;"⟩, prog_2_method_2_code, 2, (some (.object "RingDater$Row")), 2, 0, 3, 4, 1295),
  (⟨RX0, "slideAlong", "(LRingDater$Timber;LRingDater$Timber;I)LRingDater$Slide;"⟩, prog_2_method_4_code, 4, (some (.object "RingDater$Slide")), 4, 0, 3, 4, 1318),
  (⟨RX1, "seek", "(LRingDater$Row;LRingDater$Row;I)V"⟩, prog_3_method_2_code, 5, none, 4, 1, 0, 2, 739),
  (⟨RX1, "countPairs", "(LRingDater$Row;LRingDater$Row;I)I"⟩, prog_3_method_3_code, 3, (some .int), 3, 1, 1, 1, 742),
  (⟨RX1, "weigh", "(I)V"⟩, prog_3_method_4_code, 2, none, 2, 1, 0, 1, 776),
  (⟨RX1, "whyNotSure", "(II)I"⟩, prog_3_method_5_code, 3, (some .int), 3, 1, 1, 0, 780),
  (⟨RX2, "run", "(LRingDater$Stock;LRingDater$Bench;I)I"⟩, prog_4_method_2_code, 6, (some .int), 4, 2, 1, 6, 792),
  (⟨RX2, "pick", "(LRingDater$Stock;LRingDater$Bench;I)I"⟩, prog_4_method_3_code, 9, (some .int), 4, 2, 1, 5, 800),
  (⟨RX2, "bits", "()I"⟩, prog_4_method_5_code, 3, (some .int), 1, 2, 1, 1, 808),
  (⟨RX2, "tell", "(II)I"⟩, prog_4_method_4_code, 3, (some .int), 3, 2, 1, 0, 812),
  (⟨RX2, "yearBy", "(LRingDater$Stock;II)I"⟩, prog_4_method_6_code, 5, (some .int), 4, 2, 1, 2, 1379),
  (⟨RX3, "record", "(IIII)V"⟩, prog_5_method_3_code, 5, none, 5, 3, 0, 1, 699),
  (⟨RX3, "dropFirst", "()V"⟩, prog_5_method_4_code, 2, none, 1, 3, 0, 0, 703),
  (⟨RX3, "takeBack", "(LRingDater$Stock;)I"⟩, prog_5_method_5_code, 4, (some .int), 2, 3, 1, 3, 861),
  (⟨RX3, "undateAll", "(LRingDater$Stock;I)V"⟩, prog_5_method_6_code, 3, none, 2, 3, 0, 2, 866),
  (⟨RX3, "copyFrom", "(LRingDater$Ledger;)V"⟩, prog_5_method_2_code, 2, none, 2, 3, 0, 1, 897),
  (⟨RX4, "add", "(II)V"⟩, prog_6_method_3_code, 3, none, 3, 4, 0, 0, 877),
  (⟨RX4, "copyFrom", "(LRingDater$Notes;)V"⟩, prog_6_method_2_code, 2, none, 2, 4, 0, 1, 902),
  (⟨RX4, "agree", "(LRingDater$Stock;LRingDater$Growth;I)Z"⟩, prog_6_method_4_code, 5, (some .boolean), 4, 4, 2, 3, 1375),
  (⟨RX5, "putFour", "(I)V"⟩, prog_7_method_2_code, 3, none, 2, 5, 0, 0, 602),
  (⟨RX5, "readText", "(I)I"⟩, prog_7_method_3_code, 4, (some .int), 2, 5, 1, 11, 983),
  (⟨RX5, "advance", "()V"⟩, prog_7_method_7_code, 2, none, 1, 5, 0, 2, 989),
  (⟨RX5, "byteAt", "(I)I"⟩, prog_7_method_4_code, 2, (some .int), 2, 5, 1, 0, 993),
  (⟨RX5, "isLetter", "(I)Z"⟩, prog_7_method_5_code, 1, (some .boolean), 1, 5, 2, 0, 996),
  (⟨RX5, "passWord", "()V"⟩, prog_7_method_8_code, 2, none, 1, 5, 0, 1, 1000),
  (⟨RX5, "isDigit", "(I)Z"⟩, prog_7_method_6_code, 1, (some .boolean), 1, 5, 2, 0, 1003),
  (⟨RX5, "passNumber", "()V"⟩, prog_7_method_9_code, 2, none, 1, 5, 0, 1, 1007),
  (⟨RX5, "readClause", "()I"⟩, prog_7_method_11_code, 1, (some .int), 1, 5, 1, 10, 1011),
  (⟨RX5, "isWord", "(Ljava/lang/String;)Z"⟩, prog_7_method_10_code, 3, (some .boolean), 2, 5, 2, 9, 1016),
  (⟨RX5, "readTimber", "()I"⟩, prog_7_method_14_code, 3, (some .int), 1, 5, 1, 4, 1067),
  (⟨RX5, "readNumber", "(II)I"⟩, prog_7_method_12_code, 3, (some .int), 3, 5, 1, 3, 1071)]
def mtL_1 : List MT := [(⟨RX5, "readRings", "(LRingDater$Timber;)I"⟩, prog_7_method_15_code, 4, (some .int), 2, 5, 1, 3, 1083),
  (⟨RX5, "readSetting", "(III)I"⟩, prog_7_method_16_code, 5, (some .int), 4, 5, 1, 4, 1092),
  (⟨RX5, "readClauseEnd", "()I"⟩, prog_7_method_13_code, 1, (some .int), 1, 5, 1, 3, 1100),
  (⟨RX5, "readKnown", "()I"⟩, prog_7_method_18_code, 3, (some .int), 1, 5, 1, 4, 1107),
  (⟨RX5, "whyNotTimber", "(I)I"⟩, prog_7_method_17_code, 2, (some .int), 2, 5, 1, 1, 1111),
  (⟨RX5, "readHouse", "()I"⟩, prog_7_method_19_code, 3, (some .int), 1, 5, 1, 4, 1118),
  (⟨RX6, "begin", "(I)V"⟩, prog_8_method_2_code, 3, none, 2, 6, 0, 1, 636),
  (⟨RX6, "put", "(IIZ)V"⟩, prog_8_method_3_code, 4, none, 4, 6, 0, 0, 653),
  (⟨RX6, "finish", "()V"⟩, prog_8_method_4_code, 4, none, 1, 6, 0, 2, 657),
  (⟨RX6, "numberAt", "(I)I"⟩, prog_8_method_6_code, 2, (some .int), 2, 6, 1, 0, 661),
  (⟨RX6, "countLess", "(I)I"⟩, prog_8_method_5_code, 5, (some .int), 2, 6, 1, 1, 668),
  (⟨RX6, "numbersFrom", "(II)I"⟩, prog_8_method_10_code, 3, (some .int), 3, 6, 1, 0, 748),
  (⟨RX6, "rankAt", "(I)I"⟩, prog_8_method_8_code, 2, (some .int), 2, 6, 1, 0, 758),
  (⟨RX6, "stepAt", "(I)I"⟩, prog_8_method_7_code, 2, (some .int), 2, 6, 1, 0, 765),
  (⟨RX6, "isShaky", "(I)Z"⟩, prog_8_method_9_code, 2, (some .boolean), 2, 6, 2, 0, 769),
  (⟨RX7, "measure", "(LRingDater$Row;LRingDater$Row;I)V"⟩, prog_9_method_2_code, 14, none, 4, 7, 0, 1, 752),
  (⟨RX7, "likeness", "(II)I"⟩, prog_9_method_3_code, 2, (some .int), 2, 7, 1, 0, 772),
  (⟨RX8, "wipe", "()V"⟩, prog_10_method_2_code, 2, none, 1, 8, 0, 0, 195),
  (⟨RX8, "timberAt", "(I)LRingDater$Timber;"⟩, prog_10_method_6_code, 2, (some (.object "RingDater$Timber")), 2, 8, 3, 1, 626),
  (⟨RX8, "has", "(I)Z"⟩, prog_10_method_5_code, 2, (some .boolean), 2, 8, 2, 0, 630),
  (⟨RX8, "hasRingIn", "(II)Z"⟩, prog_10_method_12_code, 4, (some .boolean), 3, 8, 2, 2, 681),
  (⟨RX8, "yearOf", "(I)I"⟩, prog_10_method_8_code, 2, (some .int), 2, 8, 1, 0, 685),
  (⟨RX8, "setYear", "(II)V"⟩, prog_10_method_10_code, 3, none, 3, 8, 0, 1, 707),
  (⟨RX8, "isDated", "(I)Z"⟩, prog_10_method_9_code, 2, (some .boolean), 2, 8, 2, 1, 715),
  (⟨RX8, "copyFrom", "(LRingDater$Stock;)V"⟩, prog_10_method_4_code, 3, none, 2, 8, 0, 1, 889),
  (⟨RX8, "addTimber", "(II)LRingDater$Timber;"⟩, prog_10_method_7_code, 3, (some (.object "RingDater$Timber")), 3, 8, 3, 1, 1075),
  (⟨RX8, "change", "(II)V"⟩, prog_10_method_3_code, 3, none, 3, 8, 0, 0, 1096),
  (⟨RX8, "datedBits", "()I"⟩, prog_10_method_11_code, 3, (some .int), 1, 8, 1, 2, 1131),
  (⟨RX8, "felledFrom", "(I)I"⟩, prog_10_method_14_code, 3, (some .int), 2, 8, 1, 2, 1183),
  (⟨RX8, "felledUntil", "(I)I"⟩, prog_10_method_15_code, 3, (some .int), 2, 8, 1, 2, 1192),
  (⟨RX8, "pointerStep", "(I)I"⟩, prog_10_method_13_code, 7, (some .int), 2, 8, 1, 3, 1200),
  (⟨RX8, "bitsOfHouse", "(I)I"⟩, prog_10_method_16_code, 4, (some .int), 2, 8, 1, 2, 1262),
  (⟨RX8, "edgeOfHouse", "(I)I"⟩, prog_10_method_18_code, 4, (some .int), 2, 8, 1, 3, 1266),
  (⟨RX8, "isDatedIn", "(II)Z"⟩, prog_10_method_17_code, 3, (some .boolean), 3, 8, 2, 2, 1270),
  (⟨RX8, "latestOfHouse", "(I)I"⟩, prog_10_method_20_code, 6, (some .int), 2, 8, 1, 5, 1276),
  (⟨RX8, "reusedOfHouse", "(I)I"⟩, prog_10_method_19_code, 5, (some .int), 2, 8, 1, 4, 1280),
  (⟨RX9, "allWidths", "()I"⟩, prog_11_method_16_code, 3, (some .int), 1, 9, 1, 1, 644),
  (⟨RX9, "widthOf", "(I)I"⟩, prog_11_method_5_code, 2, (some .int), 2, 9, 1, 0, 648),
  (⟨RX9, "isDoubtful", "(I)Z"⟩, prog_11_method_6_code, 2, (some .boolean), 2, 9, 2, 0, 735),
  (⟨RX9, "canGain", "(I)Z"⟩, prog_11_method_11_code, 2, (some .boolean), 2, 9, 2, 1, 821)]
def mtL_2 : List MT := [(⟨RX9, "has", "(I)Z"⟩, prog_11_method_4_code, 2, (some .boolean), 2, 9, 2, 0, 825),
  (⟨RX9, "canLose", "(I)Z"⟩, prog_11_method_10_code, 2, (some .boolean), 2, 9, 2, 1, 829),
  (⟨RX9, "insertRing", "(II)V"⟩, prog_11_method_13_code, 4, none, 3, 9, 0, 0, 834),
  (⟨RX9, "removeRing", "(I)V"⟩, prog_11_method_12_code, 3, none, 2, 9, 0, 1, 839),
  (⟨RX9, "turnDoubt", "(I)V"⟩, prog_11_method_9_code, 2, none, 2, 9, 0, 1, 848),
  (⟨RX9, "copyFrom", "(LRingDater$Timber;)V"⟩, prog_11_method_3_code, 3, none, 2, 9, 0, 0, 893),
  (⟨RX9, "begin", "(II)V"⟩, prog_11_method_2_code, 3, none, 3, 9, 0, 0, 1079),
  (⟨RX9, "addRing", "(IZ)V"⟩, prog_11_method_8_code, 3, none, 3, 9, 0, 0, 1087),
  (⟨RX9, "stepOf", "(I)I"⟩, prog_11_method_7_code, 2, (some .int), 2, 9, 1, 1, 1205),
  (⟨RX9, "countDoubtful", "()I"⟩, prog_11_method_15_code, 3, (some .int), 1, 9, 1, 1, 1249),
  (⟨RX9, "drawRings", "(II)I"⟩, prog_11_method_14_code, 5, (some .int), 3, 9, 1, 1, 1404),
  (⟨RX9, "writeOn", "(Ljava/lang/StringBuilder;)V"⟩, prog_11_method_17_code, 3, none, 2, 9, 0, 1, 1418),
  (⟨RX10, "spin", "(LRingDater$Stock;LRingDater$Bench;)V"⟩, prog_12_method_2_code, 6, none, 3, 10, 0, 5, 1140),
  (⟨RX10, "insert", "(IIII)V"⟩, prog_12_method_3_code, 7, none, 5, 10, 0, 0, 1150),
  (⟨RX10, "tieAll", "()V"⟩, prog_12_method_4_code, 4, none, 1, 10, 0, 2, 1154),
  (⟨RX10, "leastOfPiece", "(I)I"⟩, prog_12_method_6_code, 2, (some .int), 2, 10, 1, 0, 1158),
  (⟨RX10, "placeOf", "(I)I"⟩, prog_12_method_7_code, 2, (some .int), 2, 10, 1, 0, 1162),
  (⟨RX10, "join", "(III)V"⟩, prog_12_method_5_code, 6, none, 4, 10, 0, 1, 1166),
  (⟨RX10, "countPieces", "(I)I"⟩, prog_12_method_8_code, 4, (some .int), 2, 10, 1, 1, 1171),
  (⟨RX10, "countAgainst", "()I"⟩, prog_12_method_9_code, 4, (some .int), 1, 10, 1, 1, 1175),
  (⟨RX10, "tell", "(II)I"⟩, prog_12_method_10_code, 3, (some .int), 3, 10, 1, 0, 1337),
  (⟨RX11, "feed", "(IIIII)I"⟩, prog_1_method_2_code, 6, (some .int), 6, 11, 1, 1, 598),
  (⟨RX11, "fault", "()I"⟩, prog_1_method_4_code, 1, (some .int), 1, 11, 1, 0, 606),
  (⟨RX11, "index", "(I)I"⟩, prog_1_method_9_code, 2, (some .int), 2, 11, 1, 5, 610),
  (⟨RX11, "layChronology", "()V"⟩, prog_1_method_35_code, 1, none, 1, 11, 0, 4, 614),
  (⟨RX11, "depth", "(I)I"⟩, prog_1_method_10_code, 4, (some .int), 2, 11, 1, 3, 677),
  (⟨RX11, "date", "(II)I"⟩, prog_1_method_17_code, 4, (some .int), 3, 11, 1, 2, 690),
  (⟨RX11, "isYear", "(I)Z"⟩, prog_1_method_32_code, 1, (some .boolean), 1, 11, 2, 0, 694),
  (⟨RX11, "settle", "(I)I"⟩, prog_1_method_18_code, 3, (some .int), 2, 11, 1, 7, 711),
  (⟨RX11, "whyUnsettled", "(I)I"⟩, prog_1_method_41_code, 4, (some .int), 2, 11, 1, 6, 719),
  (⟨RX11, "seekAmongOthers", "(I)LRingDater$Finding;"⟩, prog_1_method_37_code, 2, (some (.object "RingDater$Finding")), 2, 11, 3, 5, 723),
  (⟨RX11, "refusedAct", "()I"⟩, prog_1_method_34_code, 1, (some .int), 1, 11, 1, 0, 784),
  (⟨RX11, "grow", "()I"⟩, prog_1_method_19_code, 3, (some .int), 1, 11, 1, 7, 788),
  (⟨RX11, "copyRow", "([I[I)V"⟩, prog_1_method_33_code, 3, none, 2, 11, 0, 0, 795),
  (⟨RX11, "mend", "(IIZ)I"⟩, prog_1_method_20_code, 5, (some .int), 4, 11, 1, 2, 817),
  (⟨RX11, "doubt", "(II)I"⟩, prog_1_method_21_code, 4, (some .int), 3, 11, 1, 2, 843),
  (⟨RX11, "move", "(II)I"⟩, prog_1_method_22_code, 5, (some .int), 3, 11, 1, 2, 853),
  (⟨RX11, "undo", "()I"⟩, prog_1_method_23_code, 1, (some .int), 1, 11, 1, 4, 857),
  (⟨RX11, "note", "(II)I"⟩, prog_1_method_24_code, 3, (some .int), 3, 11, 1, 1, 873),
  (⟨RX11, "forget", "()V"⟩, prog_1_method_27_code, 1, none, 1, 11, 0, 0, 881)]
def mtL_3 : List MT := [(⟨RX11, "image", "()V"⟩, prog_1_method_30_code, 1, none, 1, 11, 0, 2, 885),
  (⟨RX11, "restore", "()Z"⟩, prog_1_method_31_code, 1, (some .boolean), 1, 11, 2, 2, 908),
  (⟨RX11, "yard", "(I)I"⟩, prog_1_method_3_code, 3, (some .int), 2, 11, 1, 12, 916),
  (⟨RX11, "count", "(I)I"⟩, prog_1_method_5_code, 2, (some .int), 2, 11, 1, 7, 1127),
  (⟨RX11, "spunWeb", "()LRingDater$Web;"⟩, prog_1_method_36_code, 1, (some (.object "RingDater$Web")), 1, 11, 3, 6, 1136),
  (⟨RX11, "builtFrom", "()I"⟩, prog_1_method_42_code, 3, (some .int), 1, 11, 1, 3, 1179),
  (⟨RX11, "builtUntil", "()I"⟩, prog_1_method_43_code, 3, (some .int), 1, 11, 1, 3, 1188),
  (⟨RX11, "countPointers", "()I"⟩, prog_1_method_44_code, 3, (some .int), 1, 11, 1, 5, 1196),
  (⟨RX11, "oddTimber", "()I"⟩, prog_1_method_47_code, 5, (some .int), 1, 11, 1, 6, 1210),
  (⟨RX11, "fitOf", "(I)I"⟩, prog_1_method_46_code, 4, (some .int), 2, 11, 1, 5, 1214),
  (⟨RX11, "timber", "(II)I"⟩, prog_1_method_6_code, 5, (some .int), 3, 11, 1, 7, 1245),
  (⟨RX11, "house", "(II)I"⟩, prog_1_method_7_code, 3, (some .int), 3, 11, 1, 6, 1258),
  (⟨RX11, "ring", "(III)I"⟩, prog_1_method_8_code, 5, (some .int), 4, 11, 1, 5, 1290),
  (⟨RX11, "pointer", "(II)I"⟩, prog_1_method_11_code, 4, (some .int), 3, 11, 1, 6, 1303),
  (⟨RX11, "pointerYear", "(I)I"⟩, prog_1_method_45_code, 4, (some .int), 2, 11, 1, 5, 1307),
  (⟨RX11, "slid", "(IIII)I"⟩, prog_1_method_12_code, 6, (some .int), 5, 11, 1, 5, 1314),
  (⟨RX11, "best", "(III)I"⟩, prog_1_method_13_code, 5, (some .int), 4, 11, 1, 6, 1325),
  (⟨RX11, "link", "(II)I"⟩, prog_1_method_14_code, 3, (some .int), 3, 11, 1, 7, 1333),
  (⟨RX11, "grown", "(II)I"⟩, prog_1_method_15_code, 3, (some .int), 3, 11, 1, 7, 1344),
  (⟨RX11, "help", "(II)I"⟩, prog_1_method_16_code, 8, (some .int), 3, 11, 1, 7, 1351),
  (⟨RX11, "scoreHere", "(LRingDater$Timber;)I"⟩, prog_1_method_38_code, 3, (some .int), 2, 11, 1, 5, 1355),
  (⟨RX11, "scoreWithout", "(LRingDater$Timber;I)I"⟩, prog_1_method_39_code, 3, (some .int), 3, 11, 1, 6, 1359),
  (⟨RX11, "scoreWithOneMore", "(LRingDater$Timber;I)I"⟩, prog_1_method_40_code, 3, (some .int), 3, 11, 1, 6, 1364),
  (⟨RX11, "fits", "(I)I"⟩, prog_1_method_25_code, 5, (some .int), 2, 11, 1, 7, 1371),
  (⟨RX11, "look", "(I)I"⟩, prog_1_method_26_code, 6, (some .int), 2, 11, 1, 7, 1388),
  (⟨RX11, "countUnlikeYears", "(I)I"⟩, prog_1_method_48_code, 6, (some .int), 2, 11, 1, 4, 1392),
  (⟨RX11, "chance", "(IIII)I"⟩, prog_1_method_28_code, 13, (some .int), 5, 11, 1, 6, 1400),
  (⟨RX11, "told", "(II)I"⟩, prog_1_method_29_code, 3, (some .int), 3, 11, 1, 2, 1414),
  (⟨RX12, "layFirst", "([I)V"⟩, prog_14_method_5_code, 2, none, 1, 12, 0, 0, 1680),
  (⟨RX12, "thrown", "()I"⟩, prog_14_method_2_code, 1, (some .int), 1, 12, 1, 0, 1916),
  (⟨RX12, "feed", "(IIIII)I"⟩, prog_14_method_10_code, 8, (some .int), 6, 12, 1, 0, 1920),
  (⟨RX12, "yard", "(I)I"⟩, prog_14_method_24_code, 2, (some .int), 2, 12, 1, 12, 1924),
  (⟨RX12, "fail", "(I)I"⟩, prog_14_method_3_code, 2, (some .int), 2, 12, 1, 0, 1928),
  (⟨RX12, "stepOn", "()V"⟩, prog_14_method_14_code, 2, none, 1, 12, 0, 1, 1932),
  (⟨RX12, "byteAt", "(I)I"⟩, prog_14_method_11_code, 2, (some .int), 2, 12, 1, 0, 1936),
  (⟨RX12, "isLetter", "(I)Z"⟩, prog_14_method_12_code, 1, (some .boolean), 1, 12, 2, 0, 1939),
  (⟨RX12, "isDigit", "(I)Z"⟩, prog_14_method_13_code, 1, (some .boolean), 1, 12, 2, 0, 1942),
  (⟨RX12, "readClause", "()V"⟩, prog_14_method_23_code, 4, none, 1, 12, 0, 11, 1948),
  (⟨RX12, "which", "()I"⟩, prog_14_method_17_code, 2, (some .int), 1, 12, 1, 10, 1952),
  (⟨RX12, "is", "(Ljava/lang/String;)Z"⟩, prog_14_method_16_code, 4, (some .boolean), 2, 12, 2, 9, 1956)]
def mtL_4 : List MT := [(⟨RX12, "wrong", "(I)V"⟩, prog_14_method_15_code, 2, none, 2, 12, 0, 0, 1962),
  (⟨RX12, "isIn", "(III)Z"⟩, prog_14_method_4_code, 3, (some .boolean), 3, 12, 2, 0, 1965),
  (⟨RX12, "readTimber", "()V"⟩, prog_14_method_21_code, 4, none, 1, 12, 0, 3, 1969),
  (⟨RX12, "readNumber", "(II)I"⟩, prog_14_method_20_code, 4, (some .int), 3, 12, 1, 2, 1973),
  (⟨RX12, "numberNow", "(II)I"⟩, prog_14_method_19_code, 3, (some .int), 3, 12, 1, 1, 1977),
  (⟨RX12, "isMarked", "(I)Z"⟩, prog_14_method_18_code, 2, (some .boolean), 2, 12, 2, 0, 1981),
  (⟨RX12, "timberNow", "(I)I"⟩, prog_14_method_22_code, 3, (some .int), 2, 12, 1, 2, 1985),
  (⟨RX12, "copyTo", "([I[I)V"⟩, prog_14_method_9_code, 3, none, 2, 12, 0, 0, 1988),
  (⟨RX12, "fault", "()I"⟩, prog_14_method_25_code, 1, (some .int), 1, 12, 1, 0, 1992),
  (⟨RX12, "count", "(I)I"⟩, prog_14_method_62_code, 2, (some .int), 2, 12, 1, 7, 1996),
  (⟨RX12, "bound", "()I"⟩, prog_14_method_6_code, 1, (some .int), 1, 12, 1, 0, 2000),
  (⟨RX12, "lap", "()I"⟩, prog_14_method_7_code, 1, (some .int), 1, 12, 1, 0, 2004),
  (⟨RX12, "margin", "()I"⟩, prog_14_method_8_code, 1, (some .int), 1, 12, 1, 0, 2008),
  (⟨RX12, "datedSet", "()I"⟩, prog_14_method_51_code, 3, (some .int), 1, 12, 1, 2, 2012),
  (⟨RX12, "isDated", "(I)Z"⟩, prog_14_method_27_code, 2, (some .boolean), 2, 12, 2, 1, 2016),
  (⟨RX12, "of", "(II)I"⟩, prog_14_method_26_code, 3, (some .int), 3, 12, 1, 0, 2020),
  (⟨RX12, "layChronology", "(I)V"⟩, prog_14_method_38_code, 4, none, 2, 12, 0, 4, 2024),
  (⟨RX12, "widths", "(I)I"⟩, prog_14_method_35_code, 4, (some .int), 2, 12, 1, 1, 2028),
  (⟨RX12, "indexOf", "(II)I"⟩, prog_14_method_37_code, 7, (some .int), 3, 12, 1, 3, 2033),
  (⟨RX12, "ringIn", "(II)I"⟩, prog_14_method_36_code, 4, (some .int), 3, 12, 1, 2, 2037),
  (⟨RX12, "tellRow", "([I[I[II)V"⟩, prog_14_method_31_code, 5, none, 4, 12, 0, 2, 2040),
  (⟨RX12, "stepAt", "([III)I"⟩, prog_14_method_29_code, 5, (some .int), 3, 12, 1, 1, 2043),
  (⟨RX12, "numberAt", "([III)I"⟩, prog_14_method_28_code, 3, (some .int), 3, 12, 1, 0, 2046),
  (⟨RX12, "rankAt", "([III)I"⟩, prog_14_method_30_code, 7, (some .int), 3, 12, 1, 1, 2050),
  (⟨RX12, "tellLinks", "()V"⟩, prog_14_method_44_code, 4, none, 1, 12, 0, 5, 2054),
  (⟨RX12, "layA", "(I)V"⟩, prog_14_method_32_code, 3, none, 2, 12, 0, 3, 2058),
  (⟨RX12, "layB", "(I)V"⟩, prog_14_method_34_code, 3, none, 2, 12, 0, 4, 2062),
  (⟨RX12, "tellB", "()V"⟩, prog_14_method_33_code, 1, none, 1, 12, 0, 3, 2066),
  (⟨RX12, "tellBest", "(I)V"⟩, prog_14_method_41_code, 4, none, 2, 12, 0, 2, 2070),
  (⟨RX12, "slide", "(I)V"⟩, prog_14_method_40_code, 8, none, 2, 12, 0, 1, 2074),
  (⟨RX12, "isDoubtful", "(II)Z"⟩, prog_14_method_39_code, 2, (some .boolean), 2, 12, 2, 0, 2078),
  (⟨RX12, "keepLink", "(II)V"⟩, prog_14_method_42_code, 4, none, 3, 12, 0, 0, 2082),
  (⟨RX12, "joins", "(I)V"⟩, prog_14_method_43_code, 6, none, 2, 12, 0, 0, 2086),
  (⟨RX12, "pieces", "()I"⟩, prog_14_method_46_code, 3, (some .int), 1, 12, 1, 6, 2090),
  (⟨RX12, "against", "()I"⟩, prog_14_method_47_code, 3, (some .int), 1, 12, 1, 6, 2094),
  (⟨RX12, "built", "(Z)I"⟩, prog_14_method_54_code, 3, (some .int), 2, 12, 1, 3, 2098),
  (⟨RX12, "edgeOf", "(I)I"⟩, prog_14_method_52_code, 4, (some .int), 2, 12, 1, 2, 2102),
  (⟨RX12, "felled", "(II)I"⟩, prog_14_method_50_code, 3, (some .int), 3, 12, 1, 1, 2106),
  (⟨RX12, "lastOf", "(I)I"⟩, prog_14_method_53_code, 4, (some .int), 2, 12, 1, 2, 2110),
  (⟨RX12, "pointers", "()I"⟩, prog_14_method_59_code, 3, (some .int), 1, 12, 1, 5, 2114)]
def mtL_5 : List MT := [(⟨RX12, "pointerIn", "(I)I"⟩, prog_14_method_58_code, 7, (some .int), 2, 12, 1, 4, 2118),
  (⟨RX12, "stepIn", "(II)I"⟩, prog_14_method_57_code, 4, (some .int), 3, 12, 1, 3, 2122),
  (⟨RX12, "odd", "()I"⟩, prog_14_method_61_code, 5, (some .int), 1, 12, 1, 6, 2126),
  (⟨RX12, "fitOf", "(I)I"⟩, prog_14_method_60_code, 2, (some .int), 2, 12, 1, 5, 2130),
  (⟨RX12, "tellGrown", "()V"⟩, prog_14_method_49_code, 1, none, 1, 12, 0, 6, 2134),
  (⟨RX12, "growNow", "(I)V"⟩, prog_14_method_48_code, 7, none, 2, 12, 0, 5, 2138),
  (⟨RX12, "timber", "(II)I"⟩, prog_14_method_66_code, 3, (some .int), 3, 12, 1, 6, 2142),
  (⟨RX12, "isTimber", "(I)Z"⟩, prog_14_method_63_code, 2, (some .boolean), 2, 12, 2, 1, 2146),
  (⟨RX12, "placeOf", "(I)I"⟩, prog_14_method_45_code, 2, (some .int), 2, 12, 1, 0, 2156),
  (⟨RX12, "whyNot", "(I)I"⟩, prog_14_method_65_code, 2, (some .int), 2, 12, 1, 5, 2160),
  (⟨RX12, "house", "(II)I"⟩, prog_14_method_67_code, 4, (some .int), 3, 12, 1, 4, 2164),
  (⟨RX12, "housed", "(I)I"⟩, prog_14_method_55_code, 4, (some .int), 2, 12, 1, 1, 2168),
  (⟨RX12, "reused", "(I)I"⟩, prog_14_method_56_code, 5, (some .int), 2, 12, 1, 3, 2172),
  (⟨RX12, "ring", "(III)I"⟩, prog_14_method_68_code, 4, (some .int), 4, 12, 1, 5, 2176),
  (⟨RX12, "isRing", "(II)Z"⟩, prog_14_method_64_code, 3, (some .boolean), 3, 12, 2, 2, 2180),
  (⟨RX12, "index", "(I)I"⟩, prog_14_method_69_code, 3, (some .int), 2, 12, 1, 4, 2184),
  (⟨RX12, "depth", "(I)I"⟩, prog_14_method_70_code, 4, (some .int), 2, 12, 1, 3, 2188),
  (⟨RX12, "pointer", "(II)I"⟩, prog_14_method_71_code, 6, (some .int), 3, 12, 1, 5, 2192),
  (⟨RX12, "slid", "(IIII)I"⟩, prog_14_method_72_code, 5, (some .int), 5, 12, 1, 5, 2196),
  (⟨RX12, "best", "(III)I"⟩, prog_14_method_73_code, 4, (some .int), 4, 12, 1, 5, 2200),
  (⟨RX12, "link", "(II)I"⟩, prog_14_method_74_code, 3, (some .int), 3, 12, 1, 6, 2204),
  (⟨RX12, "grown", "(II)I"⟩, prog_14_method_75_code, 3, (some .int), 3, 12, 1, 7, 2208),
  (⟨RX12, "help", "(II)I"⟩, prog_14_method_80_code, 3, (some .int), 3, 12, 1, 7, 2212),
  (⟨RX12, "tries", "(II)V"⟩, prog_14_method_78_code, 4, none, 3, 12, 0, 5, 2216),
  (⟨RX12, "triesMended", "(IZ)V"⟩, prog_14_method_79_code, 4, none, 3, 12, 0, 6, 2220),
  (⟨RX12, "canMend", "(IIZ)Z"⟩, prog_14_method_76_code, 5, (some .boolean), 4, 12, 2, 1, 2224),
  (⟨RX12, "mendNow", "(IIZ)V"⟩, prog_14_method_77_code, 8, none, 4, 12, 0, 0, 2228),
  (⟨RX12, "date", "(II)I"⟩, prog_14_method_83_code, 4, (some .int), 3, 12, 1, 2, 2232),
  (⟨RX12, "refuse", "(I)I"⟩, prog_14_method_81_code, 2, (some .int), 2, 12, 1, 0, 2236),
  (⟨RX12, "keep", "()V"⟩, prog_14_method_82_code, 2, none, 1, 12, 0, 0, 2240),
  (⟨RX12, "settle", "(I)I"⟩, prog_14_method_84_code, 2, (some .int), 2, 12, 1, 6, 2244),
  (⟨RX12, "grow", "()I"⟩, prog_14_method_85_code, 1, (some .int), 1, 12, 1, 7, 2248),
  (⟨RX12, "mend", "(IIZ)I"⟩, prog_14_method_86_code, 4, (some .int), 4, 12, 1, 2, 2252),
  (⟨RX12, "doubt", "(II)I"⟩, prog_14_method_87_code, 3, (some .int), 3, 12, 1, 3, 2256),
  (⟨RX12, "move", "(II)I"⟩, prog_14_method_88_code, 4, (some .int), 3, 12, 1, 2, 2260),
  (⟨RX12, "undo", "()I"⟩, prog_14_method_89_code, 2, (some .int), 1, 12, 1, 0, 2264),
  (⟨RX12, "note", "(II)I"⟩, prog_14_method_90_code, 3, (some .int), 3, 12, 1, 2, 2268),
  (⟨RX12, "forget", "()V"⟩, prog_14_method_91_code, 1, none, 1, 12, 0, 0, 2272),
  (⟨RX12, "fits", "(I)I"⟩, prog_14_method_93_code, 2, (some .int), 2, 12, 1, 7, 2276),
  (⟨RX12, "tellFits", "()V"⟩, prog_14_method_92_code, 4, none, 1, 12, 0, 6, 2280)]
def mtL_6 : List MT := [(⟨RX12, "look", "(I)I"⟩, prog_14_method_95_code, 6, (some .int), 2, 12, 1, 7, 2284),
  (⟨RX12, "unlike", "(I)I"⟩, prog_14_method_94_code, 6, (some .int), 2, 12, 1, 0, 2288),
  (⟨RX12, "chance", "(IIII)I"⟩, prog_14_method_97_code, 11, (some .int), 5, 12, 1, 5, 2292),
  (⟨RX12, "draw", "(I)I"⟩, prog_14_method_96_code, 2, (some .int), 2, 12, 1, 0, 2296),
  (⟨RX12, "told", "(II)I"⟩, prog_14_method_101_code, 3, (some .int), 3, 12, 1, 10, 2301),
  (⟨RX12, "tellText", "(I)V"⟩, prog_14_method_100_code, 3, none, 2, 12, 0, 9, 2305),
  (⟨RX12, "says", "(I)V"⟩, prog_14_method_98_code, 2, none, 2, 12, 0, 0, 2309),
  (⟨RX12, "saysNumber", "(I)V"⟩, prog_14_method_99_code, 2, none, 2, 12, 0, 1, 2313),
  (⟨RX12, "image", "()V"⟩, prog_14_method_102_code, 1, none, 1, 12, 0, 1, 2317),
  (⟨RX12, "restore", "()Z"⟩, prog_14_method_103_code, 1, (some .boolean), 1, 12, 2, 1, 2321),
  (⟨"java/lang/Integer", "compare", "(II)I"⟩, prog_23_method_40_code, 2, (some .int), 2, 13, 1, 0, 664),
  (⟨"java/lang/Integer", "bitCount", "(I)I"⟩, prog_23_method_49_code, 1, (some .int), 1, 13, 1, 0, 2149),
  (⟨"java/lang/String", "length", "()I"⟩, prog_27_method_54_code, 1, (some .int), 1, 15, 1, 8, 1020),
  (⟨"java/lang/String", "charAt", "(I)C"⟩, prog_27_method_56_code, 2, (some .char), 2, 15, 1, 8, 1029)]
def mtL : List MT := mtL_0 ++ (mtL_1 ++ (mtL_2 ++ (mtL_3 ++ (mtL_4 ++ (mtL_5 ++ (mtL_6))))))
def mtN : Nat := 254
def mtD : MT := (⟨"", "", ""⟩, ⟨#[]⟩, 0, none, 0, 99, 9, 0, 0)
def mt (i : Nat) : MT := mtL.getD i mtD
def yM (i : Nat) : MethodName := (mt i).1
def cM (i : Nat) : ByteArray := (mt i).2.1
def lM (i : Nat) : Nat := (mt i).2.2.1
def rM (i : Nat) : Option FieldType := (mt i).2.2.2.1
def nM (i : Nat) : Nat := (mt i).2.2.2.2.1
def oM (i : Nat) : Nat := (mt i).2.2.2.2.2.1
def rkM (i : Nat) : Nat := (mt i).2.2.2.2.2.2.1
def dM (i : Nat) : Nat := (mt i).2.2.2.2.2.2.2.1
def pM (i : Nat) : Nat := (mt i).2.2.2.2.2.2.2.2
/-- the tables' words that no heap changes -/
def gW : List Cond := lw_tbl.filter goodWord
def wM (i : Nat) : List Cond := Cond.code (yM i) (cM i) (lM i) (rM i) :: gW
def rmM (i : Nat) : Room := { frames := dM i, cells := 0, slots := 0, locals := 64 * dM i }
/-- a field's place in a class's pool: index, class, slot, sort (0 int, 1 boolean, 2 reference, 3 final int), the word's place -/
def fldL (o : Nat) : List (Nat × Nat × Nat × Nat × Nat) := match o with
  | 0 => [(14, 0, 0, 2, 380), (20, 0, 1, 2, 381), (23, 0, 2, 2, 382), (26, 0, 3, 2, 383), (30, 0, 4, 2, 384), (36, 0, 5, 2, 385), (43, 0, 6, 2, 386), (47, 0, 7, 0, 387), (51, 0, 8, 0, 390), (58, 9, 2, 0, 163), (105, 6, 7, 0, 301), (108, 8, 3, 0, 205)]
  | 1 => [(12, 1, 0, 2, 352), (18, 1, 1, 1, 353), (22, 1, 5, 0, 365), (26, 6, 7, 0, 298), (55, 7, 3, 0, 333), (58, 1, 3, 0, 361), (59, 7, 0, 0, 326), (62, 1, 4, 0, 363), (63, 1, 2, 0, 357)]
  | 2 => [(9, 2, 0, 2, 449), (15, 2, 1, 2, 450), (18, 2, 2, 2, 451), (21, 2, 3, 2, 452), (24, 2, 6, 0, 455), (28, 8, 2, 2, 199), (45, 2, 4, 0, 453), (48, 2, 5, 0, 454), (51, 8, 3, 0, 203), (56, 8, 5, 0, 212), (63, 8, 6, 0, 216), (72, 0, 7, 0, 388), (75, 1, 2, 0, 356), (82, 1, 3, 0, 360)]
  | 3 => [(9, 3, 0, 2, 515), (15, 3, 1, 2, 516), (18, 3, 2, 2, 517), (21, 3, 3, 2, 518), (28, 3, 4, 0, 519), (61, 9, 5, 0, 173)]
  | 4 => [(9, 4, 0, 2, 538), (15, 4, 1, 2, 539), (22, 4, 2, 0, 540)]
  | 5 => [(9, 5, 0, 2, 233), (18, 5, 1, 2, 234), (22, 5, 3, 0, 238), (26, 5, 2, 0, 237), (35, 5, 4, 0, 240), (38, 5, 6, 0, 242), (44, 5, 9, 0, 245), (47, 5, 10, 0, 246), (50, 5, 11, 0, 247), (56, 5, 7, 0, 243), (63, 5, 5, 0, 241), (83, 5, 8, 0, 244), (123, 8, 3, 0, 206), (163, 9, 5, 0, 176)]
  | 6 => [(18, 6, 0, 3, 291), (24, 6, 1, 2, 292), (28, 6, 2, 2, 293), (32, 6, 3, 2, 294), (35, 6, 4, 2, 295), (38, 6, 5, 2, 296), (41, 6, 6, 2, 297), (44, 6, 7, 0, 299)]
  | 7 => [(9, 7, 0, 0, 325), (21, 6, 7, 0, 300), (46, 7, 1, 0, 328), (49, 7, 2, 0, 330), (52, 7, 3, 0, 332)]
  | 8 => [(11, 8, 0, 2, 196), (18, 8, 1, 2, 197), (22, 8, 2, 2, 198), (29, 8, 3, 0, 202), (33, 8, 4, 0, 207), (36, 8, 5, 0, 210), (39, 8, 6, 0, 214), (65, 9, 2, 0, 165), (75, 9, 3, 0, 168), (78, 9, 4, 0, 171), (81, 9, 5, 0, 175)]
  | 9 => [(9, 9, 0, 2, 160), (15, 9, 1, 2, 161), (19, 9, 2, 0, 162), (23, 9, 3, 0, 166), (26, 9, 4, 0, 169), (29, 9, 5, 0, 172)]
  | 10 => [(9, 10, 0, 2, 417), (15, 10, 1, 2, 418), (18, 10, 2, 2, 419), (21, 10, 3, 2, 420), (24, 10, 4, 2, 421), (28, 10, 5, 2, 422), (31, 10, 6, 2, 423), (34, 10, 7, 0, 424), (38, 8, 3, 0, 201), (45, 8, 5, 0, 211), (54, 8, 4, 0, 208), (57, 8, 6, 0, 215), (66, 1, 2, 0, 355), (69, 1, 3, 0, 359)]
  | 11 => [(12, 11, 0, 2, 549), (19, 11, 1, 2, 550), (26, 11, 2, 2, 551), (33, 11, 3, 2, 552), (40, 11, 4, 2, 553), (47, 11, 5, 2, 554), (54, 11, 6, 2, 555), (61, 11, 7, 2, 556), (68, 11, 8, 2, 557), (72, 11, 9, 2, 558), (76, 11, 10, 2, 559), (79, 11, 11, 2, 560), (82, 11, 12, 2, 561), (85, 11, 13, 2, 562), (88, 5, 2, 0, 236), (103, 5, 1, 2, 235), (110, 3, 4, 0, 520), (113, 4, 2, 0, 541), (114, 11, 14, 1, 563), (118, 5, 3, 0, 239), (121, 8, 3, 0, 204), (122, 8, 4, 0, 209), (125, 8, 5, 0, 213), (128, 8, 6, 0, 217), (138, 0, 7, 0, 389), (141, 0, 8, 0, 391), (148, 10, 7, 0, 425), (185, 9, 2, 0, 164), (188, 9, 3, 0, 167), (191, 9, 4, 0, 170), (215, 9, 5, 0, 174), (269, 7, 0, 0, 327), (274, 7, 3, 0, 334), (277, 7, 1, 0, 329), (279, 7, 2, 0, 331), (296, 1, 1, 1, 354), (299, 1, 2, 0, 358), (302, 1, 3, 0, 362), (303, 1, 4, 0, 364), (304, 1, 5, 0, 366), (310, 2, 6, 0, 456), (397, 8, 2, 2, 200)]
  | 12 => [(21, 12, 0, 2, 1681), (27, 12, 2, 2, 1683), (31, 12, 3, 2, 1684), (34, 12, 4, 2, 1685), (37, 12, 5, 2, 1686), (40, 12, 6, 2, 1687), (43, 12, 7, 2, 1688), (46, 12, 17, 0, 1698), (50, 12, 20, 2, 1701), (53, 12, 21, 2, 1702), (56, 12, 22, 2, 1703), (59, 12, 23, 2, 1704), (62, 12, 24, 2, 1705), (65, 12, 25, 2, 1706), (68, 12, 31, 2, 1712), (71, 12, 42, 2, 1723), (74, 12, 43, 2, 1724), (77, 12, 44, 2, 1725), (80, 12, 45, 2, 1726), (83, 12, 46, 2, 1727), (86, 12, 47, 2, 1728), (89, 12, 48, 2, 1729), (93, 12, 50, 2, 1731), (96, 12, 51, 2, 1732), (99, 12, 52, 2, 1733), (102, 12, 53, 2, 1734), (105, 12, 54, 2, 1735), (108, 12, 59, 2, 1740), (111, 12, 61, 2, 1742), (114, 12, 62, 2, 1743), (117, 12, 65, 2, 1746), (120, 12, 67, 2, 1748), (123, 12, 72, 2, 1753), (126, 12, 73, 2, 1754), (129, 12, 74, 2, 1755), (132, 12, 75, 2, 1756), (135, 12, 76, 2, 1757), (142, 12, 1, 0, 1682), (145, 12, 8, 0, 1689), (148, 12, 10, 0, 1691), (151, 12, 9, 0, 1690), (158, 12, 13, 0, 1694), (161, 12, 11, 0, 1692), (171, 12, 12, 0, 1693), (181, 12, 14, 0, 1695), (184, 12, 15, 0, 1696), (187, 12, 16, 0, 1697), (228, 12, 18, 0, 1699), (231, 12, 19, 0, 1700), (247, 12, 58, 0, 1739), (250, 12, 60, 0, 1741), (253, 12, 69, 1, 1750), (275, 12, 26, 0, 1707), (278, 12, 27, 0, 1708), (281, 12, 30, 0, 1711), (288, 12, 28, 0, 1709), (291, 12, 29, 0, 1710), (312, 12, 32, 0, 1713), (322, 12, 33, 0, 1714), (325, 12, 34, 0, 1715), (328, 12, 35, 0, 1716), (331, 12, 41, 1, 1722), (334, 12, 39, 0, 1720), (342, 12, 37, 0, 1718), (345, 12, 38, 0, 1719), (348, 12, 36, 0, 1717), (353, 12, 40, 0, 1721), (356, 12, 49, 0, 1730), (380, 12, 55, 0, 1736), (450, 12, 57, 0, 1738), (453, 12, 56, 0, 1737), (477, 12, 63, 0, 1744), (480, 12, 64, 0, 1745), (489, 12, 66, 0, 1747), (496, 12, 68, 0, 1749), (508, 12, 70, 0, 1751), (511, 12, 71, 0, 1752)]
  | 13 => []
  | _ => []
def fldT (o x : Nat) : Option (Nat × Nat × Nat) := ((fldL o).find? (fun r => r.1 == x)).map (fun r => (r.2.1, r.2.2.1, r.2.2.2.1))
/-- a call: index, method, sort (0 virtual, 1 static, 2 static of a nest mate), the words' places -/
def invL (o : Nat) : List (Nat × Nat × Nat × Nat × Nat × Nat × Nat) := match o with
  | 0 => [(54, m_Bench_lay, 1, 729, 730, 0, 107), (63, m_Row_begin, 0, 633, 634, 635, 108), (66, m_Timber_widthOf, 0, 649, 646, 647, 106), (70, m_Timber_isDoubtful, 0, 732, 733, 734, 106), (74, m_Row_put, 0, 650, 651, 652, 108), (78, m_Row_finish, 0, 654, 655, 656, 108), (81, m_Bench_measureWithin, 0, 1219, 1221, 34, 107), (85, 0, 4, 631, 286, 287, 109), (91, 0, 3, 632, 289, 290, 109), (94, m_Slide_measure, 0, 1223, 750, 751, 110), (98, m_Finding_seek, 0, 736, 737, 738, 111), (101, m_Bench_span, 0, 619, 621, 1, 107), (113, m_Stock_timberAt, 0, 623, 624, 625, 105), (117, m_Bench_addIndices, 0, 637, 639, 2, 107), (121, m_Timber_allWidths, 0, 641, 642, 643, 106), (125, m_Row_numberAt, 0, 673, 659, 660, 108)]
  | 1 => [(31, m_Finding_countPairs, 1, 740, 741, 0, 111), (35, m_Slide_measure, 0, 749, 750, 751, 110), (39, m_Finding_weigh, 0, 773, 775, 7, 111), (43, 0, 3, 743, 289, 290, 109), (49, 0, 4, 744, 286, 287, 109), (52, m_Row_numbersFrom, 0, 745, 746, 747, 108)]
  | 2 => [(31, m_RingDater_copyRow, 2, 793, 794, 0, 103), (35, m_Bench_layChronology, 0, 796, 616, 617, 107), (41, m_Growth_pick, 0, 797, 799, 9, 113), (52, m_Stock_timberAt, 0, 801, 624, 625, 105), (59, m_Bench_seekOnChronology, 0, 802, 726, 727, 107), (66, m_Finding_whyNotSure, 0, 803, 778, 779, 111), (78, m_RingDater_isYear, 2, 804, 693, 0, 103), (85, m_Growth_tell, 0, 809, 810, 811, 113), (88, m_Stock_isDated, 0, 1380, 713, 714, 105), (91, m_Stock_yearOf, 0, 1381, 683, 684, 105)]
  | 3 => [(24, m_RingDater_copyRow, 2, 898, 794, 0, 103), (32, m_Ledger_dropFirst, 0, 700, 702, 4, 118), (35, m_Stock_timberAt, 0, 862, 624, 625, 105), (41, m_Stock_setYear, 0, 863, 705, 706, 105), (45, m_Ledger_undateAll, 1, 864, 865, 0, 118), (49, m_Timber_removeRing, 0, 867, 837, 838, 106), (55, m_Timber_insertRing, 0, 868, 832, 833, 106), (58, m_Timber_turnDoubt, 0, 869, 846, 847, 106)]
  | 4 => [(18, m_RingDater_copyRow, 2, 903, 794, 0, 103), (26, m_Growth_yearBy, 0, 1376, 1377, 1378, 113)]
  | 5 => [(29, 0, 4, 984, 286, 287, 109), (41, m_Stock_wipe, 0, 985, 193, 194, 105), (53, m_Reader_advance, 0, 986, 988, 11, 104), (59, m_Reader_readClause, 0, 1008, 1010, 15, 104), (66, m_Reader_byteAt, 0, 990, 992, 12, 104), (70, m_Reader_isLetter, 1, 994, 995, 0, 104), (74, m_Reader_passWord, 0, 997, 999, 13, 104), (77, m_Reader_isDigit, 1, 1001, 1002, 0, 104), (80, m_Reader_passNumber, 0, 1004, 1006, 14, 104), (86, m_String_length, 0, 1017, 1018, 1019, 116), (90, m_String_charAt, 0, 1026, 1027, 1028, 116), (96, m_Reader_isWord, 0, 1013, 1015, 16, 104), (100, m_Reader_readTimber, 0, 1064, 1066, 17, 104), (105, m_Reader_readSetting, 0, 1089, 1091, 20, 104), (115, m_Reader_readKnown, 0, 1104, 1106, 22, 104), (120, m_Reader_readHouse, 0, 1115, 1117, 24, 104), (126, m_Reader_readNumber, 0, 1068, 1070, 18, 104), (129, m_Stock_addTimber, 0, 1072, 1073, 1074, 105), (133, m_Reader_readRings, 0, 1080, 1082, 19, 104), (137, m_Timber_addRing, 0, 1084, 1085, 1086, 106), (143, m_Stock_change, 0, 1093, 1094, 1095, 105), (147, m_Reader_readClauseEnd, 0, 1097, 1099, 21, 104), (150, m_Stock_has, 0, 1112, 628, 629, 105), (153, m_Reader_whyNotTimber, 0, 1108, 1110, 23, 104), (156, m_Stock_setYear, 0, 1113, 705, 706, 105), (159, m_Stock_timberAt, 0, 1119, 624, 625, 105)]
  | 6 => [(9, 0, 4, 285, 286, 287, 109), (15, 0, 3, 288, 289, 290, 109), (47, m_Row_numberAt, 0, 658, 659, 660, 108), (51, m_Integer_compare, 1, 662, 663, 0, 128), (56, m_Row_countLess, 0, 665, 667, 3, 108)]
  | 7 => [(15, 0, 3, 753, 289, 290, 109), (26, 0, 4, 754, 286, 287, 109), (29, m_Row_rankAt, 0, 755, 756, 757, 108), (33, 0, 5, 759, 760, 761, 109), (36, m_Row_stepAt, 0, 762, 763, 764, 108), (39, m_Row_isShaky, 0, 766, 767, 768, 108), (43, m_Slide_likeness, 1, 770, 771, 0, 110)]
  | 8 => [(42, m_Timber_copyFrom, 0, 890, 891, 892, 106), (46, m_Stock_has, 0, 627, 628, 629, 105), (50, m_Timber_begin, 0, 1076, 1077, 1078, 106), (54, m_Stock_yearOf, 0, 682, 683, 684, 105), (58, m_Stock_isDated, 0, 1132, 713, 714, 105), (61, m_Stock_timberAt, 0, 686, 624, 625, 105), (68, m_Stock_hasRingIn, 0, 1201, 679, 680, 105), (72, m_Timber_stepOf, 0, 1202, 1203, 1204, 106), (84, m_Stock_isDatedIn, 0, 1267, 1269, 35, 105), (87, m_Stock_felledFrom, 0, 1271, 1181, 1182, 105), (90, 0, 3, 1272, 289, 290, 109), (96, m_Stock_edgeOfHouse, 0, 1281, 1264, 1265, 105), (99, m_Stock_felledUntil, 0, 1282, 1190, 1191, 105), (102, m_Stock_reusedOfHouse, 0, 1277, 1278, 1279, 105)]
  | 9 => [(32, m_Timber_widthOf, 0, 645, 646, 647, 106), (36, m_Integer_compare, 1, 1206, 663, 0, 128), (42, m_Timber_has, 0, 822, 823, 824, 106), (46, m_Timber_isDoubtful, 0, 830, 733, 734, 106), (49, m_Timber_begin, 0, 1405, 1077, 1078, 106), (54, m_Timber_addRing, 0, 1407, 1085, 1086, 106)]
  | 10 => [(41, m_Stock_timberAt, 0, 1141, 624, 625, 105), (48, m_Bench_seekOn, 0, 1142, 1143, 1144, 107), (60, m_Finding_whyNotSure, 0, 1146, 778, 779, 111), (72, m_Web_insert, 0, 1147, 1149, 26, 112), (76, m_Web_tieAll, 0, 1151, 1153, 27, 112), (79, m_Web_leastOfPiece, 0, 1155, 1156, 1157, 112), (83, m_Web_placeOf, 0, 1159, 1160, 1161, 112), (86, m_Web_join, 0, 1163, 1165, 28, 112), (90, 0, 4, 1167, 286, 287, 109)]
  | 11 => [(92, m_Reader_putFour, 0, 599, 600, 601, 104), (99, m_Reader_readText, 0, 980, 981, 982, 104), (106, m_Stock_copyFrom, 0, 886, 887, 888, 105), (131, m_Stock_datedBits, 0, 1128, 1129, 1130, 105), (135, m_RingDater_layChronology, 0, 611, 613, 0, 103), (144, m_RingDater_spunWeb, 0, 1133, 1135, 25, 103), (149, m_Web_countPieces, 0, 1168, 1169, 1170, 112), (152, m_Web_countAgainst, 0, 1172, 1173, 1174, 112), (155, m_RingDater_builtFrom, 0, 1176, 1178, 29, 103), (158, m_RingDater_builtUntil, 0, 1185, 1187, 30, 103), (161, m_RingDater_countPointers, 0, 1193, 1195, 31, 103), (164, m_RingDater_oddTimber, 0, 1207, 1209, 32, 103), (167, m_Growth_run, 0, 789, 790, 791, 113), (174, m_Stock_has, 0, 691, 628, 629, 105), (178, m_Stock_timberAt, 0, 724, 624, 625, 105), (182, m_Stock_isDated, 0, 712, 713, 714, 105), (194, m_Stock_yearOf, 0, 695, 683, 684, 105), (197, m_Timber_countDoubtful, 0, 1246, 1247, 1248, 106), (200, m_Web_leastOfPiece, 0, 1250, 1156, 1157, 112), (203, m_Web_placeOf, 0, 1251, 1160, 1161, 112), (206, m_Stock_felledFrom, 0, 1180, 1181, 1182, 105), (209, m_Stock_felledUntil, 0, 1189, 1190, 1191, 105), (212, m_RingDater_fitOf, 0, 1211, 1213, 33, 103), (218, m_RingDater_whyUnsettled, 0, 716, 718, 5, 103), (221, m_Stock_bitsOfHouse, 0, 1259, 1260, 1261, 105), (224, m_Stock_edgeOfHouse, 0, 1263, 1264, 1265, 105), (227, m_Stock_latestOfHouse, 0, 1273, 1274, 1275, 105), (230, m_Stock_reusedOfHouse, 0, 1283, 1278, 1279, 105), (233, m_Timber_has, 0, 844, 823, 824, 106), (234, m_Timber_widthOf, 0, 835, 646, 647, 106), (237, m_Timber_isDoubtful, 0, 849, 733, 734, 106), (240, m_Timber_stepOf, 0, 1291, 1203, 1204, 106), (243, m_Bench_laidOut, 0, 1292, 1293, 1294, 107), (247, m_Row_rankAt, 0, 1296, 756, 757, 108), (252, m_Bench_indexOf, 0, 669, 670, 671, 107), (255, m_Stock_hasRingIn, 0, 678, 679, 680, 105), (259, m_RingDater_pointerYear, 0, 1304, 1306, 36, 103), (262, m_Stock_pointerStep, 0, 1197, 1198, 1199, 105), (265, m_Bench_slideAlong, 0, 1315, 1316, 1317, 107), (282, m_RingDater_seekAmongOthers, 0, 720, 722, 6, 103), (286, m_Bench_seekOn, 0, 1326, 1143, 1144, 107), (290, m_Finding_whyNotSure, 0, 777, 778, 779, 111), (307, m_Web_tell, 0, 1334, 1335, 1336, 112), (311, m_Growth_tell, 0, 813, 810, 811, 113), (312, m_RingDater_scoreHere, 0, 1352, 1354, 37, 103), (316, m_RingDater_scoreWithout, 0, 1356, 1358, 38, 103), (320, m_RingDater_scoreWithOneMore, 0, 1361, 1363, 39, 103), (323, m_RingDater_isYear, 1, 692, 693, 0, 103), (326, m_Ledger_record, 0, 696, 697, 698, 118), (330, m_Stock_setYear, 0, 704, 705, 706, 105), (334, m_RingDater_refusedAct, 0, 781, 783, 8, 103), (337, m_Growth_bits, 0, 805, 806, 807, 113), (340, m_Timber_canGain, 0, 818, 819, 820, 106), (343, m_Timber_canLose, 0, 826, 827, 828, 106), (346, m_Timber_insertRing, 0, 831, 832, 833, 106), (349, m_Timber_removeRing, 0, 836, 837, 838, 106), (352, m_Timber_turnDoubt, 0, 845, 846, 847, 106), (355, m_Ledger_takeBack, 0, 858, 859, 860, 118), (359, m_Notes_add, 0, 874, 875, 876, 119), (362, m_Notes_agree, 0, 1372, 1373, 1374, 119), (366, m_RingDater_countUnlikeYears, 0, 1389, 1391, 40, 103), (369, m_Timber_drawRings, 0, 1401, 1402, 1403, 106), (372, 0, 3, 1184, 289, 290, 109), (377, m_Timber_writeOn, 0, 1415, 1416, 1417, 106), (387, m_Ledger_copyFrom, 0, 894, 895, 896, 118), (390, m_Notes_copyFrom, 0, 899, 900, 901, 119), (393, m_RingDater_copyRow, 1, 904, 794, 0, 103), (400, m_Bench_layChronology, 0, 615, 616, 617, 107), (403, m_Web_spin, 0, 1137, 1138, 1139, 112), (407, m_Bench_seekOnChronology, 0, 725, 726, 727, 107), (411, m_Timber_copyFrom, 0, 1360, 891, 892, 106), (414, m_Bench_slideAlongChronology, 0, 1215, 1216, 1217, 107), (418, m_Growth_yearBy, 0, 1393, 1377, 1378, 113)]
  | 12 => [(138, m_Model_layFirst, 1, 1678, 1679, 0, 120), (154, m_Model_byteAt, 0, 1933, 1935, 43, 120), (164, m_Model_isLetter, 1, 1937, 1938, 0, 120), (168, m_Model_isDigit, 1, 1940, 1941, 0, 120), (175, 0, 4, 1944, 286, 287, 109), (190, m_String_length, 0, 1957, 1018, 1019, 116), (194, m_String_charAt, 0, 1958, 1027, 1028, 116), (198, m_Model_is, 0, 1953, 1955, 46, 120), (202, m_Model_wrong, 0, 1959, 1961, 47, 120), (206, m_Model_numberNow, 0, 1974, 1976, 50, 120), (209, m_Model_stepOn, 0, 1929, 1931, 42, 120), (212, m_Model_readNumber, 0, 1970, 1972, 49, 120), (215, m_Model_isMarked, 0, 1978, 1980, 51, 120), (218, m_Model_which, 0, 1949, 1951, 45, 120), (221, m_Model_isIn, 1, 1963, 1964, 0, 120), (225, m_Model_readTimber, 0, 1966, 1968, 48, 120), (234, m_Model_timberNow, 0, 1982, 1984, 52, 120), (237, m_Model_fail, 0, 1925, 1927, 41, 120), (240, m_Model_readClause, 0, 1945, 1947, 44, 120), (243, m_Model_copyTo, 1, 1986, 1987, 0, 120), (257, m_Model_of, 0, 2017, 2019, 58, 120), (260, m_Model_numberAt, 1, 2044, 2045, 0, 120), (264, m_Integer_compare, 1, 2047, 663, 0, 128), (269, m_Model_stepAt, 1, 2041, 2042, 0, 120), (272, m_Model_rankAt, 1, 2048, 2049, 0, 120), (284, m_Model_tellRow, 1, 2038, 2039, 0, 120), (294, m_Model_tellB, 0, 2063, 2065, 66, 120), (297, m_Model_isDated, 0, 2013, 2015, 57, 120), (300, m_Model_ringIn, 0, 2034, 2036, 62, 120), (303, m_Model_widths, 0, 2025, 2027, 60, 120), (306, 0, 3, 2029, 289, 290, 109), (309, m_Model_indexOf, 0, 2030, 2032, 61, 120), (315, 0, 5, 2075, 760, 761, 109), (318, m_Model_isDoubtful, 1, 2076, 2077, 0, 120), (337, m_Model_slide, 0, 2071, 2073, 68, 120), (340, m_Model_lap, 0, 2001, 2003, 54, 120), (351, m_Model_margin, 0, 2005, 2007, 55, 120), (359, m_Model_layA, 0, 2055, 2057, 64, 120), (362, m_Model_layB, 0, 2059, 2061, 65, 120), (365, m_Model_bound, 0, 1997, 1999, 53, 120), (367, m_Model_tellBest, 0, 2067, 2069, 67, 120), (370, m_Model_keepLink, 0, 2079, 2081, 69, 120), (374, m_Model_joins, 0, 2083, 2085, 70, 120), (377, m_Model_tellLinks, 0, 2051, 2053, 63, 120), (383, m_Model_layChronology, 0, 2021, 2023, 59, 120), (386, m_Model_growNow, 0, 2135, 2137, 83, 120), (389, m_Model_felled, 0, 2103, 2105, 75, 120), (392, m_Model_datedSet, 0, 2009, 2011, 56, 120), (395, m_Model_edgeOf, 0, 2099, 2101, 74, 120), (398, m_Model_lastOf, 0, 2107, 2109, 76, 120), (401, m_Model_housed, 0, 2165, 2167, 87, 120), (404, m_Model_stepIn, 0, 2119, 2121, 79, 120), (407, m_Model_pointerIn, 0, 2115, 2117, 78, 120), (410, m_Model_fitOf, 0, 2127, 2129, 81, 120), (413, m_Model_pieces, 0, 2087, 2089, 71, 120), (416, m_Model_against, 0, 2091, 2093, 72, 120), (419, m_Model_built, 0, 2095, 2097, 73, 120), (423, m_Model_pointers, 0, 2111, 2113, 77, 120), (426, m_Model_odd, 0, 2123, 2125, 80, 120), (429, m_Model_tellGrown, 0, 2131, 2133, 82, 120), (432, m_Model_isTimber, 0, 2143, 2145, 84, 120), (435, m_Integer_bitCount, 1, 2147, 2148, 0, 128), (438, m_Model_placeOf, 0, 2153, 2155, 85, 120), (441, m_Model_whyNot, 0, 2157, 2159, 86, 120), (444, m_Model_reused, 0, 2169, 2171, 88, 120), (447, m_Model_isRing, 0, 2177, 2179, 89, 120), (456, m_Model_canMend, 0, 2221, 2223, 92, 120), (460, m_Model_mendNow, 0, 2225, 2227, 93, 120), (464, m_Model_tries, 0, 2213, 2215, 90, 120), (467, m_Model_triesMended, 0, 2217, 2219, 91, 120), (471, m_Model_refuse, 0, 2233, 2235, 94, 120), (474, m_Model_keep, 0, 2237, 2239, 95, 120), (483, m_Model_tellFits, 0, 2277, 2279, 96, 120), (486, m_Model_unlike, 0, 2285, 2287, 97, 120), (493, m_Model_draw, 0, 2293, 2295, 98, 120), (499, m_Model_says, 0, 2306, 2308, 100, 120), (502, m_Model_saysNumber, 0, 2310, 2312, 101, 120), (505, m_Model_tellText, 0, 2302, 2304, 99, 120)]
  | 13 => []
  | _ => []
def invT (o x : Nat) : Option (Nat × Nat) := ((invL o).find? (fun r => r.1 == x)).map (fun r => (r.2.1, r.2.2.1))
def ldiL (o : Nat) : List (Nat × Int × Nat) := match o with
  | 0 => []
  | 1 => []
  | 2 => []
  | 3 => []
  | 4 => []
  | 5 => []
  | 6 => []
  | 7 => []
  | 8 => []
  | 9 => [(53, 1103515245, 1406)]
  | 10 => []
  | 11 => []
  | 12 => [(174, 100000, 1943), (492, 1103515245, 2297)]
  | 13 => [(265, 1431655765, 2150), (266, 858993459, 2151), (267, 252645135, 2152)]
  | _ => []
def strL (o : Nat) : List (Nat × String × Nat) := match o with
  | 0 => []
  | 1 => []
  | 2 => []
  | 3 => []
  | 4 => []
  | 5 => [(94, "timber", 0), (103, "bound", 1), (109, "lap", 2), (111, "margin", 3), (113, "known", 4), (118, "house", 5)]
  | 6 => []
  | 7 => []
  | 8 => []
  | 9 => [(64, "timber ", 6)]
  | 10 => []
  | 11 => []
  | 12 => [(9, "timber", 0), (11, "bound", 1), (13, "lap", 2), (15, "margin", 3), (17, "known", 4), (19, "house", 5)]
  | 13 => []
  | _ => []
def ldcT (o x : Nat) : Option (Int ⊕ Nat) := match (ldiL o).find? (fun r => r.1 == x) with
  | some r => some (.inl r.2.1)
  | none => ((strL o).find? (fun r => r.1 == x)).map (fun r => .inr (NN + r.2.2))
def excL (o : Nat) : List (Nat × Nat × Nat × Nat) := match o with
  | 0 => []
  | 1 => []
  | 2 => []
  | 3 => []
  | 4 => []
  | 5 => []
  | 6 => []
  | 7 => []
  | 8 => []
  | 9 => []
  | 10 => []
  | 11 => [(96, 1, 98, 917), (171, 0, 173, 1224)]
  | 12 => []
  | 13 => []
  | _ => []
def excT (o x : Nat) : Option (Nat × Nat) := ((excL o).find? (fun r => r.1 == x)).map (fun r => (r.2.1, r.2.2.1))
